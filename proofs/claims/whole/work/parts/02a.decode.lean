theorem dX0_ofFloat_0 : decode cX0_ofFloat 0 = .ok (.fload_n 0, 1) := by decide +kernel
theorem dX0_ofFloat_1 : decode cX0_ofFloat 1 = .ok (.fconst 0, 1) := by decide +kernel
theorem dX0_ofFloat_2 : decode cX0_ofFloat 2 = .ok (.fcmp .l, 1) := by decide +kernel
theorem dX0_ofFloat_3 : decode cX0_ofFloat 3 = .ok (.ifCond .gt 5, 3) := by decide +kernel
theorem dX0_ofFloat_6 : decode cX0_ofFloat 6 = .ok (.iconst 0, 1) := by decide +kernel
theorem dX0_ofFloat_7 : decode cX0_ofFloat 7 = .ok (.ireturn, 1) := by decide +kernel
theorem dX0_ofFloat_8 : decode cX0_ofFloat 8 = .ok (.fload_n 0, 1) := by decide +kernel
theorem dX0_ofFloat_9 : decode cX0_ofFloat 9 = .ok (.f2d, 1) := by decide +kernel
theorem dX0_ofFloat_10 : decode cX0_ofFloat 10 = .ok (.invokestatic 7, 3) := by decide +kernel
theorem dX0_ofFloat_13 : decode cX0_ofFloat 13 = .ok (.lstore_n 1, 1) := by decide +kernel
theorem dX0_ofFloat_14 : decode cX0_ofFloat 14 = .ok (.lload_n 1, 1) := by decide +kernel
theorem dX0_ofFloat_15 : decode cX0_ofFloat 15 = .ok (.bipush 52, 2) := by decide +kernel
theorem dX0_ofFloat_17 : decode cX0_ofFloat 17 = .ok (.lshr, 1) := by decide +kernel
theorem dX0_ofFloat_18 : decode cX0_ofFloat 18 = .ok (.l2i, 1) := by decide +kernel
theorem dX0_ofFloat_19 : decode cX0_ofFloat 19 = .ok (.sipush 1023, 3) := by decide +kernel
theorem dX0_ofFloat_22 : decode cX0_ofFloat 22 = .ok (.isub, 1) := by decide +kernel
theorem dX0_ofFloat_23 : decode cX0_ofFloat 23 = .ok (.bipush 127, 2) := by decide +kernel
theorem dX0_ofFloat_25 : decode cX0_ofFloat 25 = .ok (.iadd, 1) := by decide +kernel
theorem dX0_ofFloat_26 : decode cX0_ofFloat 26 = .ok (.istore_n 3, 1) := by decide +kernel
theorem dX0_ofFloat_27 : decode cX0_ofFloat 27 = .ok (.lload_n 1, 1) := by decide +kernel
theorem dX0_ofFloat_28 : decode cX0_ofFloat 28 = .ok (.bipush 29, 2) := by decide +kernel
theorem dX0_ofFloat_30 : decode cX0_ofFloat 30 = .ok (.lshr, 1) := by decide +kernel
theorem dX0_ofFloat_31 : decode cX0_ofFloat 31 = .ok (.l2i, 1) := by decide +kernel
theorem dX0_ofFloat_32 : decode cX0_ofFloat 32 = .ok (.ldc 13, 2) := by decide +kernel
theorem dX0_ofFloat_34 : decode cX0_ofFloat 34 = .ok (.iand, 1) := by decide +kernel
theorem dX0_ofFloat_35 : decode cX0_ofFloat 35 = .ok (.istore 4, 2) := by decide +kernel
theorem dX0_ofFloat_37 : decode cX0_ofFloat 37 = .ok (.iload_n 3, 1) := by decide +kernel
theorem dX0_ofFloat_38 : decode cX0_ofFloat 38 = .ok (.bipush 23, 2) := by decide +kernel
theorem dX0_ofFloat_40 : decode cX0_ofFloat 40 = .ok (.ishl, 1) := by decide +kernel
theorem dX0_ofFloat_41 : decode cX0_ofFloat 41 = .ok (.iload 4, 2) := by decide +kernel
theorem dX0_ofFloat_43 : decode cX0_ofFloat 43 = .ok (.ior, 1) := by decide +kernel
theorem dX0_ofFloat_44 : decode cX0_ofFloat 44 = .ok (.ireturn, 1) := by decide +kernel
theorem dX0_ofDouble_0 : decode cX0_ofDouble 0 = .ok (.dload_n 0, 1) := by decide +kernel
theorem dX0_ofDouble_1 : decode cX0_ofDouble 1 = .ok (.dconst 0, 1) := by decide +kernel
theorem dX0_ofDouble_2 : decode cX0_ofDouble 2 = .ok (.dcmp .l, 1) := by decide +kernel
theorem dX0_ofDouble_3 : decode cX0_ofDouble 3 = .ok (.ifCond .gt 5, 3) := by decide +kernel
theorem dX0_ofDouble_6 : decode cX0_ofDouble 6 = .ok (.lconst 0, 1) := by decide +kernel
theorem dX0_ofDouble_7 : decode cX0_ofDouble 7 = .ok (.lreturn, 1) := by decide +kernel
theorem dX0_ofDouble_8 : decode cX0_ofDouble 8 = .ok (.dload_n 0, 1) := by decide +kernel
theorem dX0_ofDouble_9 : decode cX0_ofDouble 9 = .ok (.dstore_n 2, 1) := by decide +kernel
theorem dX0_ofDouble_10 : decode cX0_ofDouble 10 = .ok (.ldc2_w 14, 3) := by decide +kernel
theorem dX0_ofDouble_13 : decode cX0_ofDouble 13 = .ok (.lstore 4, 2) := by decide +kernel
theorem dX0_ofDouble_15 : decode cX0_ofDouble 15 = .ok (.iconst 0, 1) := by decide +kernel
theorem dX0_ofDouble_16 : decode cX0_ofDouble 16 = .ok (.istore 6, 2) := by decide +kernel
theorem dX0_ofDouble_18 : decode cX0_ofDouble 18 = .ok (.iload 6, 2) := by decide +kernel
theorem dX0_ofDouble_20 : decode cX0_ofDouble 20 = .ok (.sipush 1024, 3) := by decide +kernel
theorem dX0_ofDouble_23 : decode cX0_ofDouble 23 = .ok (.if_icmp .ge 29, 3) := by decide +kernel
theorem dX0_ofDouble_26 : decode cX0_ofDouble 26 = .ok (.dload_n 2, 1) := by decide +kernel
theorem dX0_ofDouble_27 : decode cX0_ofDouble 27 = .ok (.ldc2_w 16, 3) := by decide +kernel
theorem dX0_ofDouble_30 : decode cX0_ofDouble 30 = .ok (.dcmp .l, 1) := by decide +kernel
theorem dX0_ofDouble_31 : decode cX0_ofDouble 31 = .ok (.ifCond .lt 21, 3) := by decide +kernel
theorem dX0_ofDouble_34 : decode cX0_ofDouble 34 = .ok (.dload_n 2, 1) := by decide +kernel
theorem dX0_ofDouble_35 : decode cX0_ofDouble 35 = .ok (.ldc2_w 16, 3) := by decide +kernel
theorem dX0_ofDouble_38 : decode cX0_ofDouble 38 = .ok (.ddiv, 1) := by decide +kernel
theorem dX0_ofDouble_39 : decode cX0_ofDouble 39 = .ok (.dstore_n 2, 1) := by decide +kernel
theorem dX0_ofDouble_40 : decode cX0_ofDouble 40 = .ok (.lload 4, 2) := by decide +kernel
theorem dX0_ofDouble_42 : decode cX0_ofDouble 42 = .ok (.lconst 1, 1) := by decide +kernel
theorem dX0_ofDouble_43 : decode cX0_ofDouble 43 = .ok (.ladd, 1) := by decide +kernel
theorem dX0_ofDouble_44 : decode cX0_ofDouble 44 = .ok (.lstore 4, 2) := by decide +kernel
theorem dX0_ofDouble_46 : decode cX0_ofDouble 46 = .ok (.iinc 6 1, 3) := by decide +kernel
theorem dX0_ofDouble_49 : decode cX0_ofDouble 49 = .ok (.goto (-31), 3) := by decide +kernel
theorem dX0_ofDouble_52 : decode cX0_ofDouble 52 = .ok (.iconst 0, 1) := by decide +kernel
theorem dX0_ofDouble_53 : decode cX0_ofDouble 53 = .ok (.istore 6, 2) := by decide +kernel
theorem dX0_ofDouble_55 : decode cX0_ofDouble 55 = .ok (.iload 6, 2) := by decide +kernel
theorem dX0_ofDouble_57 : decode cX0_ofDouble 57 = .ok (.sipush 1023, 3) := by decide +kernel
theorem dX0_ofDouble_60 : decode cX0_ofDouble 60 = .ok (.if_icmp .ge 27, 3) := by decide +kernel
theorem dX0_ofDouble_63 : decode cX0_ofDouble 63 = .ok (.dload_n 2, 1) := by decide +kernel
theorem dX0_ofDouble_64 : decode cX0_ofDouble 64 = .ok (.dconst 1, 1) := by decide +kernel
theorem dX0_ofDouble_65 : decode cX0_ofDouble 65 = .ok (.dcmp .g, 1) := by decide +kernel
theorem dX0_ofDouble_66 : decode cX0_ofDouble 66 = .ok (.ifCond .ge 21, 3) := by decide +kernel
theorem dX0_ofDouble_69 : decode cX0_ofDouble 69 = .ok (.dload_n 2, 1) := by decide +kernel
theorem dX0_ofDouble_70 : decode cX0_ofDouble 70 = .ok (.ldc2_w 16, 3) := by decide +kernel
theorem dX0_ofDouble_73 : decode cX0_ofDouble 73 = .ok (.dmul, 1) := by decide +kernel
theorem dX0_ofDouble_74 : decode cX0_ofDouble 74 = .ok (.dstore_n 2, 1) := by decide +kernel
theorem dX0_ofDouble_75 : decode cX0_ofDouble 75 = .ok (.lload 4, 2) := by decide +kernel
theorem dX0_ofDouble_77 : decode cX0_ofDouble 77 = .ok (.lconst 1, 1) := by decide +kernel
theorem dX0_ofDouble_78 : decode cX0_ofDouble 78 = .ok (.lsub, 1) := by decide +kernel
theorem dX0_ofDouble_79 : decode cX0_ofDouble 79 = .ok (.lstore 4, 2) := by decide +kernel
theorem dX0_ofDouble_81 : decode cX0_ofDouble 81 = .ok (.iinc 6 1, 3) := by decide +kernel
theorem dX0_ofDouble_84 : decode cX0_ofDouble 84 = .ok (.goto (-29), 3) := by decide +kernel
theorem dX0_ofDouble_87 : decode cX0_ofDouble 87 = .ok (.ldc2_w 18, 3) := by decide +kernel
theorem dX0_ofDouble_90 : decode cX0_ofDouble 90 = .ok (.lstore 6, 2) := by decide +kernel
theorem dX0_ofDouble_92 : decode cX0_ofDouble 92 = .ok (.lload 4, 2) := by decide +kernel
theorem dX0_ofDouble_94 : decode cX0_ofDouble 94 = .ok (.bipush 52, 2) := by decide +kernel
theorem dX0_ofDouble_96 : decode cX0_ofDouble 96 = .ok (.lshl, 1) := by decide +kernel
theorem dX0_ofDouble_97 : decode cX0_ofDouble 97 = .ok (.dload_n 2, 1) := by decide +kernel
theorem dX0_ofDouble_98 : decode cX0_ofDouble 98 = .ok (.lload 6, 2) := by decide +kernel
theorem dX0_ofDouble_100 : decode cX0_ofDouble 100 = .ok (.l2d, 1) := by decide +kernel
theorem dX0_ofDouble_101 : decode cX0_ofDouble 101 = .ok (.dmul, 1) := by decide +kernel
theorem dX0_ofDouble_102 : decode cX0_ofDouble 102 = .ok (.d2l, 1) := by decide +kernel
theorem dX0_ofDouble_103 : decode cX0_ofDouble 103 = .ok (.lload 6, 2) := by decide +kernel
theorem dX0_ofDouble_105 : decode cX0_ofDouble 105 = .ok (.lsub, 1) := by decide +kernel
theorem dX0_ofDouble_106 : decode cX0_ofDouble 106 = .ok (.ladd, 1) := by decide +kernel
theorem dX0_ofDouble_107 : decode cX0_ofDouble 107 = .ok (.lreturn, 1) := by decide +kernel
theorem dX1_init_0 : decode cX1_init 0 = .ok (.aload_n 0, 1) := by decide +kernel
theorem dX1_init_1 : decode cX1_init 1 = .ok (.invokespecial 1, 3) := by decide +kernel
theorem dX1_init_4 : decode cX1_init 4 = .ok (.aload_n 0, 1) := by decide +kernel
theorem dX1_init_5 : decode cX1_init 5 = .ok (.iconst 0, 1) := by decide +kernel
theorem dX1_init_6 : decode cX1_init 6 = .ok (.newarray .int, 2) := by decide +kernel
theorem dX1_init_8 : decode cX1_init 8 = .ok (.putfield 7, 3) := by decide +kernel
theorem dX1_init_11 : decode cX1_init 11 = .ok (.return_, 1) := by decide +kernel
theorem dX1_find_0 : decode cX1_find 0 = .ok (.aload_n 0, 1) := by decide +kernel
theorem dX1_find_1 : decode cX1_find 1 = .ok (.getfield 7, 3) := by decide +kernel
theorem dX1_find_4 : decode cX1_find 4 = .ok (.arraylength, 1) := by decide +kernel
theorem dX1_find_5 : decode cX1_find 5 = .ok (.iload 4, 2) := by decide +kernel
theorem dX1_find_7 : decode cX1_find 7 = .ok (.if_icmp .ge 11, 3) := by decide +kernel
theorem dX1_find_10 : decode cX1_find 10 = .ok (.aload_n 0, 1) := by decide +kernel
theorem dX1_find_11 : decode cX1_find 11 = .ok (.iload 4, 2) := by decide +kernel
theorem dX1_find_13 : decode cX1_find 13 = .ok (.newarray .int, 2) := by decide +kernel
theorem dX1_find_15 : decode cX1_find 15 = .ok (.putfield 7, 3) := by decide +kernel
theorem dX1_find_18 : decode cX1_find 18 = .ok (.aload_n 0, 1) := by decide +kernel
theorem dX1_find_19 : decode cX1_find 19 = .ok (.iconst 0, 1) := by decide +kernel
theorem dX1_find_20 : decode cX1_find 20 = .ok (.putfield 13, 3) := by decide +kernel
theorem dX1_find_23 : decode cX1_find 23 = .ok (.iconst 0, 1) := by decide +kernel
theorem dX1_find_24 : decode cX1_find 24 = .ok (.istore 5, 2) := by decide +kernel
theorem dX1_find_26 : decode cX1_find 26 = .ok (.iconst 0, 1) := by decide +kernel
theorem dX1_find_27 : decode cX1_find 27 = .ok (.istore 6, 2) := by decide +kernel
theorem dX1_find_29 : decode cX1_find 29 = .ok (.iload 6, 2) := by decide +kernel
theorem dX1_find_31 : decode cX1_find 31 = .ok (.iload 4, 2) := by decide +kernel
theorem dX1_find_33 : decode cX1_find 33 = .ok (.if_icmp .ge 52, 3) := by decide +kernel
theorem dX1_find_36 : decode cX1_find 36 = .ok (.aload_n 1, 1) := by decide +kernel
theorem dX1_find_37 : decode cX1_find 37 = .ok (.iload 5, 2) := by decide +kernel
theorem dX1_find_39 : decode cX1_find 39 = .ok (.iload_n 2, 1) := by decide +kernel
theorem dX1_find_40 : decode cX1_find 40 = .ok (.invokevirtual 17, 3) := by decide +kernel
theorem dX1_find_43 : decode cX1_find 43 = .ok (.ifCond .eq 24, 3) := by decide +kernel
theorem dX1_find_46 : decode cX1_find 46 = .ok (.aload_n 0, 1) := by decide +kernel
theorem dX1_find_47 : decode cX1_find 47 = .ok (.getfield 7, 3) := by decide +kernel
theorem dX1_find_50 : decode cX1_find 50 = .ok (.aload_n 0, 1) := by decide +kernel
theorem dX1_find_51 : decode cX1_find 51 = .ok (.getfield 13, 3) := by decide +kernel
theorem dX1_find_54 : decode cX1_find 54 = .ok (.iload 5, 2) := by decide +kernel
theorem dX1_find_56 : decode cX1_find 56 = .ok (.iastore, 1) := by decide +kernel
theorem dX1_find_57 : decode cX1_find 57 = .ok (.aload_n 0, 1) := by decide +kernel
theorem dX1_find_58 : decode cX1_find 58 = .ok (.dup, 1) := by decide +kernel
theorem dX1_find_59 : decode cX1_find 59 = .ok (.getfield 13, 3) := by decide +kernel
theorem dX1_find_62 : decode cX1_find 62 = .ok (.iconst 1, 1) := by decide +kernel
theorem dX1_find_63 : decode cX1_find 63 = .ok (.iadd, 1) := by decide +kernel
theorem dX1_find_64 : decode cX1_find 64 = .ok (.putfield 13, 3) := by decide +kernel
theorem dX1_find_67 : decode cX1_find 67 = .ok (.iload 5, 2) := by decide +kernel
theorem dX1_find_69 : decode cX1_find 69 = .ok (.aload_n 1, 1) := by decide +kernel
theorem dX1_find_70 : decode cX1_find 70 = .ok (.getfield 23, 3) := by decide +kernel
theorem dX1_find_73 : decode cX1_find 73 = .ok (.iload_n 3, 1) := by decide +kernel
theorem dX1_find_74 : decode cX1_find 74 = .ok (.invokestatic 26, 3) := by decide +kernel
theorem dX1_find_77 : decode cX1_find 77 = .ok (.istore 5, 2) := by decide +kernel
theorem dX1_find_79 : decode cX1_find 79 = .ok (.iinc 6 1, 3) := by decide +kernel
theorem dX1_find_82 : decode cX1_find 82 = .ok (.goto (-53), 3) := by decide +kernel
theorem dX1_find_85 : decode cX1_find 85 = .ok (.aload_n 0, 1) := by decide +kernel
theorem dX1_find_86 : decode cX1_find 86 = .ok (.iconst 1, 1) := by decide +kernel
theorem dX1_find_87 : decode cX1_find 87 = .ok (.putfield 32, 3) := by decide +kernel
theorem dX1_find_90 : decode cX1_find 90 = .ok (.return_, 1) := by decide +kernel
theorem dX2_at_0 : decode cX2_at 0 = .ok (.iload_n 0, 1) := by decide +kernel
theorem dX2_at_1 : decode cX2_at 1 = .ok (.bipush 15, 2) := by decide +kernel
theorem dX2_at_3 : decode cX2_at 3 = .ok (.iconst 3, 1) := by decide +kernel
theorem dX2_at_4 : decode cX2_at 4 = .ok (.iload_n 1, 1) := by decide +kernel
theorem dX2_at_5 : decode cX2_at 5 = .ok (.imul, 1) := by decide +kernel
theorem dX2_at_6 : decode cX2_at 6 = .ok (.isub, 1) := by decide +kernel
theorem dX2_at_7 : decode cX2_at 7 = .ok (.ishr, 1) := by decide +kernel
theorem dX2_at_8 : decode cX2_at 8 = .ok (.bipush 7, 2) := by decide +kernel
theorem dX2_at_10 : decode cX2_at 10 = .ok (.iand, 1) := by decide +kernel
theorem dX2_at_11 : decode cX2_at 11 = .ok (.ireturn, 1) := by decide +kernel
theorem dX2_put_0 : decode cX2_put 0 = .ok (.iload_n 0, 1) := by decide +kernel
theorem dX2_put_1 : decode cX2_put 1 = .ok (.bipush 15, 2) := by decide +kernel
theorem dX2_put_3 : decode cX2_put 3 = .ok (.iconst 3, 1) := by decide +kernel
theorem dX2_put_4 : decode cX2_put 4 = .ok (.iload_n 1, 1) := by decide +kernel
theorem dX2_put_5 : decode cX2_put 5 = .ok (.imul, 1) := by decide +kernel
theorem dX2_put_6 : decode cX2_put 6 = .ok (.isub, 1) := by decide +kernel
theorem dX2_put_7 : decode cX2_put 7 = .ok (.ishl, 1) := by decide +kernel
theorem dX2_put_8 : decode cX2_put 8 = .ok (.ireturn, 1) := by decide +kernel
theorem dX2_packed_0 : decode cX2_packed 0 = .ok (.iload_n 0, 1) := by decide +kernel
theorem dX2_packed_1 : decode cX2_packed 1 = .ok (.istore 4, 2) := by decide +kernel
theorem dX2_packed_3 : decode cX2_packed 3 = .ok (.iconst 0, 1) := by decide +kernel
theorem dX2_packed_4 : decode cX2_packed 4 = .ok (.istore 5, 2) := by decide +kernel
theorem dX2_packed_6 : decode cX2_packed 6 = .ok (.iload_n 1, 1) := by decide +kernel
theorem dX2_packed_7 : decode cX2_packed 7 = .ok (.iconst 1, 1) := by decide +kernel
theorem dX2_packed_8 : decode cX2_packed 8 = .ok (.isub, 1) := by decide +kernel
theorem dX2_packed_9 : decode cX2_packed 9 = .ok (.istore 6, 2) := by decide +kernel
theorem dX2_packed_11 : decode cX2_packed 11 = .ok (.iload 6, 2) := by decide +kernel
theorem dX2_packed_13 : decode cX2_packed 13 = .ok (.ifCond .lt 50, 3) := by decide +kernel
theorem dX2_packed_16 : decode cX2_packed 16 = .ok (.iload 4, 2) := by decide +kernel
theorem dX2_packed_18 : decode cX2_packed 18 = .ok (.bipush 10, 2) := by decide +kernel
theorem dX2_packed_20 : decode cX2_packed 20 = .ok (.irem, 1) := by decide +kernel
theorem dX2_packed_21 : decode cX2_packed 21 = .ok (.iload_n 2, 1) := by decide +kernel
theorem dX2_packed_22 : decode cX2_packed 22 = .ok (.isub, 1) := by decide +kernel
theorem dX2_packed_23 : decode cX2_packed 23 = .ok (.istore 7, 2) := by decide +kernel
theorem dX2_packed_25 : decode cX2_packed 25 = .ok (.iload 7, 2) := by decide +kernel
theorem dX2_packed_27 : decode cX2_packed 27 = .ok (.ifCond .lt 9, 3) := by decide +kernel
theorem dX2_packed_30 : decode cX2_packed 30 = .ok (.iload 7, 2) := by decide +kernel
theorem dX2_packed_32 : decode cX2_packed 32 = .ok (.iload_n 3, 1) := by decide +kernel
theorem dX2_packed_33 : decode cX2_packed 33 = .ok (.if_icmp .lt 5, 3) := by decide +kernel
theorem dX2_packed_36 : decode cX2_packed 36 = .ok (.iconst (-1), 1) := by decide +kernel
theorem dX2_packed_37 : decode cX2_packed 37 = .ok (.ireturn, 1) := by decide +kernel
theorem dX2_packed_38 : decode cX2_packed 38 = .ok (.iload 5, 2) := by decide +kernel
theorem dX2_packed_40 : decode cX2_packed 40 = .ok (.iload 7, 2) := by decide +kernel
theorem dX2_packed_42 : decode cX2_packed 42 = .ok (.iload 6, 2) := by decide +kernel
theorem dX2_packed_44 : decode cX2_packed 44 = .ok (.invokestatic 11, 3) := by decide +kernel
theorem dX2_packed_47 : decode cX2_packed 47 = .ok (.ior, 1) := by decide +kernel
theorem dX2_packed_48 : decode cX2_packed 48 = .ok (.istore 5, 2) := by decide +kernel
theorem dX2_packed_50 : decode cX2_packed 50 = .ok (.iload 4, 2) := by decide +kernel
theorem dX2_packed_52 : decode cX2_packed 52 = .ok (.bipush 10, 2) := by decide +kernel
theorem dX2_packed_54 : decode cX2_packed 54 = .ok (.idiv, 1) := by decide +kernel
theorem dX2_packed_55 : decode cX2_packed 55 = .ok (.istore 4, 2) := by decide +kernel
theorem dX2_packed_57 : decode cX2_packed 57 = .ok (.iinc 6 (-1), 3) := by decide +kernel
theorem dX2_packed_60 : decode cX2_packed 60 = .ok (.goto (-49), 3) := by decide +kernel
theorem dX2_packed_63 : decode cX2_packed 63 = .ok (.iload 4, 2) := by decide +kernel
theorem dX2_packed_65 : decode cX2_packed 65 = .ok (.ifCond .ne 8, 3) := by decide +kernel
theorem dX2_packed_68 : decode cX2_packed 68 = .ok (.iload 5, 2) := by decide +kernel
theorem dX2_packed_70 : decode cX2_packed 70 = .ok (.goto 4, 3) := by decide +kernel
theorem dX2_packed_73 : decode cX2_packed 73 = .ok (.iconst (-1), 1) := by decide +kernel
theorem dX2_packed_74 : decode cX2_packed 74 = .ok (.ireturn, 1) := by decide +kernel
theorem dX2_packedRow_0 : decode cX2_packedRow 0 = .ok (.iload_n 0, 1) := by decide +kernel
theorem dX2_packedRow_1 : decode cX2_packedRow 1 = .ok (.iload_n 1, 1) := by decide +kernel
theorem dX2_packedRow_2 : decode cX2_packedRow 2 = .ok (.iconst 1, 1) := by decide +kernel
theorem dX2_packedRow_3 : decode cX2_packedRow 3 = .ok (.iload_n 1, 1) := by decide +kernel
theorem dX2_packedRow_4 : decode cX2_packedRow 4 = .ok (.invokestatic 15, 3) := by decide +kernel
theorem dX2_packedRow_7 : decode cX2_packedRow 7 = .ok (.istore_n 2, 1) := by decide +kernel
theorem dX2_packedRow_8 : decode cX2_packedRow 8 = .ok (.iconst 0, 1) := by decide +kernel
theorem dX2_packedRow_9 : decode cX2_packedRow 9 = .ok (.istore_n 3, 1) := by decide +kernel
theorem dX2_packedRow_10 : decode cX2_packedRow 10 = .ok (.iconst 0, 1) := by decide +kernel
theorem dX2_packedRow_11 : decode cX2_packedRow 11 = .ok (.istore 4, 2) := by decide +kernel
theorem dX2_packedRow_13 : decode cX2_packedRow 13 = .ok (.iload_n 2, 1) := by decide +kernel
theorem dX2_packedRow_14 : decode cX2_packedRow 14 = .ok (.ifCond .lt 26, 3) := by decide +kernel
theorem dX2_packedRow_17 : decode cX2_packedRow 17 = .ok (.iload 4, 2) := by decide +kernel
theorem dX2_packedRow_19 : decode cX2_packedRow 19 = .ok (.iload_n 1, 1) := by decide +kernel
theorem dX2_packedRow_20 : decode cX2_packedRow 20 = .ok (.if_icmp .ge 20, 3) := by decide +kernel
theorem dX2_packedRow_23 : decode cX2_packedRow 23 = .ok (.iload_n 3, 1) := by decide +kernel
theorem dX2_packedRow_24 : decode cX2_packedRow 24 = .ok (.iconst 1, 1) := by decide +kernel
theorem dX2_packedRow_25 : decode cX2_packedRow 25 = .ok (.iload_n 2, 1) := by decide +kernel
theorem dX2_packedRow_26 : decode cX2_packedRow 26 = .ok (.iload 4, 2) := by decide +kernel
theorem dX2_packedRow_28 : decode cX2_packedRow 28 = .ok (.invokestatic 19, 3) := by decide +kernel
theorem dX2_packedRow_31 : decode cX2_packedRow 31 = .ok (.ishl, 1) := by decide +kernel
theorem dX2_packedRow_32 : decode cX2_packedRow 32 = .ok (.ior, 1) := by decide +kernel
theorem dX2_packedRow_33 : decode cX2_packedRow 33 = .ok (.istore_n 3, 1) := by decide +kernel
theorem dX2_packedRow_34 : decode cX2_packedRow 34 = .ok (.iinc 4 1, 3) := by decide +kernel
theorem dX2_packedRow_37 : decode cX2_packedRow 37 = .ok (.goto (-24), 3) := by decide +kernel
theorem dX2_packedRow_40 : decode cX2_packedRow 40 = .ok (.iload_n 3, 1) := by decide +kernel
theorem dX2_packedRow_41 : decode cX2_packedRow 41 = .ok (.iconst 1, 1) := by decide +kernel
theorem dX2_packedRow_42 : decode cX2_packedRow 42 = .ok (.iload_n 1, 1) := by decide +kernel
theorem dX2_packedRow_43 : decode cX2_packedRow 43 = .ok (.ishl, 1) := by decide +kernel
theorem dX2_packedRow_44 : decode cX2_packedRow 44 = .ok (.iconst 1, 1) := by decide +kernel
theorem dX2_packedRow_45 : decode cX2_packedRow 45 = .ok (.isub, 1) := by decide +kernel
theorem dX2_packedRow_46 : decode cX2_packedRow 46 = .ok (.if_icmp .ne 7, 3) := by decide +kernel
theorem dX2_packedRow_49 : decode cX2_packedRow 49 = .ok (.iload_n 2, 1) := by decide +kernel
theorem dX2_packedRow_50 : decode cX2_packedRow 50 = .ok (.goto 4, 3) := by decide +kernel
theorem dX2_packedRow_53 : decode cX2_packedRow 53 = .ok (.iconst (-1), 1) := by decide +kernel
theorem dX2_packedRow_54 : decode cX2_packedRow 54 = .ok (.ireturn, 1) := by decide +kernel
theorem dX2_number_0 : decode cX2_number 0 = .ok (.iconst 0, 1) := by decide +kernel
theorem dX2_number_1 : decode cX2_number 1 = .ok (.istore_n 3, 1) := by decide +kernel
theorem dX2_number_2 : decode cX2_number 2 = .ok (.iconst 0, 1) := by decide +kernel
theorem dX2_number_3 : decode cX2_number 3 = .ok (.istore 4, 2) := by decide +kernel
theorem dX2_number_5 : decode cX2_number 5 = .ok (.iload 4, 2) := by decide +kernel
theorem dX2_number_7 : decode cX2_number 7 = .ok (.iload_n 1, 1) := by decide +kernel
theorem dX2_number_8 : decode cX2_number 8 = .ok (.if_icmp .ge 23, 3) := by decide +kernel
theorem dX2_number_11 : decode cX2_number 11 = .ok (.iload_n 3, 1) := by decide +kernel
theorem dX2_number_12 : decode cX2_number 12 = .ok (.bipush 10, 2) := by decide +kernel
theorem dX2_number_14 : decode cX2_number 14 = .ok (.imul, 1) := by decide +kernel
theorem dX2_number_15 : decode cX2_number 15 = .ok (.iload_n 0, 1) := by decide +kernel
theorem dX2_number_16 : decode cX2_number 16 = .ok (.iload 4, 2) := by decide +kernel
theorem dX2_number_18 : decode cX2_number 18 = .ok (.invokestatic 19, 3) := by decide +kernel
theorem dX2_number_21 : decode cX2_number 21 = .ok (.iadd, 1) := by decide +kernel
theorem dX2_number_22 : decode cX2_number 22 = .ok (.iload_n 2, 1) := by decide +kernel
theorem dX2_number_23 : decode cX2_number 23 = .ok (.iadd, 1) := by decide +kernel
theorem dX2_number_24 : decode cX2_number 24 = .ok (.istore_n 3, 1) := by decide +kernel
theorem dX2_number_25 : decode cX2_number 25 = .ok (.iinc 4 1, 3) := by decide +kernel
theorem dX2_number_28 : decode cX2_number 28 = .ok (.goto (-23), 3) := by decide +kernel
theorem dX2_number_31 : decode cX2_number 31 = .ok (.iload_n 3, 1) := by decide +kernel
theorem dX2_number_32 : decode cX2_number 32 = .ok (.ireturn, 1) := by decide +kernel
theorem dX2_unmoved_0 : decode cX2_unmoved 0 = .ok (.iconst 0, 1) := by decide +kernel
theorem dX2_unmoved_1 : decode cX2_unmoved 1 = .ok (.istore_n 1, 1) := by decide +kernel
theorem dX2_unmoved_2 : decode cX2_unmoved 2 = .ok (.iconst 0, 1) := by decide +kernel
theorem dX2_unmoved_3 : decode cX2_unmoved 3 = .ok (.istore_n 2, 1) := by decide +kernel
theorem dX2_unmoved_4 : decode cX2_unmoved 4 = .ok (.iload_n 2, 1) := by decide +kernel
theorem dX2_unmoved_5 : decode cX2_unmoved 5 = .ok (.iload_n 0, 1) := by decide +kernel
theorem dX2_unmoved_6 : decode cX2_unmoved 6 = .ok (.if_icmp .ge 17, 3) := by decide +kernel
theorem dX2_unmoved_9 : decode cX2_unmoved 9 = .ok (.iload_n 1, 1) := by decide +kernel
theorem dX2_unmoved_10 : decode cX2_unmoved 10 = .ok (.iload_n 2, 1) := by decide +kernel
theorem dX2_unmoved_11 : decode cX2_unmoved 11 = .ok (.iload_n 2, 1) := by decide +kernel
theorem dX2_unmoved_12 : decode cX2_unmoved 12 = .ok (.invokestatic 11, 3) := by decide +kernel
theorem dX2_unmoved_15 : decode cX2_unmoved 15 = .ok (.ior, 1) := by decide +kernel
theorem dX2_unmoved_16 : decode cX2_unmoved 16 = .ok (.istore_n 1, 1) := by decide +kernel
theorem dX2_unmoved_17 : decode cX2_unmoved 17 = .ok (.iinc 2 1, 3) := by decide +kernel
theorem dX2_unmoved_20 : decode cX2_unmoved 20 = .ok (.goto (-16), 3) := by decide +kernel
theorem dX2_unmoved_23 : decode cX2_unmoved 23 = .ok (.iload_n 1, 1) := by decide +kernel
theorem dX2_unmoved_24 : decode cX2_unmoved 24 = .ok (.ireturn, 1) := by decide +kernel
theorem dX2_moved_0 : decode cX2_moved 0 = .ok (.iconst 0, 1) := by decide +kernel
theorem dX2_moved_1 : decode cX2_moved 1 = .ok (.istore_n 3, 1) := by decide +kernel
theorem dX2_moved_2 : decode cX2_moved 2 = .ok (.iconst 0, 1) := by decide +kernel
theorem dX2_moved_3 : decode cX2_moved 3 = .ok (.istore 4, 2) := by decide +kernel
theorem dX2_moved_5 : decode cX2_moved 5 = .ok (.iload 4, 2) := by decide +kernel
theorem dX2_moved_7 : decode cX2_moved 7 = .ok (.iload_n 2, 1) := by decide +kernel
theorem dX2_moved_8 : decode cX2_moved 8 = .ok (.if_icmp .ge 27, 3) := by decide +kernel
theorem dX2_moved_11 : decode cX2_moved 11 = .ok (.iload_n 3, 1) := by decide +kernel
theorem dX2_moved_12 : decode cX2_moved 12 = .ok (.iload_n 0, 1) := by decide +kernel
theorem dX2_moved_13 : decode cX2_moved 13 = .ok (.iload_n 1, 1) := by decide +kernel
theorem dX2_moved_14 : decode cX2_moved 14 = .ok (.iload 4, 2) := by decide +kernel
theorem dX2_moved_16 : decode cX2_moved 16 = .ok (.invokestatic 19, 3) := by decide +kernel
theorem dX2_moved_19 : decode cX2_moved 19 = .ok (.invokestatic 19, 3) := by decide +kernel
theorem dX2_moved_22 : decode cX2_moved 22 = .ok (.iload 4, 2) := by decide +kernel
theorem dX2_moved_24 : decode cX2_moved 24 = .ok (.invokestatic 11, 3) := by decide +kernel
theorem dX2_moved_27 : decode cX2_moved 27 = .ok (.ior, 1) := by decide +kernel
theorem dX2_moved_28 : decode cX2_moved 28 = .ok (.istore_n 3, 1) := by decide +kernel
theorem dX2_moved_29 : decode cX2_moved 29 = .ok (.iinc 4 1, 3) := by decide +kernel
theorem dX2_moved_32 : decode cX2_moved 32 = .ok (.goto (-27), 3) := by decide +kernel
theorem dX2_moved_35 : decode cX2_moved 35 = .ok (.iload_n 3, 1) := by decide +kernel
theorem dX2_moved_36 : decode cX2_moved 36 = .ok (.ireturn, 1) := by decide +kernel
theorem dX2_becomesLess_0 : decode cX2_becomesLess 0 = .ok (.bipush 15, 2) := by decide +kernel
theorem dX2_becomesLess_2 : decode cX2_becomesLess 2 = .ok (.iconst 3, 1) := by decide +kernel
theorem dX2_becomesLess_3 : decode cX2_becomesLess 3 = .ok (.iload_n 2, 1) := by decide +kernel
theorem dX2_becomesLess_4 : decode cX2_becomesLess 4 = .ok (.iconst 1, 1) := by decide +kernel
theorem dX2_becomesLess_5 : decode cX2_becomesLess 5 = .ok (.isub, 1) := by decide +kernel
theorem dX2_becomesLess_6 : decode cX2_becomesLess 6 = .ok (.imul, 1) := by decide +kernel
theorem dX2_becomesLess_7 : decode cX2_becomesLess 7 = .ok (.isub, 1) := by decide +kernel
theorem dX2_becomesLess_8 : decode cX2_becomesLess 8 = .ok (.istore_n 3, 1) := by decide +kernel
theorem dX2_becomesLess_9 : decode cX2_becomesLess 9 = .ok (.bipush 15, 2) := by decide +kernel
theorem dX2_becomesLess_11 : decode cX2_becomesLess 11 = .ok (.istore 4, 2) := by decide +kernel
theorem dX2_becomesLess_13 : decode cX2_becomesLess 13 = .ok (.iload 4, 2) := by decide +kernel
theorem dX2_becomesLess_15 : decode cX2_becomesLess 15 = .ok (.iload_n 3, 1) := by decide +kernel
theorem dX2_becomesLess_16 : decode cX2_becomesLess 16 = .ok (.if_icmp .lt 52, 3) := by decide +kernel
theorem dX2_becomesLess_19 : decode cX2_becomesLess 19 = .ok (.iload_n 0, 1) := by decide +kernel
theorem dX2_becomesLess_20 : decode cX2_becomesLess 20 = .ok (.bipush 15, 2) := by decide +kernel
theorem dX2_becomesLess_22 : decode cX2_becomesLess 22 = .ok (.iconst 3, 1) := by decide +kernel
theorem dX2_becomesLess_23 : decode cX2_becomesLess 23 = .ok (.iload_n 1, 1) := by decide +kernel
theorem dX2_becomesLess_24 : decode cX2_becomesLess 24 = .ok (.iload 4, 2) := by decide +kernel
theorem dX2_becomesLess_26 : decode cX2_becomesLess 26 = .ok (.ishr, 1) := by decide +kernel
theorem dX2_becomesLess_27 : decode cX2_becomesLess 27 = .ok (.bipush 7, 2) := by decide +kernel
theorem dX2_becomesLess_29 : decode cX2_becomesLess 29 = .ok (.iand, 1) := by decide +kernel
theorem dX2_becomesLess_30 : decode cX2_becomesLess 30 = .ok (.imul, 1) := by decide +kernel
theorem dX2_becomesLess_31 : decode cX2_becomesLess 31 = .ok (.isub, 1) := by decide +kernel
theorem dX2_becomesLess_32 : decode cX2_becomesLess 32 = .ok (.ishr, 1) := by decide +kernel
theorem dX2_becomesLess_33 : decode cX2_becomesLess 33 = .ok (.bipush 7, 2) := by decide +kernel
theorem dX2_becomesLess_35 : decode cX2_becomesLess 35 = .ok (.iand, 1) := by decide +kernel
theorem dX2_becomesLess_36 : decode cX2_becomesLess 36 = .ok (.iload_n 0, 1) := by decide +kernel
theorem dX2_becomesLess_37 : decode cX2_becomesLess 37 = .ok (.iload 4, 2) := by decide +kernel
theorem dX2_becomesLess_39 : decode cX2_becomesLess 39 = .ok (.ishr, 1) := by decide +kernel
theorem dX2_becomesLess_40 : decode cX2_becomesLess 40 = .ok (.bipush 7, 2) := by decide +kernel
theorem dX2_becomesLess_42 : decode cX2_becomesLess 42 = .ok (.iand, 1) := by decide +kernel
theorem dX2_becomesLess_43 : decode cX2_becomesLess 43 = .ok (.isub, 1) := by decide +kernel
theorem dX2_becomesLess_44 : decode cX2_becomesLess 44 = .ok (.istore 5, 2) := by decide +kernel
theorem dX2_becomesLess_46 : decode cX2_becomesLess 46 = .ok (.iload 5, 2) := by decide +kernel
theorem dX2_becomesLess_48 : decode cX2_becomesLess 48 = .ok (.ifCond .eq 14, 3) := by decide +kernel
theorem dX2_becomesLess_51 : decode cX2_becomesLess 51 = .ok (.iload 5, 2) := by decide +kernel
theorem dX2_becomesLess_53 : decode cX2_becomesLess 53 = .ok (.ifCond .ge 7, 3) := by decide +kernel
theorem dX2_becomesLess_56 : decode cX2_becomesLess 56 = .ok (.iconst 1, 1) := by decide +kernel
theorem dX2_becomesLess_57 : decode cX2_becomesLess 57 = .ok (.goto 4, 3) := by decide +kernel
theorem dX2_becomesLess_60 : decode cX2_becomesLess 60 = .ok (.iconst 0, 1) := by decide +kernel
theorem dX2_becomesLess_61 : decode cX2_becomesLess 61 = .ok (.ireturn, 1) := by decide +kernel
theorem dX2_becomesLess_62 : decode cX2_becomesLess 62 = .ok (.iinc 4 (-3), 3) := by decide +kernel
theorem dX2_becomesLess_65 : decode cX2_becomesLess 65 = .ok (.goto (-52), 3) := by decide +kernel
theorem dX2_becomesLess_68 : decode cX2_becomesLess 68 = .ok (.iconst 0, 1) := by decide +kernel
theorem dX2_becomesLess_69 : decode cX2_becomesLess 69 = .ok (.ireturn, 1) := by decide +kernel
theorem dX2_nextPainting_0 : decode cX2_nextPainting 0 = .ok (.iload_n 0, 1) := by decide +kernel
theorem dX2_nextPainting_1 : decode cX2_nextPainting 1 = .ok (.istore_n 3, 1) := by decide +kernel
theorem dX2_nextPainting_2 : decode cX2_nextPainting 2 = .ok (.iload_n 1, 1) := by decide +kernel
theorem dX2_nextPainting_3 : decode cX2_nextPainting 3 = .ok (.iconst 1, 1) := by decide +kernel
theorem dX2_nextPainting_4 : decode cX2_nextPainting 4 = .ok (.isub, 1) := by decide +kernel
theorem dX2_nextPainting_5 : decode cX2_nextPainting 5 = .ok (.istore 4, 2) := by decide +kernel
theorem dX2_nextPainting_7 : decode cX2_nextPainting 7 = .ok (.iload 4, 2) := by decide +kernel
theorem dX2_nextPainting_9 : decode cX2_nextPainting 9 = .ok (.ifCond .lt 44, 3) := by decide +kernel
theorem dX2_nextPainting_12 : decode cX2_nextPainting 12 = .ok (.iload_n 3, 1) := by decide +kernel
theorem dX2_nextPainting_13 : decode cX2_nextPainting 13 = .ok (.iload 4, 2) := by decide +kernel
theorem dX2_nextPainting_15 : decode cX2_nextPainting 15 = .ok (.invokestatic 19, 3) := by decide +kernel
theorem dX2_nextPainting_18 : decode cX2_nextPainting 18 = .ok (.istore 5, 2) := by decide +kernel
theorem dX2_nextPainting_20 : decode cX2_nextPainting 20 = .ok (.iload 5, 2) := by decide +kernel
theorem dX2_nextPainting_22 : decode cX2_nextPainting 22 = .ok (.iload_n 2, 1) := by decide +kernel
theorem dX2_nextPainting_23 : decode cX2_nextPainting 23 = .ok (.iconst 1, 1) := by decide +kernel
theorem dX2_nextPainting_24 : decode cX2_nextPainting 24 = .ok (.isub, 1) := by decide +kernel
theorem dX2_nextPainting_25 : decode cX2_nextPainting 25 = .ok (.if_icmp .ge 12, 3) := by decide +kernel
theorem dX2_nextPainting_28 : decode cX2_nextPainting 28 = .ok (.iload_n 3, 1) := by decide +kernel
theorem dX2_nextPainting_29 : decode cX2_nextPainting 29 = .ok (.iconst 1, 1) := by decide +kernel
theorem dX2_nextPainting_30 : decode cX2_nextPainting 30 = .ok (.iload 4, 2) := by decide +kernel
theorem dX2_nextPainting_32 : decode cX2_nextPainting 32 = .ok (.invokestatic 11, 3) := by decide +kernel
theorem dX2_nextPainting_35 : decode cX2_nextPainting 35 = .ok (.iadd, 1) := by decide +kernel
theorem dX2_nextPainting_36 : decode cX2_nextPainting 36 = .ok (.ireturn, 1) := by decide +kernel
theorem dX2_nextPainting_37 : decode cX2_nextPainting 37 = .ok (.iload_n 3, 1) := by decide +kernel
theorem dX2_nextPainting_38 : decode cX2_nextPainting 38 = .ok (.iload 5, 2) := by decide +kernel
theorem dX2_nextPainting_40 : decode cX2_nextPainting 40 = .ok (.iload 4, 2) := by decide +kernel
theorem dX2_nextPainting_42 : decode cX2_nextPainting 42 = .ok (.invokestatic 11, 3) := by decide +kernel
theorem dX2_nextPainting_45 : decode cX2_nextPainting 45 = .ok (.isub, 1) := by decide +kernel
theorem dX2_nextPainting_46 : decode cX2_nextPainting 46 = .ok (.istore_n 3, 1) := by decide +kernel
theorem dX2_nextPainting_47 : decode cX2_nextPainting 47 = .ok (.iinc 4 (-1), 3) := by decide +kernel
theorem dX2_nextPainting_50 : decode cX2_nextPainting 50 = .ok (.goto (-43), 3) := by decide +kernel
theorem dX2_nextPainting_53 : decode cX2_nextPainting 53 = .ok (.iload_n 3, 1) := by decide +kernel
theorem dX2_nextPainting_54 : decode cX2_nextPainting 54 = .ok (.ireturn, 1) := by decide +kernel
theorem dX2_isOfKinds_0 : decode cX2_isOfKinds 0 = .ok (.iconst 0, 1) := by decide +kernel
theorem dX2_isOfKinds_1 : decode cX2_isOfKinds 1 = .ok (.istore_n 3, 1) := by decide +kernel
theorem dX2_isOfKinds_2 : decode cX2_isOfKinds 2 = .ok (.iload_n 3, 1) := by decide +kernel
theorem dX2_isOfKinds_3 : decode cX2_isOfKinds 3 = .ok (.iload_n 1, 1) := by decide +kernel
theorem dX2_isOfKinds_4 : decode cX2_isOfKinds 4 = .ok (.if_icmp .ge 20, 3) := by decide +kernel
theorem dX2_isOfKinds_7 : decode cX2_isOfKinds 7 = .ok (.iload_n 0, 1) := by decide +kernel
theorem dX2_isOfKinds_8 : decode cX2_isOfKinds 8 = .ok (.iload_n 3, 1) := by decide +kernel
theorem dX2_isOfKinds_9 : decode cX2_isOfKinds 9 = .ok (.invokestatic 19, 3) := by decide +kernel
theorem dX2_isOfKinds_12 : decode cX2_isOfKinds 12 = .ok (.iload_n 2, 1) := by decide +kernel
theorem dX2_isOfKinds_13 : decode cX2_isOfKinds 13 = .ok (.if_icmp .lt 5, 3) := by decide +kernel
theorem dX2_isOfKinds_16 : decode cX2_isOfKinds 16 = .ok (.iconst 0, 1) := by decide +kernel
theorem dX2_isOfKinds_17 : decode cX2_isOfKinds 17 = .ok (.ireturn, 1) := by decide +kernel
theorem dX2_isOfKinds_18 : decode cX2_isOfKinds 18 = .ok (.iinc 3 1, 3) := by decide +kernel
theorem dX2_isOfKinds_21 : decode cX2_isOfKinds 21 = .ok (.goto (-19), 3) := by decide +kernel
theorem dX2_isOfKinds_24 : decode cX2_isOfKinds 24 = .ok (.iconst 1, 1) := by decide +kernel
theorem dX2_isOfKinds_25 : decode cX2_isOfKinds 25 = .ok (.ireturn, 1) := by decide +kernel
theorem dX2_howOftenEach_0 : decode cX2_howOftenEach 0 = .ok (.iconst 0, 1) := by decide +kernel
theorem dX2_howOftenEach_1 : decode cX2_howOftenEach 1 = .ok (.istore_n 2, 1) := by decide +kernel
theorem dX2_howOftenEach_2 : decode cX2_howOftenEach 2 = .ok (.iconst 0, 1) := by decide +kernel
theorem dX2_howOftenEach_3 : decode cX2_howOftenEach 3 = .ok (.istore_n 3, 1) := by decide +kernel
theorem dX2_howOftenEach_4 : decode cX2_howOftenEach 4 = .ok (.iload_n 3, 1) := by decide +kernel
theorem dX2_howOftenEach_5 : decode cX2_howOftenEach 5 = .ok (.iload_n 1, 1) := by decide +kernel
theorem dX2_howOftenEach_6 : decode cX2_howOftenEach 6 = .ok (.if_icmp .ge 64, 3) := by decide +kernel
theorem dX2_howOftenEach_9 : decode cX2_howOftenEach 9 = .ok (.iload_n 0, 1) := by decide +kernel
theorem dX2_howOftenEach_10 : decode cX2_howOftenEach 10 = .ok (.iload_n 3, 1) := by decide +kernel
theorem dX2_howOftenEach_11 : decode cX2_howOftenEach 11 = .ok (.invokestatic 19, 3) := by decide +kernel
theorem dX2_howOftenEach_14 : decode cX2_howOftenEach 14 = .ok (.tableswitch 47 0 2 #[26, 35, 41], 26) := by decide +kernel
theorem dX2_howOftenEach_40 : decode cX2_howOftenEach 40 = .ok (.iinc 2 1000, 6) := by decide +kernel
theorem dX2_howOftenEach_46 : decode cX2_howOftenEach 46 = .ok (.goto 18, 3) := by decide +kernel
theorem dX2_howOftenEach_49 : decode cX2_howOftenEach 49 = .ok (.iinc 2 100, 3) := by decide +kernel
theorem dX2_howOftenEach_52 : decode cX2_howOftenEach 52 = .ok (.goto 12, 3) := by decide +kernel
theorem dX2_howOftenEach_55 : decode cX2_howOftenEach 55 = .ok (.iinc 2 10, 3) := by decide +kernel
theorem dX2_howOftenEach_58 : decode cX2_howOftenEach 58 = .ok (.goto 6, 3) := by decide +kernel
theorem dX2_howOftenEach_61 : decode cX2_howOftenEach 61 = .ok (.iinc 2 1, 3) := by decide +kernel
theorem dX2_howOftenEach_64 : decode cX2_howOftenEach 64 = .ok (.iinc 3 1, 3) := by decide +kernel
theorem dX2_howOftenEach_67 : decode cX2_howOftenEach 67 = .ok (.goto (-63), 3) := by decide +kernel
theorem dX2_howOftenEach_70 : decode cX2_howOftenEach 70 = .ok (.iload_n 2, 1) := by decide +kernel
theorem dX2_howOftenEach_71 : decode cX2_howOftenEach 71 = .ok (.ireturn, 1) := by decide +kernel
theorem dX2_cycleType_0 : decode cX2_cycleType 0 = .ok (.iconst 0, 1) := by decide +kernel
theorem dX2_cycleType_1 : decode cX2_cycleType 1 = .ok (.istore_n 2, 1) := by decide +kernel
theorem dX2_cycleType_2 : decode cX2_cycleType 2 = .ok (.iconst 0, 1) := by decide +kernel
theorem dX2_cycleType_3 : decode cX2_cycleType 3 = .ok (.istore_n 3, 1) := by decide +kernel
theorem dX2_cycleType_4 : decode cX2_cycleType 4 = .ok (.iconst 0, 1) := by decide +kernel
theorem dX2_cycleType_5 : decode cX2_cycleType 5 = .ok (.istore 4, 2) := by decide +kernel
theorem dX2_cycleType_7 : decode cX2_cycleType 7 = .ok (.iload 4, 2) := by decide +kernel
theorem dX2_cycleType_9 : decode cX2_cycleType 9 = .ok (.iload_n 1, 1) := by decide +kernel
theorem dX2_cycleType_10 : decode cX2_cycleType 10 = .ok (.if_icmp .ge 62, 3) := by decide +kernel
theorem dX2_cycleType_13 : decode cX2_cycleType 13 = .ok (.iconst 0, 1) := by decide +kernel
theorem dX2_cycleType_14 : decode cX2_cycleType 14 = .ok (.istore 5, 2) := by decide +kernel
theorem dX2_cycleType_16 : decode cX2_cycleType 16 = .ok (.iload 4, 2) := by decide +kernel
theorem dX2_cycleType_18 : decode cX2_cycleType 18 = .ok (.istore 6, 2) := by decide +kernel
theorem dX2_cycleType_20 : decode cX2_cycleType 20 = .ok (.iload 5, 2) := by decide +kernel
theorem dX2_cycleType_22 : decode cX2_cycleType 22 = .ok (.bipush 6, 2) := by decide +kernel
theorem dX2_cycleType_24 : decode cX2_cycleType 24 = .ok (.if_icmp .ge 33, 3) := by decide +kernel
theorem dX2_cycleType_27 : decode cX2_cycleType 27 = .ok (.iload_n 3, 1) := by decide +kernel
theorem dX2_cycleType_28 : decode cX2_cycleType 28 = .ok (.iload 6, 2) := by decide +kernel
theorem dX2_cycleType_30 : decode cX2_cycleType 30 = .ok (.ishr, 1) := by decide +kernel
theorem dX2_cycleType_31 : decode cX2_cycleType 31 = .ok (.iconst 1, 1) := by decide +kernel
theorem dX2_cycleType_32 : decode cX2_cycleType 32 = .ok (.iand, 1) := by decide +kernel
theorem dX2_cycleType_33 : decode cX2_cycleType 33 = .ok (.ifCond .ne 24, 3) := by decide +kernel
theorem dX2_cycleType_36 : decode cX2_cycleType 36 = .ok (.iload_n 3, 1) := by decide +kernel
theorem dX2_cycleType_37 : decode cX2_cycleType 37 = .ok (.iconst 1, 1) := by decide +kernel
theorem dX2_cycleType_38 : decode cX2_cycleType 38 = .ok (.iload 6, 2) := by decide +kernel
theorem dX2_cycleType_40 : decode cX2_cycleType 40 = .ok (.ishl, 1) := by decide +kernel
theorem dX2_cycleType_41 : decode cX2_cycleType 41 = .ok (.ior, 1) := by decide +kernel
theorem dX2_cycleType_42 : decode cX2_cycleType 42 = .ok (.istore_n 3, 1) := by decide +kernel
theorem dX2_cycleType_43 : decode cX2_cycleType 43 = .ok (.iload_n 0, 1) := by decide +kernel
theorem dX2_cycleType_44 : decode cX2_cycleType 44 = .ok (.iload 6, 2) := by decide +kernel
theorem dX2_cycleType_46 : decode cX2_cycleType 46 = .ok (.invokestatic 19, 3) := by decide +kernel
theorem dX2_cycleType_49 : decode cX2_cycleType 49 = .ok (.istore 6, 2) := by decide +kernel
theorem dX2_cycleType_51 : decode cX2_cycleType 51 = .ok (.iinc 5 1, 3) := by decide +kernel
theorem dX2_cycleType_54 : decode cX2_cycleType 54 = .ok (.goto (-34), 3) := by decide +kernel
theorem dX2_cycleType_57 : decode cX2_cycleType 57 = .ok (.iload_n 2, 1) := by decide +kernel
theorem dX2_cycleType_58 : decode cX2_cycleType 58 = .ok (.getstatic 22, 3) := by decide +kernel
theorem dX2_cycleType_61 : decode cX2_cycleType 61 = .ok (.iload 5, 2) := by decide +kernel
theorem dX2_cycleType_63 : decode cX2_cycleType 63 = .ok (.iaload, 1) := by decide +kernel
theorem dX2_cycleType_64 : decode cX2_cycleType 64 = .ok (.iadd, 1) := by decide +kernel
theorem dX2_cycleType_65 : decode cX2_cycleType 65 = .ok (.istore_n 2, 1) := by decide +kernel
theorem dX2_cycleType_66 : decode cX2_cycleType 66 = .ok (.iinc 4 1, 3) := by decide +kernel
theorem dX2_cycleType_69 : decode cX2_cycleType 69 = .ok (.goto (-62), 3) := by decide +kernel
theorem dX2_cycleType_72 : decode cX2_cycleType 72 = .ok (.iload_n 2, 1) := by decide +kernel
theorem dX2_cycleType_73 : decode cX2_cycleType 73 = .ok (.ireturn, 1) := by decide +kernel
theorem dX3_init_0 : decode cX3_init 0 = .ok (.aload_n 0, 1) := by decide +kernel
theorem dX3_init_1 : decode cX3_init 1 = .ok (.invokespecial 3, 3) := by decide +kernel
theorem dX3_init_4 : decode cX3_init 4 = .ok (.aload_n 0, 1) := by decide +kernel
theorem dX3_init_5 : decode cX3_init 5 = .ok (.iconst 4, 1) := by decide +kernel
theorem dX3_init_6 : decode cX3_init 6 = .ok (.putfield 9, 3) := by decide +kernel
theorem dX3_init_9 : decode cX3_init 9 = .ok (.aload_n 0, 1) := by decide +kernel
theorem dX3_init_10 : decode cX3_init 10 = .ok (.iconst 2, 1) := by decide +kernel
theorem dX3_init_11 : decode cX3_init 11 = .ok (.putfield 15, 3) := by decide +kernel
theorem dX3_init_14 : decode cX3_init 14 = .ok (.aload_n 0, 1) := by decide +kernel
theorem dX3_init_15 : decode cX3_init 15 = .ok (.iconst 4, 1) := by decide +kernel
theorem dX3_init_16 : decode cX3_init 16 = .ok (.newarray .int, 2) := by decide +kernel
theorem dX3_init_18 : decode cX3_init 18 = .ok (.dup, 1) := by decide +kernel
theorem dX3_init_19 : decode cX3_init 19 = .ok (.iconst 0, 1) := by decide +kernel
theorem dX3_init_20 : decode cX3_init 20 = .ok (.iconst 0, 1) := by decide +kernel
theorem dX3_init_21 : decode cX3_init 21 = .ok (.iastore, 1) := by decide +kernel
theorem dX3_init_22 : decode cX3_init 22 = .ok (.dup, 1) := by decide +kernel
theorem dX3_init_23 : decode cX3_init 23 = .ok (.iconst 1, 1) := by decide +kernel
theorem dX3_init_24 : decode cX3_init 24 = .ok (.iconst 1, 1) := by decide +kernel
theorem dX3_init_25 : decode cX3_init 25 = .ok (.iastore, 1) := by decide +kernel
theorem dX3_init_26 : decode cX3_init 26 = .ok (.dup, 1) := by decide +kernel
theorem dX3_init_27 : decode cX3_init 27 = .ok (.iconst 2, 1) := by decide +kernel
theorem dX3_init_28 : decode cX3_init 28 = .ok (.iconst 2, 1) := by decide +kernel
theorem dX3_init_29 : decode cX3_init 29 = .ok (.iastore, 1) := by decide +kernel
theorem dX3_init_30 : decode cX3_init 30 = .ok (.dup, 1) := by decide +kernel
theorem dX3_init_31 : decode cX3_init 31 = .ok (.iconst 3, 1) := by decide +kernel
theorem dX3_init_32 : decode cX3_init 32 = .ok (.iconst 3, 1) := by decide +kernel
theorem dX3_init_33 : decode cX3_init 33 = .ok (.iastore, 1) := by decide +kernel
theorem dX3_init_34 : decode cX3_init 34 = .ok (.putfield 18, 3) := by decide +kernel
theorem dX3_init_37 : decode cX3_init 37 = .ok (.aload_n 0, 1) := by decide +kernel
theorem dX3_init_38 : decode cX3_init 38 = .ok (.iconst 4, 1) := by decide +kernel
theorem dX3_init_39 : decode cX3_init 39 = .ok (.newarray .int, 2) := by decide +kernel
theorem dX3_init_41 : decode cX3_init 41 = .ok (.putfield 22, 3) := by decide +kernel
theorem dX3_init_44 : decode cX3_init 44 = .ok (.aload_n 0, 1) := by decide +kernel
theorem dX3_init_45 : decode cX3_init 45 = .ok (.bipush 9, 2) := by decide +kernel
theorem dX3_init_47 : decode cX3_init 47 = .ok (.newarray .int, 2) := by decide +kernel
theorem dX3_init_49 : decode cX3_init 49 = .ok (.putfield 25, 3) := by decide +kernel
theorem dX3_init_52 : decode cX3_init 52 = .ok (.aload_n 0, 1) := by decide +kernel
theorem dX3_init_53 : decode cX3_init 53 = .ok (.iconst 5, 1) := by decide +kernel
theorem dX3_init_54 : decode cX3_init 54 = .ok (.newarray .int, 2) := by decide +kernel
theorem dX3_init_56 : decode cX3_init 56 = .ok (.putfield 28, 3) := by decide +kernel
theorem dX3_init_59 : decode cX3_init 59 = .ok (.aload_n 0, 1) := by decide +kernel
theorem dX3_init_60 : decode cX3_init 60 = .ok (.iconst 5, 1) := by decide +kernel
theorem dX3_init_61 : decode cX3_init 61 = .ok (.newarray .int, 2) := by decide +kernel
theorem dX3_init_63 : decode cX3_init 63 = .ok (.putfield 31, 3) := by decide +kernel
theorem dX3_init_66 : decode cX3_init 66 = .ok (.aload_n 0, 1) := by decide +kernel
theorem dX3_init_67 : decode cX3_init 67 = .ok (.iconst 5, 1) := by decide +kernel
theorem dX3_init_68 : decode cX3_init 68 = .ok (.newarray .int, 2) := by decide +kernel
theorem dX3_init_70 : decode cX3_init 70 = .ok (.putfield 34, 3) := by decide +kernel
theorem dX3_init_73 : decode cX3_init 73 = .ok (.aload_n 0, 1) := by decide +kernel
theorem dX3_init_74 : decode cX3_init 74 = .ok (.iconst 5, 1) := by decide +kernel
theorem dX3_init_75 : decode cX3_init 75 = .ok (.newarray .int, 2) := by decide +kernel
theorem dX3_init_77 : decode cX3_init 77 = .ok (.putfield 37, 3) := by decide +kernel
theorem dX3_init_80 : decode cX3_init 80 = .ok (.aload_n 0, 1) := by decide +kernel
theorem dX3_init_81 : decode cX3_init 81 = .ok (.bipush 8, 2) := by decide +kernel
theorem dX3_init_83 : decode cX3_init 83 = .ok (.newarray .int, 2) := by decide +kernel
theorem dX3_init_85 : decode cX3_init 85 = .ok (.putfield 40, 3) := by decide +kernel
theorem dX3_init_88 : decode cX3_init 88 = .ok (.aload_n 0, 1) := by decide +kernel
theorem dX3_init_89 : decode cX3_init 89 = .ok (.bipush 8, 2) := by decide +kernel
theorem dX3_init_91 : decode cX3_init 91 = .ok (.newarray .int, 2) := by decide +kernel
theorem dX3_init_93 : decode cX3_init 93 = .ok (.putfield 43, 3) := by decide +kernel
theorem dX3_init_96 : decode cX3_init 96 = .ok (.aload_n 0, 1) := by decide +kernel
theorem dX3_init_97 : decode cX3_init 97 = .ok (.invokevirtual 46, 3) := by decide +kernel
theorem dX3_init_100 : decode cX3_init 100 = .ok (.return_, 1) := by decide +kernel
theorem dX3_emptyRacks_0 : decode cX3_emptyRacks 0 = .ok (.iconst 0, 1) := by decide +kernel
theorem dX3_emptyRacks_1 : decode cX3_emptyRacks 1 = .ok (.istore_n 1, 1) := by decide +kernel
theorem dX3_emptyRacks_2 : decode cX3_emptyRacks 2 = .ok (.iload_n 1, 1) := by decide +kernel
theorem dX3_emptyRacks_3 : decode cX3_emptyRacks 3 = .ok (.aload_n 0, 1) := by decide +kernel
theorem dX3_emptyRacks_4 : decode cX3_emptyRacks 4 = .ok (.getfield 25, 3) := by decide +kernel
theorem dX3_emptyRacks_7 : decode cX3_emptyRacks 7 = .ok (.arraylength, 1) := by decide +kernel
theorem dX3_emptyRacks_8 : decode cX3_emptyRacks 8 = .ok (.if_icmp .ge 16, 3) := by decide +kernel
theorem dX3_emptyRacks_11 : decode cX3_emptyRacks 11 = .ok (.aload_n 0, 1) := by decide +kernel
theorem dX3_emptyRacks_12 : decode cX3_emptyRacks 12 = .ok (.getfield 25, 3) := by decide +kernel
theorem dX3_emptyRacks_15 : decode cX3_emptyRacks 15 = .ok (.iload_n 1, 1) := by decide +kernel
theorem dX3_emptyRacks_16 : decode cX3_emptyRacks 16 = .ok (.iconst (-1), 1) := by decide +kernel
theorem dX3_emptyRacks_17 : decode cX3_emptyRacks 17 = .ok (.iastore, 1) := by decide +kernel
theorem dX3_emptyRacks_18 : decode cX3_emptyRacks 18 = .ok (.iinc 1 1, 3) := by decide +kernel
theorem dX3_emptyRacks_21 : decode cX3_emptyRacks 21 = .ok (.goto (-19), 3) := by decide +kernel
theorem dX3_emptyRacks_24 : decode cX3_emptyRacks 24 = .ok (.return_, 1) := by decide +kernel
theorem dX3_takeFromRacks_0 : decode cX3_takeFromRacks 0 = .ok (.iconst 0, 1) := by decide +kernel
theorem dX3_takeFromRacks_1 : decode cX3_takeFromRacks 1 = .ok (.istore_n 2, 1) := by decide +kernel
theorem dX3_takeFromRacks_2 : decode cX3_takeFromRacks 2 = .ok (.iload_n 2, 1) := by decide +kernel
theorem dX3_takeFromRacks_3 : decode cX3_takeFromRacks 3 = .ok (.aload_n 0, 1) := by decide +kernel
theorem dX3_takeFromRacks_4 : decode cX3_takeFromRacks 4 = .ok (.getfield 25, 3) := by decide +kernel
theorem dX3_takeFromRacks_7 : decode cX3_takeFromRacks 7 = .ok (.arraylength, 1) := by decide +kernel
theorem dX3_takeFromRacks_8 : decode cX3_takeFromRacks 8 = .ok (.if_icmp .ge 26, 3) := by decide +kernel
theorem dX3_takeFromRacks_11 : decode cX3_takeFromRacks 11 = .ok (.aload_n 0, 1) := by decide +kernel
theorem dX3_takeFromRacks_12 : decode cX3_takeFromRacks 12 = .ok (.getfield 25, 3) := by decide +kernel
theorem dX3_takeFromRacks_15 : decode cX3_takeFromRacks 15 = .ok (.iload_n 2, 1) := by decide +kernel
theorem dX3_takeFromRacks_16 : decode cX3_takeFromRacks 16 = .ok (.iaload, 1) := by decide +kernel
theorem dX3_takeFromRacks_17 : decode cX3_takeFromRacks 17 = .ok (.iload_n 1, 1) := by decide +kernel
theorem dX3_takeFromRacks_18 : decode cX3_takeFromRacks 18 = .ok (.if_icmp .ne 10, 3) := by decide +kernel
theorem dX3_takeFromRacks_21 : decode cX3_takeFromRacks 21 = .ok (.aload_n 0, 1) := by decide +kernel
theorem dX3_takeFromRacks_22 : decode cX3_takeFromRacks 22 = .ok (.getfield 25, 3) := by decide +kernel
theorem dX3_takeFromRacks_25 : decode cX3_takeFromRacks 25 = .ok (.iload_n 2, 1) := by decide +kernel
theorem dX3_takeFromRacks_26 : decode cX3_takeFromRacks 26 = .ok (.iconst (-1), 1) := by decide +kernel
theorem dX3_takeFromRacks_27 : decode cX3_takeFromRacks 27 = .ok (.iastore, 1) := by decide +kernel
theorem dX3_takeFromRacks_28 : decode cX3_takeFromRacks 28 = .ok (.iinc 2 1, 3) := by decide +kernel
theorem dX3_takeFromRacks_31 : decode cX3_takeFromRacks 31 = .ok (.goto (-29), 3) := by decide +kernel
theorem dX3_takeFromRacks_34 : decode cX3_takeFromRacks 34 = .ok (.return_, 1) := by decide +kernel
theorem dX3_weightAt_0 : decode cX3_weightAt 0 = .ok (.iload_n 1, 1) := by decide +kernel
theorem dX3_weightAt_1 : decode cX3_weightAt 1 = .ok (.iload_n 2, 1) := by decide +kernel
theorem dX3_weightAt_2 : decode cX3_weightAt 2 = .ok (.invokestatic 49, 3) := by decide +kernel
theorem dX3_weightAt_5 : decode cX3_weightAt 5 = .ok (.istore_n 3, 1) := by decide +kernel
theorem dX3_weightAt_6 : decode cX3_weightAt 6 = .ok (.iload_n 3, 1) := by decide +kernel
theorem dX3_weightAt_7 : decode cX3_weightAt 7 = .ok (.aload_n 0, 1) := by decide +kernel
theorem dX3_weightAt_8 : decode cX3_weightAt 8 = .ok (.getfield 18, 3) := by decide +kernel
theorem dX3_weightAt_11 : decode cX3_weightAt 11 = .ok (.arraylength, 1) := by decide +kernel
theorem dX3_weightAt_12 : decode cX3_weightAt 12 = .ok (.if_icmp .ge 12, 3) := by decide +kernel
theorem dX3_weightAt_15 : decode cX3_weightAt 15 = .ok (.aload_n 0, 1) := by decide +kernel
theorem dX3_weightAt_16 : decode cX3_weightAt 16 = .ok (.getfield 18, 3) := by decide +kernel
theorem dX3_weightAt_19 : decode cX3_weightAt 19 = .ok (.iload_n 3, 1) := by decide +kernel
theorem dX3_weightAt_20 : decode cX3_weightAt 20 = .ok (.iaload, 1) := by decide +kernel
theorem dX3_weightAt_21 : decode cX3_weightAt 21 = .ok (.goto 4, 3) := by decide +kernel
theorem dX3_weightAt_24 : decode cX3_weightAt 24 = .ok (.iconst 0, 1) := by decide +kernel
theorem dX3_weightAt_25 : decode cX3_weightAt 25 = .ok (.ireturn, 1) := by decide +kernel
theorem dX3_weightOf_0 : decode cX3_weightOf 0 = .ok (.iconst 0, 1) := by decide +kernel
theorem dX3_weightOf_1 : decode cX3_weightOf 1 = .ok (.istore_n 2, 1) := by decide +kernel
theorem dX3_weightOf_2 : decode cX3_weightOf 2 = .ok (.iconst 0, 1) := by decide +kernel
theorem dX3_weightOf_3 : decode cX3_weightOf 3 = .ok (.istore_n 3, 1) := by decide +kernel
theorem dX3_weightOf_4 : decode cX3_weightOf 4 = .ok (.iload_n 3, 1) := by decide +kernel
theorem dX3_weightOf_5 : decode cX3_weightOf 5 = .ok (.aload_n 0, 1) := by decide +kernel
theorem dX3_weightOf_6 : decode cX3_weightOf 6 = .ok (.getfield 9, 3) := by decide +kernel
theorem dX3_weightOf_9 : decode cX3_weightOf 9 = .ok (.if_icmp .ge 18, 3) := by decide +kernel
theorem dX3_weightOf_12 : decode cX3_weightOf 12 = .ok (.iload_n 2, 1) := by decide +kernel
theorem dX3_weightOf_13 : decode cX3_weightOf 13 = .ok (.aload_n 0, 1) := by decide +kernel
theorem dX3_weightOf_14 : decode cX3_weightOf 14 = .ok (.iload_n 1, 1) := by decide +kernel
theorem dX3_weightOf_15 : decode cX3_weightOf 15 = .ok (.iload_n 3, 1) := by decide +kernel
theorem dX3_weightOf_16 : decode cX3_weightOf 16 = .ok (.invokevirtual 55, 3) := by decide +kernel
theorem dX3_weightOf_19 : decode cX3_weightOf 19 = .ok (.iadd, 1) := by decide +kernel
theorem dX3_weightOf_20 : decode cX3_weightOf 20 = .ok (.istore_n 2, 1) := by decide +kernel
theorem dX3_weightOf_21 : decode cX3_weightOf 21 = .ok (.iinc 3 1, 3) := by decide +kernel
theorem dX3_weightOf_24 : decode cX3_weightOf 24 = .ok (.goto (-20), 3) := by decide +kernel
theorem dX3_weightOf_27 : decode cX3_weightOf 27 = .ok (.iload_n 2, 1) := by decide +kernel
theorem dX3_weightOf_28 : decode cX3_weightOf 28 = .ok (.ireturn, 1) := by decide +kernel
theorem dX3_addSeen_0 : decode cX3_addSeen 0 = .ok (.aload_n 0, 1) := by decide +kernel
theorem dX3_addSeen_1 : decode cX3_addSeen 1 = .ok (.getfield 58, 3) := by decide +kernel
theorem dX3_addSeen_4 : decode cX3_addSeen 4 = .ok (.iconst 5, 1) := by decide +kernel
theorem dX3_addSeen_5 : decode cX3_addSeen 5 = .ok (.if_icmp .lt 5, 3) := by decide +kernel
theorem dX3_addSeen_8 : decode cX3_addSeen 8 = .ok (.iconst 0, 1) := by decide +kernel
theorem dX3_addSeen_9 : decode cX3_addSeen 9 = .ok (.ireturn, 1) := by decide +kernel
theorem dX3_addSeen_10 : decode cX3_addSeen 10 = .ok (.aload_n 0, 1) := by decide +kernel
theorem dX3_addSeen_11 : decode cX3_addSeen 11 = .ok (.getfield 28, 3) := by decide +kernel
theorem dX3_addSeen_14 : decode cX3_addSeen 14 = .ok (.aload_n 0, 1) := by decide +kernel
theorem dX3_addSeen_15 : decode cX3_addSeen 15 = .ok (.getfield 58, 3) := by decide +kernel
theorem dX3_addSeen_18 : decode cX3_addSeen 18 = .ok (.iload_n 1, 1) := by decide +kernel
theorem dX3_addSeen_19 : decode cX3_addSeen 19 = .ok (.iastore, 1) := by decide +kernel
theorem dX3_addSeen_20 : decode cX3_addSeen 20 = .ok (.aload_n 0, 1) := by decide +kernel
theorem dX3_addSeen_21 : decode cX3_addSeen 21 = .ok (.getfield 31, 3) := by decide +kernel
theorem dX3_addSeen_24 : decode cX3_addSeen 24 = .ok (.aload_n 0, 1) := by decide +kernel
theorem dX3_addSeen_25 : decode cX3_addSeen 25 = .ok (.getfield 58, 3) := by decide +kernel
theorem dX3_addSeen_28 : decode cX3_addSeen 28 = .ok (.iload_n 2, 1) := by decide +kernel
theorem dX3_addSeen_29 : decode cX3_addSeen 29 = .ok (.iastore, 1) := by decide +kernel
theorem dX3_addSeen_30 : decode cX3_addSeen 30 = .ok (.aload_n 0, 1) := by decide +kernel
theorem dX3_addSeen_31 : decode cX3_addSeen 31 = .ok (.getfield 34, 3) := by decide +kernel
theorem dX3_addSeen_34 : decode cX3_addSeen 34 = .ok (.aload_n 0, 1) := by decide +kernel
theorem dX3_addSeen_35 : decode cX3_addSeen 35 = .ok (.getfield 58, 3) := by decide +kernel
theorem dX3_addSeen_38 : decode cX3_addSeen 38 = .ok (.iload_n 3, 1) := by decide +kernel
theorem dX3_addSeen_39 : decode cX3_addSeen 39 = .ok (.iastore, 1) := by decide +kernel
theorem dX3_addSeen_40 : decode cX3_addSeen 40 = .ok (.aload_n 0, 1) := by decide +kernel
theorem dX3_addSeen_41 : decode cX3_addSeen 41 = .ok (.getfield 37, 3) := by decide +kernel
theorem dX3_addSeen_44 : decode cX3_addSeen 44 = .ok (.aload_n 0, 1) := by decide +kernel
theorem dX3_addSeen_45 : decode cX3_addSeen 45 = .ok (.getfield 58, 3) := by decide +kernel
theorem dX3_addSeen_48 : decode cX3_addSeen 48 = .ok (.aload_n 0, 1) := by decide +kernel
theorem dX3_addSeen_49 : decode cX3_addSeen 49 = .ok (.getfield 9, 3) := by decide +kernel
theorem dX3_addSeen_52 : decode cX3_addSeen 52 = .ok (.iastore, 1) := by decide +kernel
theorem dX3_addSeen_53 : decode cX3_addSeen 53 = .ok (.aload_n 0, 1) := by decide +kernel
theorem dX3_addSeen_54 : decode cX3_addSeen 54 = .ok (.dup, 1) := by decide +kernel
theorem dX3_addSeen_55 : decode cX3_addSeen 55 = .ok (.getfield 58, 3) := by decide +kernel
theorem dX3_addSeen_58 : decode cX3_addSeen 58 = .ok (.iconst 1, 1) := by decide +kernel
theorem dX3_addSeen_59 : decode cX3_addSeen 59 = .ok (.iadd, 1) := by decide +kernel
theorem dX3_addSeen_60 : decode cX3_addSeen 60 = .ok (.putfield 58, 3) := by decide +kernel
theorem dX3_addSeen_63 : decode cX3_addSeen 63 = .ok (.iconst 1, 1) := by decide +kernel
theorem dX3_addSeen_64 : decode cX3_addSeen 64 = .ok (.ireturn, 1) := by decide +kernel
theorem dX3_allSeenCount_0 : decode cX3_allSeenCount 0 = .ok (.iconst 0, 1) := by decide +kernel
theorem dX3_allSeenCount_1 : decode cX3_allSeenCount 1 = .ok (.istore_n 1, 1) := by decide +kernel
theorem dX3_allSeenCount_2 : decode cX3_allSeenCount 2 = .ok (.iload_n 1, 1) := by decide +kernel
theorem dX3_allSeenCount_3 : decode cX3_allSeenCount 3 = .ok (.aload_n 0, 1) := by decide +kernel
theorem dX3_allSeenCount_4 : decode cX3_allSeenCount 4 = .ok (.getfield 58, 3) := by decide +kernel
theorem dX3_allSeenCount_7 : decode cX3_allSeenCount 7 = .ok (.if_icmp .ge 64, 3) := by decide +kernel
theorem dX3_allSeenCount_10 : decode cX3_allSeenCount 10 = .ok (.aload_n 0, 1) := by decide +kernel
theorem dX3_allSeenCount_11 : decode cX3_allSeenCount 11 = .ok (.getfield 37, 3) := by decide +kernel
theorem dX3_allSeenCount_14 : decode cX3_allSeenCount 14 = .ok (.iload_n 1, 1) := by decide +kernel
theorem dX3_allSeenCount_15 : decode cX3_allSeenCount 15 = .ok (.iaload, 1) := by decide +kernel
theorem dX3_allSeenCount_16 : decode cX3_allSeenCount 16 = .ok (.aload_n 0, 1) := by decide +kernel
theorem dX3_allSeenCount_17 : decode cX3_allSeenCount 17 = .ok (.getfield 9, 3) := by decide +kernel
theorem dX3_allSeenCount_20 : decode cX3_allSeenCount 20 = .ok (.if_icmp .ne 43, 3) := by decide +kernel
theorem dX3_allSeenCount_23 : decode cX3_allSeenCount 23 = .ok (.aload_n 0, 1) := by decide +kernel
theorem dX3_allSeenCount_24 : decode cX3_allSeenCount 24 = .ok (.getfield 28, 3) := by decide +kernel
theorem dX3_allSeenCount_27 : decode cX3_allSeenCount 27 = .ok (.iload_n 1, 1) := by decide +kernel
theorem dX3_allSeenCount_28 : decode cX3_allSeenCount 28 = .ok (.iaload, 1) := by decide +kernel
theorem dX3_allSeenCount_29 : decode cX3_allSeenCount 29 = .ok (.aload_n 0, 1) := by decide +kernel
theorem dX3_allSeenCount_30 : decode cX3_allSeenCount 30 = .ok (.getfield 9, 3) := by decide +kernel
theorem dX3_allSeenCount_33 : decode cX3_allSeenCount 33 = .ok (.aload_n 0, 1) := by decide +kernel
theorem dX3_allSeenCount_34 : decode cX3_allSeenCount 34 = .ok (.getfield 15, 3) := by decide +kernel
theorem dX3_allSeenCount_37 : decode cX3_allSeenCount 37 = .ok (.invokestatic 61, 3) := by decide +kernel
theorem dX3_allSeenCount_40 : decode cX3_allSeenCount 40 = .ok (.ifCond .eq 23, 3) := by decide +kernel
theorem dX3_allSeenCount_43 : decode cX3_allSeenCount 43 = .ok (.aload_n 0, 1) := by decide +kernel
theorem dX3_allSeenCount_44 : decode cX3_allSeenCount 44 = .ok (.getfield 31, 3) := by decide +kernel
theorem dX3_allSeenCount_47 : decode cX3_allSeenCount 47 = .ok (.iload_n 1, 1) := by decide +kernel
theorem dX3_allSeenCount_48 : decode cX3_allSeenCount 48 = .ok (.iaload, 1) := by decide +kernel
theorem dX3_allSeenCount_49 : decode cX3_allSeenCount 49 = .ok (.aload_n 0, 1) := by decide +kernel
theorem dX3_allSeenCount_50 : decode cX3_allSeenCount 50 = .ok (.getfield 9, 3) := by decide +kernel
theorem dX3_allSeenCount_53 : decode cX3_allSeenCount 53 = .ok (.aload_n 0, 1) := by decide +kernel
theorem dX3_allSeenCount_54 : decode cX3_allSeenCount 54 = .ok (.getfield 15, 3) := by decide +kernel
theorem dX3_allSeenCount_57 : decode cX3_allSeenCount 57 = .ok (.invokestatic 61, 3) := by decide +kernel
theorem dX3_allSeenCount_60 : decode cX3_allSeenCount 60 = .ok (.ifCond .ne 5, 3) := by decide +kernel
theorem dX3_allSeenCount_63 : decode cX3_allSeenCount 63 = .ok (.iconst 0, 1) := by decide +kernel
theorem dX3_allSeenCount_64 : decode cX3_allSeenCount 64 = .ok (.ireturn, 1) := by decide +kernel
theorem dX3_allSeenCount_65 : decode cX3_allSeenCount 65 = .ok (.iinc 1 1, 3) := by decide +kernel
theorem dX3_allSeenCount_68 : decode cX3_allSeenCount 68 = .ok (.goto (-66), 3) := by decide +kernel
theorem dX3_allSeenCount_71 : decode cX3_allSeenCount 71 = .ok (.iconst 1, 1) := by decide +kernel
theorem dX3_allSeenCount_72 : decode cX3_allSeenCount 72 = .ok (.ireturn, 1) := by decide +kernel
theorem dX3_addEvent_0 : decode cX3_addEvent 0 = .ok (.aload_n 0, 1) := by decide +kernel
theorem dX3_addEvent_1 : decode cX3_addEvent 1 = .ok (.getfield 65, 3) := by decide +kernel
theorem dX3_addEvent_4 : decode cX3_addEvent 4 = .ok (.bipush 8, 2) := by decide +kernel
theorem dX3_addEvent_6 : decode cX3_addEvent 6 = .ok (.if_icmp .lt 5, 3) := by decide +kernel
theorem dX3_addEvent_9 : decode cX3_addEvent 9 = .ok (.iconst 0, 1) := by decide +kernel
theorem dX3_addEvent_10 : decode cX3_addEvent 10 = .ok (.ireturn, 1) := by decide +kernel
theorem dX3_addEvent_11 : decode cX3_addEvent 11 = .ok (.aload_n 0, 1) := by decide +kernel
theorem dX3_addEvent_12 : decode cX3_addEvent 12 = .ok (.getfield 40, 3) := by decide +kernel
theorem dX3_addEvent_15 : decode cX3_addEvent 15 = .ok (.aload_n 0, 1) := by decide +kernel
theorem dX3_addEvent_16 : decode cX3_addEvent 16 = .ok (.getfield 65, 3) := by decide +kernel
theorem dX3_addEvent_19 : decode cX3_addEvent 19 = .ok (.iload_n 1, 1) := by decide +kernel
theorem dX3_addEvent_20 : decode cX3_addEvent 20 = .ok (.iastore, 1) := by decide +kernel
theorem dX3_addEvent_21 : decode cX3_addEvent 21 = .ok (.aload_n 0, 1) := by decide +kernel
theorem dX3_addEvent_22 : decode cX3_addEvent 22 = .ok (.getfield 43, 3) := by decide +kernel
theorem dX3_addEvent_25 : decode cX3_addEvent 25 = .ok (.aload_n 0, 1) := by decide +kernel
theorem dX3_addEvent_26 : decode cX3_addEvent 26 = .ok (.getfield 65, 3) := by decide +kernel
theorem dX3_addEvent_29 : decode cX3_addEvent 29 = .ok (.iload_n 2, 1) := by decide +kernel
theorem dX3_addEvent_30 : decode cX3_addEvent 30 = .ok (.iastore, 1) := by decide +kernel
theorem dX3_addEvent_31 : decode cX3_addEvent 31 = .ok (.aload_n 0, 1) := by decide +kernel
theorem dX3_addEvent_32 : decode cX3_addEvent 32 = .ok (.dup, 1) := by decide +kernel
theorem dX3_addEvent_33 : decode cX3_addEvent 33 = .ok (.getfield 65, 3) := by decide +kernel
theorem dX3_addEvent_36 : decode cX3_addEvent 36 = .ok (.iconst 1, 1) := by decide +kernel
theorem dX3_addEvent_37 : decode cX3_addEvent 37 = .ok (.iadd, 1) := by decide +kernel
theorem dX3_addEvent_38 : decode cX3_addEvent 38 = .ok (.putfield 65, 3) := by decide +kernel
theorem dX3_addEvent_41 : decode cX3_addEvent 41 = .ok (.iconst 1, 1) := by decide +kernel
theorem dX3_addEvent_42 : decode cX3_addEvent 42 = .ok (.ireturn, 1) := by decide +kernel
theorem dX3_become_0 : decode cX3_become 0 = .ok (.aload_n 0, 1) := by decide +kernel
theorem dX3_become_1 : decode cX3_become 1 = .ok (.aload_n 1, 1) := by decide +kernel
theorem dX3_become_2 : decode cX3_become 2 = .ok (.getfield 9, 3) := by decide +kernel
theorem dX3_become_5 : decode cX3_become 5 = .ok (.putfield 9, 3) := by decide +kernel
theorem dX3_become_8 : decode cX3_become 8 = .ok (.aload_n 0, 1) := by decide +kernel
theorem dX3_become_9 : decode cX3_become 9 = .ok (.aload_n 1, 1) := by decide +kernel
theorem dX3_become_10 : decode cX3_become 10 = .ok (.getfield 15, 3) := by decide +kernel
theorem dX3_become_13 : decode cX3_become 13 = .ok (.putfield 15, 3) := by decide +kernel
theorem dX3_become_16 : decode cX3_become 16 = .ok (.aload_n 1, 1) := by decide +kernel
theorem dX3_become_17 : decode cX3_become 17 = .ok (.getfield 18, 3) := by decide +kernel
theorem dX3_become_20 : decode cX3_become 20 = .ok (.iconst 0, 1) := by decide +kernel
theorem dX3_become_21 : decode cX3_become 21 = .ok (.aload_n 0, 1) := by decide +kernel
theorem dX3_become_22 : decode cX3_become 22 = .ok (.getfield 18, 3) := by decide +kernel
theorem dX3_become_25 : decode cX3_become 25 = .ok (.iconst 0, 1) := by decide +kernel
theorem dX3_become_26 : decode cX3_become 26 = .ok (.iconst 4, 1) := by decide +kernel
theorem dX3_become_27 : decode cX3_become 27 = .ok (.invokestatic 68, 3) := by decide +kernel
theorem dX3_become_30 : decode cX3_become 30 = .ok (.aload_n 0, 1) := by decide +kernel
theorem dX3_become_31 : decode cX3_become 31 = .ok (.aload_n 1, 1) := by decide +kernel
theorem dX3_become_32 : decode cX3_become 32 = .ok (.getfield 74, 3) := by decide +kernel
theorem dX3_become_35 : decode cX3_become 35 = .ok (.putfield 74, 3) := by decide +kernel
theorem dX3_become_38 : decode cX3_become 38 = .ok (.aload_n 1, 1) := by decide +kernel
theorem dX3_become_39 : decode cX3_become 39 = .ok (.getfield 22, 3) := by decide +kernel
theorem dX3_become_42 : decode cX3_become 42 = .ok (.iconst 0, 1) := by decide +kernel
theorem dX3_become_43 : decode cX3_become 43 = .ok (.aload_n 0, 1) := by decide +kernel
theorem dX3_become_44 : decode cX3_become 44 = .ok (.getfield 22, 3) := by decide +kernel
theorem dX3_become_47 : decode cX3_become 47 = .ok (.iconst 0, 1) := by decide +kernel
theorem dX3_become_48 : decode cX3_become 48 = .ok (.iconst 4, 1) := by decide +kernel
theorem dX3_become_49 : decode cX3_become 49 = .ok (.invokestatic 68, 3) := by decide +kernel
theorem dX3_become_52 : decode cX3_become 52 = .ok (.aload_n 1, 1) := by decide +kernel
theorem dX3_become_53 : decode cX3_become 53 = .ok (.getfield 25, 3) := by decide +kernel
theorem dX3_become_56 : decode cX3_become 56 = .ok (.iconst 0, 1) := by decide +kernel
theorem dX3_become_57 : decode cX3_become 57 = .ok (.aload_n 0, 1) := by decide +kernel
theorem dX3_become_58 : decode cX3_become 58 = .ok (.getfield 25, 3) := by decide +kernel
theorem dX3_become_61 : decode cX3_become 61 = .ok (.iconst 0, 1) := by decide +kernel
theorem dX3_become_62 : decode cX3_become 62 = .ok (.bipush 9, 2) := by decide +kernel
theorem dX3_become_64 : decode cX3_become 64 = .ok (.invokestatic 68, 3) := by decide +kernel
theorem dX3_become_67 : decode cX3_become 67 = .ok (.aload_n 0, 1) := by decide +kernel
theorem dX3_become_68 : decode cX3_become 68 = .ok (.aload_n 1, 1) := by decide +kernel
theorem dX3_become_69 : decode cX3_become 69 = .ok (.getfield 58, 3) := by decide +kernel
theorem dX3_become_72 : decode cX3_become 72 = .ok (.putfield 58, 3) := by decide +kernel
theorem dX3_become_75 : decode cX3_become 75 = .ok (.aload_n 1, 1) := by decide +kernel
theorem dX3_become_76 : decode cX3_become 76 = .ok (.getfield 28, 3) := by decide +kernel
theorem dX3_become_79 : decode cX3_become 79 = .ok (.iconst 0, 1) := by decide +kernel
theorem dX3_become_80 : decode cX3_become 80 = .ok (.aload_n 0, 1) := by decide +kernel
theorem dX3_become_81 : decode cX3_become 81 = .ok (.getfield 28, 3) := by decide +kernel
theorem dX3_become_84 : decode cX3_become 84 = .ok (.iconst 0, 1) := by decide +kernel
theorem dX3_become_85 : decode cX3_become 85 = .ok (.iconst 5, 1) := by decide +kernel
theorem dX3_become_86 : decode cX3_become 86 = .ok (.invokestatic 68, 3) := by decide +kernel
theorem dX3_become_89 : decode cX3_become 89 = .ok (.aload_n 1, 1) := by decide +kernel
theorem dX3_become_90 : decode cX3_become 90 = .ok (.getfield 31, 3) := by decide +kernel
theorem dX3_become_93 : decode cX3_become 93 = .ok (.iconst 0, 1) := by decide +kernel
theorem dX3_become_94 : decode cX3_become 94 = .ok (.aload_n 0, 1) := by decide +kernel
theorem dX3_become_95 : decode cX3_become 95 = .ok (.getfield 31, 3) := by decide +kernel
theorem dX3_become_98 : decode cX3_become 98 = .ok (.iconst 0, 1) := by decide +kernel
theorem dX3_become_99 : decode cX3_become 99 = .ok (.iconst 5, 1) := by decide +kernel
theorem dX3_become_100 : decode cX3_become 100 = .ok (.invokestatic 68, 3) := by decide +kernel
theorem dX3_become_103 : decode cX3_become 103 = .ok (.aload_n 1, 1) := by decide +kernel
theorem dX3_become_104 : decode cX3_become 104 = .ok (.getfield 34, 3) := by decide +kernel
theorem dX3_become_107 : decode cX3_become 107 = .ok (.iconst 0, 1) := by decide +kernel
theorem dX3_become_108 : decode cX3_become 108 = .ok (.aload_n 0, 1) := by decide +kernel
theorem dX3_become_109 : decode cX3_become 109 = .ok (.getfield 34, 3) := by decide +kernel
theorem dX3_become_112 : decode cX3_become 112 = .ok (.iconst 0, 1) := by decide +kernel
theorem dX3_become_113 : decode cX3_become 113 = .ok (.iconst 5, 1) := by decide +kernel
theorem dX3_become_114 : decode cX3_become 114 = .ok (.invokestatic 68, 3) := by decide +kernel
theorem dX3_become_117 : decode cX3_become 117 = .ok (.aload_n 1, 1) := by decide +kernel
theorem dX3_become_118 : decode cX3_become 118 = .ok (.getfield 37, 3) := by decide +kernel
theorem dX3_become_121 : decode cX3_become 121 = .ok (.iconst 0, 1) := by decide +kernel
theorem dX3_become_122 : decode cX3_become 122 = .ok (.aload_n 0, 1) := by decide +kernel
theorem dX3_become_123 : decode cX3_become 123 = .ok (.getfield 37, 3) := by decide +kernel
theorem dX3_become_126 : decode cX3_become 126 = .ok (.iconst 0, 1) := by decide +kernel
theorem dX3_become_127 : decode cX3_become 127 = .ok (.iconst 5, 1) := by decide +kernel
theorem dX3_become_128 : decode cX3_become 128 = .ok (.invokestatic 68, 3) := by decide +kernel
theorem dX3_become_131 : decode cX3_become 131 = .ok (.aload_n 0, 1) := by decide +kernel
theorem dX3_become_132 : decode cX3_become 132 = .ok (.aload_n 1, 1) := by decide +kernel
theorem dX3_become_133 : decode cX3_become 133 = .ok (.getfield 65, 3) := by decide +kernel
theorem dX3_become_136 : decode cX3_become 136 = .ok (.putfield 65, 3) := by decide +kernel
theorem dX3_become_139 : decode cX3_become 139 = .ok (.aload_n 1, 1) := by decide +kernel
theorem dX3_become_140 : decode cX3_become 140 = .ok (.getfield 40, 3) := by decide +kernel
theorem dX3_become_143 : decode cX3_become 143 = .ok (.iconst 0, 1) := by decide +kernel
theorem dX3_become_144 : decode cX3_become 144 = .ok (.aload_n 0, 1) := by decide +kernel
theorem dX3_become_145 : decode cX3_become 145 = .ok (.getfield 40, 3) := by decide +kernel
theorem dX3_become_148 : decode cX3_become 148 = .ok (.iconst 0, 1) := by decide +kernel
theorem dX3_become_149 : decode cX3_become 149 = .ok (.bipush 8, 2) := by decide +kernel
theorem dX3_become_151 : decode cX3_become 151 = .ok (.invokestatic 68, 3) := by decide +kernel
theorem dX3_become_154 : decode cX3_become 154 = .ok (.aload_n 1, 1) := by decide +kernel
theorem dX3_become_155 : decode cX3_become 155 = .ok (.getfield 43, 3) := by decide +kernel
theorem dX3_become_158 : decode cX3_become 158 = .ok (.iconst 0, 1) := by decide +kernel
theorem dX3_become_159 : decode cX3_become 159 = .ok (.aload_n 0, 1) := by decide +kernel
theorem dX3_become_160 : decode cX3_become 160 = .ok (.getfield 43, 3) := by decide +kernel
theorem dX3_become_163 : decode cX3_become 163 = .ok (.iconst 0, 1) := by decide +kernel
theorem dX3_become_164 : decode cX3_become 164 = .ok (.bipush 8, 2) := by decide +kernel
theorem dX3_become_166 : decode cX3_become 166 = .ok (.invokestatic 68, 3) := by decide +kernel
theorem dX3_become_169 : decode cX3_become 169 = .ok (.return_, 1) := by decide +kernel
theorem dX4_init_0 : decode cX4_init 0 = .ok (.aload_n 0, 1) := by decide +kernel
theorem dX4_init_1 : decode cX4_init 1 = .ok (.invokespecial 3, 3) := by decide +kernel
theorem dX4_init_4 : decode cX4_init 4 = .ok (.aload_n 0, 1) := by decide +kernel
theorem dX4_init_5 : decode cX4_init 5 = .ok (.bipush 11, 2) := by decide +kernel
theorem dX4_init_7 : decode cX4_init 7 = .ok (.newarray .int, 2) := by decide +kernel
theorem dX4_init_9 : decode cX4_init 9 = .ok (.putfield 9, 3) := by decide +kernel
theorem dX4_init_12 : decode cX4_init 12 = .ok (.aload_n 0, 1) := by decide +kernel
theorem dX4_init_13 : decode cX4_init 13 = .ok (.bipush 11, 2) := by decide +kernel
theorem dX4_init_15 : decode cX4_init 15 = .ok (.newarray .int, 2) := by decide +kernel
theorem dX4_init_17 : decode cX4_init 17 = .ok (.putfield 15, 3) := by decide +kernel
theorem dX4_init_20 : decode cX4_init 20 = .ok (.return_, 1) := by decide +kernel
theorem dX4_fill_0 : decode cX4_fill 0 = .ok (.aload_n 0, 1) := by decide +kernel
theorem dX4_fill_1 : decode cX4_fill 1 = .ok (.iconst 0, 1) := by decide +kernel
theorem dX4_fill_2 : decode cX4_fill 2 = .ok (.putfield 18, 3) := by decide +kernel
theorem dX4_fill_5 : decode cX4_fill 5 = .ok (.aload_n 0, 1) := by decide +kernel
theorem dX4_fill_6 : decode cX4_fill 6 = .ok (.aload_n 1, 1) := by decide +kernel
theorem dX4_fill_7 : decode cX4_fill 7 = .ok (.iload_n 2, 1) := by decide +kernel
theorem dX4_fill_8 : decode cX4_fill 8 = .ok (.invokevirtual 22, 3) := by decide +kernel
theorem dX4_fill_11 : decode cX4_fill 11 = .ok (.putfield 28, 3) := by decide +kernel
theorem dX4_fill_14 : decode cX4_fill 14 = .ok (.iconst 0, 1) := by decide +kernel
theorem dX4_fill_15 : decode cX4_fill 15 = .ok (.istore_n 3, 1) := by decide +kernel
theorem dX4_fill_16 : decode cX4_fill 16 = .ok (.iload_n 3, 1) := by decide +kernel
theorem dX4_fill_17 : decode cX4_fill 17 = .ok (.aload_n 1, 1) := by decide +kernel
theorem dX4_fill_18 : decode cX4_fill 18 = .ok (.getfield 31, 3) := by decide +kernel
theorem dX4_fill_21 : decode cX4_fill 21 = .ok (.if_icmp .ge 40, 3) := by decide +kernel
theorem dX4_fill_24 : decode cX4_fill 24 = .ok (.aload_n 1, 1) := by decide +kernel
theorem dX4_fill_25 : decode cX4_fill 25 = .ok (.getfield 34, 3) := by decide +kernel
theorem dX4_fill_28 : decode cX4_fill 28 = .ok (.iload_n 3, 1) := by decide +kernel
theorem dX4_fill_29 : decode cX4_fill 29 = .ok (.iaload, 1) := by decide +kernel
theorem dX4_fill_30 : decode cX4_fill 30 = .ok (.iconst 1, 1) := by decide +kernel
theorem dX4_fill_31 : decode cX4_fill 31 = .ok (.iand, 1) := by decide +kernel
theorem dX4_fill_32 : decode cX4_fill 32 = .ok (.iload_n 2, 1) := by decide +kernel
theorem dX4_fill_33 : decode cX4_fill 33 = .ok (.if_icmp .gt 22, 3) := by decide +kernel
theorem dX4_fill_36 : decode cX4_fill 36 = .ok (.aload_n 0, 1) := by decide +kernel
theorem dX4_fill_37 : decode cX4_fill 37 = .ok (.aload_n 1, 1) := by decide +kernel
theorem dX4_fill_38 : decode cX4_fill 38 = .ok (.getfield 34, 3) := by decide +kernel
theorem dX4_fill_41 : decode cX4_fill 41 = .ok (.iload_n 3, 1) := by decide +kernel
theorem dX4_fill_42 : decode cX4_fill 42 = .ok (.iaload, 1) := by decide +kernel
theorem dX4_fill_43 : decode cX4_fill 43 = .ok (.iconst 1, 1) := by decide +kernel
theorem dX4_fill_44 : decode cX4_fill 44 = .ok (.ishr, 1) := by decide +kernel
theorem dX4_fill_45 : decode cX4_fill 45 = .ok (.aload_n 1, 1) := by decide +kernel
theorem dX4_fill_46 : decode cX4_fill 46 = .ok (.getfield 37, 3) := by decide +kernel
theorem dX4_fill_49 : decode cX4_fill 49 = .ok (.invokestatic 40, 3) := by decide +kernel
theorem dX4_fill_52 : decode cX4_fill 52 = .ok (.invokevirtual 46, 3) := by decide +kernel
theorem dX4_fill_55 : decode cX4_fill 55 = .ok (.iinc 3 1, 3) := by decide +kernel
theorem dX4_fill_58 : decode cX4_fill 58 = .ok (.goto (-42), 3) := by decide +kernel
theorem dX4_fill_61 : decode cX4_fill 61 = .ok (.return_, 1) := by decide +kernel
theorem dX4_add_0 : decode cX4_add 0 = .ok (.iconst 0, 1) := by decide +kernel
theorem dX4_add_1 : decode cX4_add 1 = .ok (.istore_n 2, 1) := by decide +kernel
theorem dX4_add_2 : decode cX4_add 2 = .ok (.iload_n 2, 1) := by decide +kernel
theorem dX4_add_3 : decode cX4_add 3 = .ok (.aload_n 0, 1) := by decide +kernel
theorem dX4_add_4 : decode cX4_add 4 = .ok (.getfield 18, 3) := by decide +kernel
theorem dX4_add_7 : decode cX4_add 7 = .ok (.if_icmp .ge 19, 3) := by decide +kernel
theorem dX4_add_10 : decode cX4_add 10 = .ok (.aload_n 0, 1) := by decide +kernel
theorem dX4_add_11 : decode cX4_add 11 = .ok (.getfield 9, 3) := by decide +kernel
theorem dX4_add_14 : decode cX4_add 14 = .ok (.iload_n 2, 1) := by decide +kernel
theorem dX4_add_15 : decode cX4_add 15 = .ok (.iaload, 1) := by decide +kernel
theorem dX4_add_16 : decode cX4_add 16 = .ok (.iload_n 1, 1) := by decide +kernel
theorem dX4_add_17 : decode cX4_add 17 = .ok (.if_icmp .ge 9, 3) := by decide +kernel
theorem dX4_add_20 : decode cX4_add 20 = .ok (.iinc 2 1, 3) := by decide +kernel
theorem dX4_add_23 : decode cX4_add 23 = .ok (.goto (-21), 3) := by decide +kernel
theorem dX4_add_26 : decode cX4_add 26 = .ok (.iload_n 2, 1) := by decide +kernel
theorem dX4_add_27 : decode cX4_add 27 = .ok (.aload_n 0, 1) := by decide +kernel
theorem dX4_add_28 : decode cX4_add 28 = .ok (.getfield 18, 3) := by decide +kernel
theorem dX4_add_31 : decode cX4_add 31 = .ok (.if_icmp .ge 26, 3) := by decide +kernel
theorem dX4_add_34 : decode cX4_add 34 = .ok (.aload_n 0, 1) := by decide +kernel
theorem dX4_add_35 : decode cX4_add 35 = .ok (.getfield 9, 3) := by decide +kernel
theorem dX4_add_38 : decode cX4_add 38 = .ok (.iload_n 2, 1) := by decide +kernel
theorem dX4_add_39 : decode cX4_add 39 = .ok (.iaload, 1) := by decide +kernel
theorem dX4_add_40 : decode cX4_add 40 = .ok (.iload_n 1, 1) := by decide +kernel
theorem dX4_add_41 : decode cX4_add 41 = .ok (.if_icmp .ne 16, 3) := by decide +kernel
theorem dX4_add_44 : decode cX4_add 44 = .ok (.aload_n 0, 1) := by decide +kernel
theorem dX4_add_45 : decode cX4_add 45 = .ok (.getfield 15, 3) := by decide +kernel
theorem dX4_add_48 : decode cX4_add 48 = .ok (.iload_n 2, 1) := by decide +kernel
theorem dX4_add_49 : decode cX4_add 49 = .ok (.dup2, 1) := by decide +kernel
theorem dX4_add_50 : decode cX4_add 50 = .ok (.iaload, 1) := by decide +kernel
theorem dX4_add_51 : decode cX4_add 51 = .ok (.iconst 1, 1) := by decide +kernel
theorem dX4_add_52 : decode cX4_add 52 = .ok (.iadd, 1) := by decide +kernel
theorem dX4_add_53 : decode cX4_add 53 = .ok (.iastore, 1) := by decide +kernel
theorem dX4_add_54 : decode cX4_add 54 = .ok (.goto 78, 3) := by decide +kernel
theorem dX4_add_57 : decode cX4_add 57 = .ok (.aload_n 0, 1) := by decide +kernel
theorem dX4_add_58 : decode cX4_add 58 = .ok (.getfield 18, 3) := by decide +kernel
theorem dX4_add_61 : decode cX4_add 61 = .ok (.bipush 11, 2) := by decide +kernel
theorem dX4_add_63 : decode cX4_add 63 = .ok (.if_icmp .ge 69, 3) := by decide +kernel
theorem dX4_add_66 : decode cX4_add 66 = .ok (.aload_n 0, 1) := by decide +kernel
theorem dX4_add_67 : decode cX4_add 67 = .ok (.getfield 9, 3) := by decide +kernel
theorem dX4_add_70 : decode cX4_add 70 = .ok (.iload_n 2, 1) := by decide +kernel
theorem dX4_add_71 : decode cX4_add 71 = .ok (.aload_n 0, 1) := by decide +kernel
theorem dX4_add_72 : decode cX4_add 72 = .ok (.getfield 9, 3) := by decide +kernel
theorem dX4_add_75 : decode cX4_add 75 = .ok (.iload_n 2, 1) := by decide +kernel
theorem dX4_add_76 : decode cX4_add 76 = .ok (.iconst 1, 1) := by decide +kernel
theorem dX4_add_77 : decode cX4_add 77 = .ok (.iadd, 1) := by decide +kernel
theorem dX4_add_78 : decode cX4_add 78 = .ok (.aload_n 0, 1) := by decide +kernel
theorem dX4_add_79 : decode cX4_add 79 = .ok (.getfield 18, 3) := by decide +kernel
theorem dX4_add_82 : decode cX4_add 82 = .ok (.iload_n 2, 1) := by decide +kernel
theorem dX4_add_83 : decode cX4_add 83 = .ok (.isub, 1) := by decide +kernel
theorem dX4_add_84 : decode cX4_add 84 = .ok (.invokestatic 50, 3) := by decide +kernel
theorem dX4_add_87 : decode cX4_add 87 = .ok (.aload_n 0, 1) := by decide +kernel
theorem dX4_add_88 : decode cX4_add 88 = .ok (.getfield 15, 3) := by decide +kernel
theorem dX4_add_91 : decode cX4_add 91 = .ok (.iload_n 2, 1) := by decide +kernel
theorem dX4_add_92 : decode cX4_add 92 = .ok (.aload_n 0, 1) := by decide +kernel
theorem dX4_add_93 : decode cX4_add 93 = .ok (.getfield 15, 3) := by decide +kernel
theorem dX4_add_96 : decode cX4_add 96 = .ok (.iload_n 2, 1) := by decide +kernel
theorem dX4_add_97 : decode cX4_add 97 = .ok (.iconst 1, 1) := by decide +kernel
theorem dX4_add_98 : decode cX4_add 98 = .ok (.iadd, 1) := by decide +kernel
theorem dX4_add_99 : decode cX4_add 99 = .ok (.aload_n 0, 1) := by decide +kernel
theorem dX4_add_100 : decode cX4_add 100 = .ok (.getfield 18, 3) := by decide +kernel
theorem dX4_add_103 : decode cX4_add 103 = .ok (.iload_n 2, 1) := by decide +kernel
theorem dX4_add_104 : decode cX4_add 104 = .ok (.isub, 1) := by decide +kernel
theorem dX4_add_105 : decode cX4_add 105 = .ok (.invokestatic 50, 3) := by decide +kernel
theorem dX4_add_108 : decode cX4_add 108 = .ok (.aload_n 0, 1) := by decide +kernel
theorem dX4_add_109 : decode cX4_add 109 = .ok (.getfield 9, 3) := by decide +kernel
theorem dX4_add_112 : decode cX4_add 112 = .ok (.iload_n 2, 1) := by decide +kernel
theorem dX4_add_113 : decode cX4_add 113 = .ok (.iload_n 1, 1) := by decide +kernel
theorem dX4_add_114 : decode cX4_add 114 = .ok (.iastore, 1) := by decide +kernel
theorem dX4_add_115 : decode cX4_add 115 = .ok (.aload_n 0, 1) := by decide +kernel
theorem dX4_add_116 : decode cX4_add 116 = .ok (.getfield 15, 3) := by decide +kernel
theorem dX4_add_119 : decode cX4_add 119 = .ok (.iload_n 2, 1) := by decide +kernel
theorem dX4_add_120 : decode cX4_add 120 = .ok (.iconst 1, 1) := by decide +kernel
theorem dX4_add_121 : decode cX4_add 121 = .ok (.iastore, 1) := by decide +kernel
theorem dX4_add_122 : decode cX4_add 122 = .ok (.aload_n 0, 1) := by decide +kernel
theorem dX4_add_123 : decode cX4_add 123 = .ok (.dup, 1) := by decide +kernel
theorem dX4_add_124 : decode cX4_add 124 = .ok (.getfield 18, 3) := by decide +kernel
theorem dX4_add_127 : decode cX4_add 127 = .ok (.iconst 1, 1) := by decide +kernel
theorem dX4_add_128 : decode cX4_add 128 = .ok (.iadd, 1) := by decide +kernel
theorem dX4_add_129 : decode cX4_add 129 = .ok (.putfield 18, 3) := by decide +kernel
theorem dX4_add_132 : decode cX4_add 132 = .ok (.return_, 1) := by decide +kernel
theorem dX4_classesFor_0 : decode cX4_classesFor 0 = .ok (.lconst 0, 1) := by decide +kernel
theorem dX4_classesFor_1 : decode cX4_classesFor 1 = .ok (.lstore_n 2, 1) := by decide +kernel
theorem dX4_classesFor_2 : decode cX4_classesFor 2 = .ok (.iconst 0, 1) := by decide +kernel
theorem dX4_classesFor_3 : decode cX4_classesFor 3 = .ok (.istore 4, 2) := by decide +kernel
theorem dX4_classesFor_5 : decode cX4_classesFor 5 = .ok (.iload 4, 2) := by decide +kernel
theorem dX4_classesFor_7 : decode cX4_classesFor 7 = .ok (.aload_n 0, 1) := by decide +kernel
theorem dX4_classesFor_8 : decode cX4_classesFor 8 = .ok (.getfield 18, 3) := by decide +kernel
theorem dX4_classesFor_11 : decode cX4_classesFor 11 = .ok (.if_icmp .ge 32, 3) := by decide +kernel
theorem dX4_classesFor_14 : decode cX4_classesFor 14 = .ok (.lload_n 2, 1) := by decide +kernel
theorem dX4_classesFor_15 : decode cX4_classesFor 15 = .ok (.aload_n 0, 1) := by decide +kernel
theorem dX4_classesFor_16 : decode cX4_classesFor 16 = .ok (.getfield 15, 3) := by decide +kernel
theorem dX4_classesFor_19 : decode cX4_classesFor 19 = .ok (.iload 4, 2) := by decide +kernel
theorem dX4_classesFor_21 : decode cX4_classesFor 21 = .ok (.iaload, 1) := by decide +kernel
theorem dX4_classesFor_22 : decode cX4_classesFor 22 = .ok (.i2l, 1) := by decide +kernel
theorem dX4_classesFor_23 : decode cX4_classesFor 23 = .ok (.aload_n 0, 1) := by decide +kernel
theorem dX4_classesFor_24 : decode cX4_classesFor 24 = .ok (.getfield 9, 3) := by decide +kernel
theorem dX4_classesFor_27 : decode cX4_classesFor 27 = .ok (.iload 4, 2) := by decide +kernel
theorem dX4_classesFor_29 : decode cX4_classesFor 29 = .ok (.iaload, 1) := by decide +kernel
theorem dX4_classesFor_30 : decode cX4_classesFor 30 = .ok (.iload_n 1, 1) := by decide +kernel
theorem dX4_classesFor_31 : decode cX4_classesFor 31 = .ok (.invokestatic 56, 3) := by decide +kernel
theorem dX4_classesFor_34 : decode cX4_classesFor 34 = .ok (.lmul, 1) := by decide +kernel
theorem dX4_classesFor_35 : decode cX4_classesFor 35 = .ok (.ladd, 1) := by decide +kernel
theorem dX4_classesFor_36 : decode cX4_classesFor 36 = .ok (.lstore_n 2, 1) := by decide +kernel
theorem dX4_classesFor_37 : decode cX4_classesFor 37 = .ok (.iinc 4 1, 3) := by decide +kernel
theorem dX4_classesFor_40 : decode cX4_classesFor 40 = .ok (.goto (-35), 3) := by decide +kernel
theorem dX4_classesFor_43 : decode cX4_classesFor 43 = .ok (.aload_n 0, 1) := by decide +kernel
theorem dX4_classesFor_44 : decode cX4_classesFor 44 = .ok (.getfield 28, 3) := by decide +kernel
theorem dX4_classesFor_47 : decode cX4_classesFor 47 = .ok (.ifCond .le 13, 3) := by decide +kernel
theorem dX4_classesFor_50 : decode cX4_classesFor 50 = .ok (.lload_n 2, 1) := by decide +kernel
theorem dX4_classesFor_51 : decode cX4_classesFor 51 = .ok (.aload_n 0, 1) := by decide +kernel
theorem dX4_classesFor_52 : decode cX4_classesFor 52 = .ok (.getfield 28, 3) := by decide +kernel
theorem dX4_classesFor_55 : decode cX4_classesFor 55 = .ok (.i2l, 1) := by decide +kernel
theorem dX4_classesFor_56 : decode cX4_classesFor 56 = .ok (.ldiv, 1) := by decide +kernel
theorem dX4_classesFor_57 : decode cX4_classesFor 57 = .ok (.goto 4, 3) := by decide +kernel
theorem dX4_classesFor_60 : decode cX4_classesFor 60 = .ok (.lconst 0, 1) := by decide +kernel
theorem dX4_classesFor_61 : decode cX4_classesFor 61 = .ok (.lreturn, 1) := by decide +kernel
theorem dX4_paintingsLeft_0 : decode cX4_paintingsLeft 0 = .ok (.lconst 1, 1) := by decide +kernel
theorem dX4_paintingsLeft_1 : decode cX4_paintingsLeft 1 = .ok (.lstore_n 2, 1) := by decide +kernel
theorem dX4_paintingsLeft_2 : decode cX4_paintingsLeft 2 = .ok (.iload_n 0, 1) := by decide +kernel
theorem dX4_paintingsLeft_3 : decode cX4_paintingsLeft 3 = .ok (.istore 4, 2) := by decide +kernel
theorem dX4_paintingsLeft_5 : decode cX4_paintingsLeft 5 = .ok (.iconst 0, 1) := by decide +kernel
theorem dX4_paintingsLeft_6 : decode cX4_paintingsLeft 6 = .ok (.istore 5, 2) := by decide +kernel
theorem dX4_paintingsLeft_8 : decode cX4_paintingsLeft 8 = .ok (.iload 5, 2) := by decide +kernel
theorem dX4_paintingsLeft_10 : decode cX4_paintingsLeft 10 = .ok (.bipush 6, 2) := by decide +kernel
theorem dX4_paintingsLeft_12 : decode cX4_paintingsLeft 12 = .ok (.if_icmp .ge 39, 3) := by decide +kernel
theorem dX4_paintingsLeft_15 : decode cX4_paintingsLeft 15 = .ok (.iload 4, 2) := by decide +kernel
theorem dX4_paintingsLeft_17 : decode cX4_paintingsLeft 17 = .ok (.bipush 10, 2) := by decide +kernel
theorem dX4_paintingsLeft_19 : decode cX4_paintingsLeft 19 = .ok (.irem, 1) := by decide +kernel
theorem dX4_paintingsLeft_20 : decode cX4_paintingsLeft 20 = .ok (.istore 6, 2) := by decide +kernel
theorem dX4_paintingsLeft_22 : decode cX4_paintingsLeft 22 = .ok (.iload 6, 2) := by decide +kernel
theorem dX4_paintingsLeft_24 : decode cX4_paintingsLeft 24 = .ok (.ifCond .le 14, 3) := by decide +kernel
theorem dX4_paintingsLeft_27 : decode cX4_paintingsLeft 27 = .ok (.lload_n 2, 1) := by decide +kernel
theorem dX4_paintingsLeft_28 : decode cX4_paintingsLeft 28 = .ok (.iload_n 1, 1) := by decide +kernel
theorem dX4_paintingsLeft_29 : decode cX4_paintingsLeft 29 = .ok (.i2l, 1) := by decide +kernel
theorem dX4_paintingsLeft_30 : decode cX4_paintingsLeft 30 = .ok (.lmul, 1) := by decide +kernel
theorem dX4_paintingsLeft_31 : decode cX4_paintingsLeft 31 = .ok (.lstore_n 2, 1) := by decide +kernel
theorem dX4_paintingsLeft_32 : decode cX4_paintingsLeft 32 = .ok (.iinc 6 (-1), 3) := by decide +kernel
theorem dX4_paintingsLeft_35 : decode cX4_paintingsLeft 35 = .ok (.goto (-13), 3) := by decide +kernel
theorem dX4_paintingsLeft_38 : decode cX4_paintingsLeft 38 = .ok (.iload 4, 2) := by decide +kernel
theorem dX4_paintingsLeft_40 : decode cX4_paintingsLeft 40 = .ok (.bipush 10, 2) := by decide +kernel
theorem dX4_paintingsLeft_42 : decode cX4_paintingsLeft 42 = .ok (.idiv, 1) := by decide +kernel
theorem dX4_paintingsLeft_43 : decode cX4_paintingsLeft 43 = .ok (.istore 4, 2) := by decide +kernel
theorem dX4_paintingsLeft_45 : decode cX4_paintingsLeft 45 = .ok (.iinc 5 1, 3) := by decide +kernel
theorem dX4_paintingsLeft_48 : decode cX4_paintingsLeft 48 = .ok (.goto (-40), 3) := by decide +kernel
theorem dX4_paintingsLeft_51 : decode cX4_paintingsLeft 51 = .ok (.lload_n 2, 1) := by decide +kernel
theorem dX4_paintingsLeft_52 : decode cX4_paintingsLeft 52 = .ok (.lreturn, 1) := by decide +kernel
theorem dX5_init_0 : decode cX5_init 0 = .ok (.aload_n 0, 1) := by decide +kernel
theorem dX5_init_1 : decode cX5_init 1 = .ok (.invokespecial 3, 3) := by decide +kernel
theorem dX5_init_4 : decode cX5_init 4 = .ok (.aload_n 0, 1) := by decide +kernel
theorem dX5_init_5 : decode cX5_init 5 = .ok (.bipush 120, 2) := by decide +kernel
theorem dX5_init_7 : decode cX5_init 7 = .ok (.newarray .int, 2) := by decide +kernel
theorem dX5_init_9 : decode cX5_init 9 = .ok (.putfield 9, 3) := by decide +kernel
theorem dX5_init_12 : decode cX5_init 12 = .ok (.aload_n 0, 1) := by decide +kernel
theorem dX5_init_13 : decode cX5_init 13 = .ok (.bipush 120, 2) := by decide +kernel
theorem dX5_init_15 : decode cX5_init 15 = .ok (.newarray .int, 2) := by decide +kernel
theorem dX5_init_17 : decode cX5_init 17 = .ok (.putfield 15, 3) := by decide +kernel
theorem dX5_init_20 : decode cX5_init 20 = .ok (.return_, 1) := by decide +kernel
theorem dX5_behind_0 : decode cX5_behind 0 = .ok (.iload_n 0, 1) := by decide +kernel
theorem dX5_behind_1 : decode cX5_behind 1 = .ok (.iconst 1, 1) := by decide +kernel
theorem dX5_behind_2 : decode cX5_behind 2 = .ok (.ishr, 1) := by decide +kernel
theorem dX5_behind_3 : decode cX5_behind 3 = .ok (.iload_n 1, 1) := by decide +kernel
theorem dX5_behind_4 : decode cX5_behind 4 = .ok (.iconst 1, 1) := by decide +kernel
theorem dX5_behind_5 : decode cX5_behind 5 = .ok (.ishr, 1) := by decide +kernel
theorem dX5_behind_6 : decode cX5_behind 6 = .ok (.iload_n 2, 1) := by decide +kernel
theorem dX5_behind_7 : decode cX5_behind 7 = .ok (.invokestatic 18, 3) := by decide +kernel
theorem dX5_behind_10 : decode cX5_behind 10 = .ok (.iconst 1, 1) := by decide +kernel
theorem dX5_behind_11 : decode cX5_behind 11 = .ok (.ishl, 1) := by decide +kernel
theorem dX5_behind_12 : decode cX5_behind 12 = .ok (.iload_n 0, 1) := by decide +kernel
theorem dX5_behind_13 : decode cX5_behind 13 = .ok (.iload_n 1, 1) := by decide +kernel
theorem dX5_behind_14 : decode cX5_behind 14 = .ok (.ixor, 1) := by decide +kernel
theorem dX5_behind_15 : decode cX5_behind 15 = .ok (.iconst 1, 1) := by decide +kernel
theorem dX5_behind_16 : decode cX5_behind 16 = .ok (.iand, 1) := by decide +kernel
theorem dX5_behind_17 : decode cX5_behind 17 = .ok (.ior, 1) := by decide +kernel
theorem dX5_behind_18 : decode cX5_behind 18 = .ok (.ireturn, 1) := by decide +kernel
theorem dX5_begin_0 : decode cX5_begin 0 = .ok (.aload_n 0, 1) := by decide +kernel
theorem dX5_begin_1 : decode cX5_begin 1 = .ok (.iload_n 1, 1) := by decide +kernel
theorem dX5_begin_2 : decode cX5_begin 2 = .ok (.putfield 24, 3) := by decide +kernel
theorem dX5_begin_5 : decode cX5_begin 5 = .ok (.aload_n 0, 1) := by decide +kernel
theorem dX5_begin_6 : decode cX5_begin 6 = .ok (.iconst 0, 1) := by decide +kernel
theorem dX5_begin_7 : decode cX5_begin 7 = .ok (.putfield 28, 3) := by decide +kernel
theorem dX5_begin_10 : decode cX5_begin 10 = .ok (.aload_n 0, 1) := by decide +kernel
theorem dX5_begin_11 : decode cX5_begin 11 = .ok (.iconst 0, 1) := by decide +kernel
theorem dX5_begin_12 : decode cX5_begin 12 = .ok (.putfield 31, 3) := by decide +kernel
theorem dX5_begin_15 : decode cX5_begin 15 = .ok (.aload_n 0, 1) := by decide +kernel
theorem dX5_begin_16 : decode cX5_begin 16 = .ok (.aload_n 0, 1) := by decide +kernel
theorem dX5_begin_17 : decode cX5_begin 17 = .ok (.getfield 24, 3) := by decide +kernel
theorem dX5_begin_20 : decode cX5_begin 20 = .ok (.invokestatic 34, 3) := by decide +kernel
theorem dX5_begin_23 : decode cX5_begin 23 = .ok (.iconst 1, 1) := by decide +kernel
theorem dX5_begin_24 : decode cX5_begin 24 = .ok (.ishl, 1) := by decide +kernel
theorem dX5_begin_25 : decode cX5_begin 25 = .ok (.invokevirtual 38, 3) := by decide +kernel
theorem dX5_begin_28 : decode cX5_begin 28 = .ok (.pop, 1) := by decide +kernel
theorem dX5_begin_29 : decode cX5_begin 29 = .ok (.return_, 1) := by decide +kernel
theorem dX5_grow_0 : decode cX5_grow 0 = .ok (.aload_n 0, 1) := by decide +kernel
theorem dX5_grow_1 : decode cX5_grow 1 = .ok (.iload_n 3, 1) := by decide +kernel
theorem dX5_grow_2 : decode cX5_grow 2 = .ok (.invokevirtual 42, 3) := by decide +kernel
theorem dX5_grow_5 : decode cX5_grow 5 = .ok (.iconst 0, 1) := by decide +kernel
theorem dX5_grow_6 : decode cX5_grow 6 = .ok (.istore 4, 2) := by decide +kernel
theorem dX5_grow_8 : decode cX5_grow 8 = .ok (.iload 4, 2) := by decide +kernel
theorem dX5_grow_10 : decode cX5_grow 10 = .ok (.aload_n 0, 1) := by decide +kernel
theorem dX5_grow_11 : decode cX5_grow 11 = .ok (.getfield 28, 3) := by decide +kernel
theorem dX5_grow_14 : decode cX5_grow 14 = .ok (.if_icmp .ge 69, 3) := by decide +kernel
theorem dX5_grow_17 : decode cX5_grow 17 = .ok (.iload 4, 2) := by decide +kernel
theorem dX5_grow_19 : decode cX5_grow 19 = .ok (.bipush 120, 2) := by decide +kernel
theorem dX5_grow_21 : decode cX5_grow 21 = .ok (.if_icmp .ge 62, 3) := by decide +kernel
theorem dX5_grow_24 : decode cX5_grow 24 = .ok (.iconst 0, 1) := by decide +kernel
theorem dX5_grow_25 : decode cX5_grow 25 = .ok (.istore 5, 2) := by decide +kernel
theorem dX5_grow_27 : decode cX5_grow 27 = .ok (.iload 5, 2) := by decide +kernel
theorem dX5_grow_29 : decode cX5_grow 29 = .ok (.aload_n 1, 1) := by decide +kernel
theorem dX5_grow_30 : decode cX5_grow 30 = .ok (.arraylength, 1) := by decide +kernel
theorem dX5_grow_31 : decode cX5_grow 31 = .ok (.if_icmp .ge 46, 3) := by decide +kernel
theorem dX5_grow_34 : decode cX5_grow 34 = .ok (.iload_n 2, 1) := by decide +kernel
theorem dX5_grow_35 : decode cX5_grow 35 = .ok (.iload 5, 2) := by decide +kernel
theorem dX5_grow_37 : decode cX5_grow 37 = .ok (.ishr, 1) := by decide +kernel
theorem dX5_grow_38 : decode cX5_grow 38 = .ok (.iconst 1, 1) := by decide +kernel
theorem dX5_grow_39 : decode cX5_grow 39 = .ok (.iand, 1) := by decide +kernel
theorem dX5_grow_40 : decode cX5_grow 40 = .ok (.iconst 1, 1) := by decide +kernel
theorem dX5_grow_41 : decode cX5_grow 41 = .ok (.if_icmp .ne 30, 3) := by decide +kernel
theorem dX5_grow_44 : decode cX5_grow 44 = .ok (.aload_n 0, 1) := by decide +kernel
theorem dX5_grow_45 : decode cX5_grow 45 = .ok (.aload_n 0, 1) := by decide +kernel
theorem dX5_grow_46 : decode cX5_grow 46 = .ok (.getfield 15, 3) := by decide +kernel
theorem dX5_grow_49 : decode cX5_grow 49 = .ok (.iload 4, 2) := by decide +kernel
theorem dX5_grow_51 : decode cX5_grow 51 = .ok (.iaload, 1) := by decide +kernel
theorem dX5_grow_52 : decode cX5_grow 52 = .ok (.aload_n 1, 1) := by decide +kernel
theorem dX5_grow_53 : decode cX5_grow 53 = .ok (.iload 5, 2) := by decide +kernel
theorem dX5_grow_55 : decode cX5_grow 55 = .ok (.iaload, 1) := by decide +kernel
theorem dX5_grow_56 : decode cX5_grow 56 = .ok (.aload_n 0, 1) := by decide +kernel
theorem dX5_grow_57 : decode cX5_grow 57 = .ok (.getfield 24, 3) := by decide +kernel
theorem dX5_grow_60 : decode cX5_grow 60 = .ok (.invokestatic 46, 3) := by decide +kernel
theorem dX5_grow_63 : decode cX5_grow 63 = .ok (.invokevirtual 38, 3) := by decide +kernel
theorem dX5_grow_66 : decode cX5_grow 66 = .ok (.ifCond .ne 5, 3) := by decide +kernel
theorem dX5_grow_69 : decode cX5_grow 69 = .ok (.iconst 0, 1) := by decide +kernel
theorem dX5_grow_70 : decode cX5_grow 70 = .ok (.ireturn, 1) := by decide +kernel
theorem dX5_grow_71 : decode cX5_grow 71 = .ok (.iinc 5 1, 3) := by decide +kernel
theorem dX5_grow_74 : decode cX5_grow 74 = .ok (.goto (-47), 3) := by decide +kernel
theorem dX5_grow_77 : decode cX5_grow 77 = .ok (.iinc 4 1, 3) := by decide +kernel
theorem dX5_grow_80 : decode cX5_grow 80 = .ok (.goto (-72), 3) := by decide +kernel
theorem dX5_grow_83 : decode cX5_grow 83 = .ok (.iconst 1, 1) := by decide +kernel
theorem dX5_grow_84 : decode cX5_grow 84 = .ok (.ireturn, 1) := by decide +kernel
theorem dX5_admit_0 : decode cX5_admit 0 = .ok (.aload_n 0, 1) := by decide +kernel
theorem dX5_admit_1 : decode cX5_admit 1 = .ok (.iload_n 1, 1) := by decide +kernel
theorem dX5_admit_2 : decode cX5_admit 2 = .ok (.invokevirtual 49, 3) := by decide +kernel
theorem dX5_admit_5 : decode cX5_admit 5 = .ok (.istore_n 2, 1) := by decide +kernel
theorem dX5_admit_6 : decode cX5_admit 6 = .ok (.iload_n 2, 1) := by decide +kernel
theorem dX5_admit_7 : decode cX5_admit 7 = .ok (.aload_n 0, 1) := by decide +kernel
theorem dX5_admit_8 : decode cX5_admit 8 = .ok (.getfield 28, 3) := by decide +kernel
theorem dX5_admit_11 : decode cX5_admit 11 = .ok (.if_icmp .ge 15, 3) := by decide +kernel
theorem dX5_admit_14 : decode cX5_admit 14 = .ok (.aload_n 0, 1) := by decide +kernel
theorem dX5_admit_15 : decode cX5_admit 15 = .ok (.getfield 9, 3) := by decide +kernel
theorem dX5_admit_18 : decode cX5_admit 18 = .ok (.iload_n 2, 1) := by decide +kernel
theorem dX5_admit_19 : decode cX5_admit 19 = .ok (.iaload, 1) := by decide +kernel
theorem dX5_admit_20 : decode cX5_admit 20 = .ok (.iload_n 1, 1) := by decide +kernel
theorem dX5_admit_21 : decode cX5_admit 21 = .ok (.if_icmp .ne 5, 3) := by decide +kernel
theorem dX5_admit_24 : decode cX5_admit 24 = .ok (.iconst 1, 1) := by decide +kernel
theorem dX5_admit_25 : decode cX5_admit 25 = .ok (.ireturn, 1) := by decide +kernel
theorem dX5_admit_26 : decode cX5_admit 26 = .ok (.aload_n 0, 1) := by decide +kernel
theorem dX5_admit_27 : decode cX5_admit 27 = .ok (.getfield 28, 3) := by decide +kernel
theorem dX5_admit_30 : decode cX5_admit 30 = .ok (.bipush 120, 2) := by decide +kernel
theorem dX5_admit_32 : decode cX5_admit 32 = .ok (.if_icmp .lt 5, 3) := by decide +kernel
theorem dX5_admit_35 : decode cX5_admit 35 = .ok (.iconst 0, 1) := by decide +kernel
theorem dX5_admit_36 : decode cX5_admit 36 = .ok (.ireturn, 1) := by decide +kernel
theorem dX5_admit_37 : decode cX5_admit 37 = .ok (.aload_n 0, 1) := by decide +kernel
theorem dX5_admit_38 : decode cX5_admit 38 = .ok (.getfield 9, 3) := by decide +kernel
theorem dX5_admit_41 : decode cX5_admit 41 = .ok (.iload_n 2, 1) := by decide +kernel
theorem dX5_admit_42 : decode cX5_admit 42 = .ok (.aload_n 0, 1) := by decide +kernel
theorem dX5_admit_43 : decode cX5_admit 43 = .ok (.getfield 9, 3) := by decide +kernel
theorem dX5_admit_46 : decode cX5_admit 46 = .ok (.iload_n 2, 1) := by decide +kernel
theorem dX5_admit_47 : decode cX5_admit 47 = .ok (.iconst 1, 1) := by decide +kernel
theorem dX5_admit_48 : decode cX5_admit 48 = .ok (.iadd, 1) := by decide +kernel
theorem dX5_admit_49 : decode cX5_admit 49 = .ok (.aload_n 0, 1) := by decide +kernel
theorem dX5_admit_50 : decode cX5_admit 50 = .ok (.getfield 28, 3) := by decide +kernel
theorem dX5_admit_53 : decode cX5_admit 53 = .ok (.iload_n 2, 1) := by decide +kernel
theorem dX5_admit_54 : decode cX5_admit 54 = .ok (.isub, 1) := by decide +kernel
theorem dX5_admit_55 : decode cX5_admit 55 = .ok (.invokestatic 52, 3) := by decide +kernel
theorem dX5_admit_58 : decode cX5_admit 58 = .ok (.aload_n 0, 1) := by decide +kernel
theorem dX5_admit_59 : decode cX5_admit 59 = .ok (.getfield 9, 3) := by decide +kernel
theorem dX5_admit_62 : decode cX5_admit 62 = .ok (.iload_n 2, 1) := by decide +kernel
theorem dX5_admit_63 : decode cX5_admit 63 = .ok (.iload_n 1, 1) := by decide +kernel
theorem dX5_admit_64 : decode cX5_admit 64 = .ok (.iastore, 1) := by decide +kernel
theorem dX5_admit_65 : decode cX5_admit 65 = .ok (.aload_n 0, 1) := by decide +kernel
theorem dX5_admit_66 : decode cX5_admit 66 = .ok (.getfield 15, 3) := by decide +kernel
theorem dX5_admit_69 : decode cX5_admit 69 = .ok (.aload_n 0, 1) := by decide +kernel
theorem dX5_admit_70 : decode cX5_admit 70 = .ok (.getfield 28, 3) := by decide +kernel
theorem dX5_admit_73 : decode cX5_admit 73 = .ok (.iload_n 1, 1) := by decide +kernel
theorem dX5_admit_74 : decode cX5_admit 74 = .ok (.iastore, 1) := by decide +kernel
theorem dX5_admit_75 : decode cX5_admit 75 = .ok (.aload_n 0, 1) := by decide +kernel
theorem dX5_admit_76 : decode cX5_admit 76 = .ok (.dup, 1) := by decide +kernel
theorem dX5_admit_77 : decode cX5_admit 77 = .ok (.getfield 28, 3) := by decide +kernel
theorem dX5_admit_80 : decode cX5_admit 80 = .ok (.iconst 1, 1) := by decide +kernel
theorem dX5_admit_81 : decode cX5_admit 81 = .ok (.iadd, 1) := by decide +kernel
theorem dX5_admit_82 : decode cX5_admit 82 = .ok (.putfield 28, 3) := by decide +kernel
theorem dX5_admit_85 : decode cX5_admit 85 = .ok (.aload_n 0, 1) := by decide +kernel
theorem dX5_admit_86 : decode cX5_admit 86 = .ok (.dup, 1) := by decide +kernel
theorem dX5_admit_87 : decode cX5_admit 87 = .ok (.getfield 31, 3) := by decide +kernel
theorem dX5_admit_90 : decode cX5_admit 90 = .ok (.iconst 1, 1) := by decide +kernel
theorem dX5_admit_91 : decode cX5_admit 91 = .ok (.iload_n 1, 1) := by decide +kernel
theorem dX5_admit_92 : decode cX5_admit 92 = .ok (.iconst 1, 1) := by decide +kernel
theorem dX5_admit_93 : decode cX5_admit 93 = .ok (.iand, 1) := by decide +kernel
theorem dX5_admit_94 : decode cX5_admit 94 = .ok (.isub, 1) := by decide +kernel
theorem dX5_admit_95 : decode cX5_admit 95 = .ok (.iadd, 1) := by decide +kernel
theorem dX5_admit_96 : decode cX5_admit 96 = .ok (.putfield 31, 3) := by decide +kernel
theorem dX5_admit_99 : decode cX5_admit 99 = .ok (.iconst 1, 1) := by decide +kernel
theorem dX5_admit_100 : decode cX5_admit 100 = .ok (.ireturn, 1) := by decide +kernel
theorem dX5_placeOf_0 : decode cX5_placeOf 0 = .ok (.iconst 0, 1) := by decide +kernel
theorem dX5_placeOf_1 : decode cX5_placeOf 1 = .ok (.istore_n 2, 1) := by decide +kernel
theorem dX5_placeOf_2 : decode cX5_placeOf 2 = .ok (.aload_n 0, 1) := by decide +kernel
theorem dX5_placeOf_3 : decode cX5_placeOf 3 = .ok (.getfield 28, 3) := by decide +kernel
theorem dX5_placeOf_6 : decode cX5_placeOf 6 = .ok (.istore_n 3, 1) := by decide +kernel
theorem dX5_placeOf_7 : decode cX5_placeOf 7 = .ok (.iconst 0, 1) := by decide +kernel
theorem dX5_placeOf_8 : decode cX5_placeOf 8 = .ok (.istore 4, 2) := by decide +kernel
theorem dX5_placeOf_10 : decode cX5_placeOf 10 = .ok (.iload 4, 2) := by decide +kernel
theorem dX5_placeOf_12 : decode cX5_placeOf 12 = .ok (.bipush 8, 2) := by decide +kernel
theorem dX5_placeOf_14 : decode cX5_placeOf 14 = .ok (.if_icmp .ge 43, 3) := by decide +kernel
theorem dX5_placeOf_17 : decode cX5_placeOf 17 = .ok (.iload_n 2, 1) := by decide +kernel
theorem dX5_placeOf_18 : decode cX5_placeOf 18 = .ok (.iload_n 3, 1) := by decide +kernel
theorem dX5_placeOf_19 : decode cX5_placeOf 19 = .ok (.if_icmp .ge 38, 3) := by decide +kernel
theorem dX5_placeOf_22 : decode cX5_placeOf 22 = .ok (.iload_n 2, 1) := by decide +kernel
theorem dX5_placeOf_23 : decode cX5_placeOf 23 = .ok (.iload_n 3, 1) := by decide +kernel
theorem dX5_placeOf_24 : decode cX5_placeOf 24 = .ok (.iadd, 1) := by decide +kernel
theorem dX5_placeOf_25 : decode cX5_placeOf 25 = .ok (.iconst 1, 1) := by decide +kernel
theorem dX5_placeOf_26 : decode cX5_placeOf 26 = .ok (.ishr, 1) := by decide +kernel
theorem dX5_placeOf_27 : decode cX5_placeOf 27 = .ok (.istore 5, 2) := by decide +kernel
theorem dX5_placeOf_29 : decode cX5_placeOf 29 = .ok (.aload_n 0, 1) := by decide +kernel
theorem dX5_placeOf_30 : decode cX5_placeOf 30 = .ok (.getfield 9, 3) := by decide +kernel
theorem dX5_placeOf_33 : decode cX5_placeOf 33 = .ok (.iload 5, 2) := by decide +kernel
theorem dX5_placeOf_35 : decode cX5_placeOf 35 = .ok (.iaload, 1) := by decide +kernel
theorem dX5_placeOf_36 : decode cX5_placeOf 36 = .ok (.iload_n 1, 1) := by decide +kernel
theorem dX5_placeOf_37 : decode cX5_placeOf 37 = .ok (.if_icmp .ge 11, 3) := by decide +kernel
theorem dX5_placeOf_40 : decode cX5_placeOf 40 = .ok (.iload 5, 2) := by decide +kernel
theorem dX5_placeOf_42 : decode cX5_placeOf 42 = .ok (.iconst 1, 1) := by decide +kernel
theorem dX5_placeOf_43 : decode cX5_placeOf 43 = .ok (.iadd, 1) := by decide +kernel
theorem dX5_placeOf_44 : decode cX5_placeOf 44 = .ok (.istore_n 2, 1) := by decide +kernel
theorem dX5_placeOf_45 : decode cX5_placeOf 45 = .ok (.goto 6, 3) := by decide +kernel
theorem dX5_placeOf_48 : decode cX5_placeOf 48 = .ok (.iload 5, 2) := by decide +kernel
theorem dX5_placeOf_50 : decode cX5_placeOf 50 = .ok (.istore_n 3, 1) := by decide +kernel
theorem dX5_placeOf_51 : decode cX5_placeOf 51 = .ok (.iinc 4 1, 3) := by decide +kernel
theorem dX5_placeOf_54 : decode cX5_placeOf 54 = .ok (.goto (-44), 3) := by decide +kernel
theorem dX5_placeOf_57 : decode cX5_placeOf 57 = .ok (.iload_n 2, 1) := by decide +kernel
theorem dX5_placeOf_58 : decode cX5_placeOf 58 = .ok (.ireturn, 1) := by decide +kernel
theorem dX5_howManyBy_0 : decode cX5_howManyBy 0 = .ok (.iload_n 1, 1) := by decide +kernel
theorem dX5_howManyBy_1 : decode cX5_howManyBy 1 = .ok (.ifCond .ne 10, 3) := by decide +kernel
theorem dX5_howManyBy_4 : decode cX5_howManyBy 4 = .ok (.aload_n 0, 1) := by decide +kernel
theorem dX5_howManyBy_5 : decode cX5_howManyBy 5 = .ok (.getfield 31, 3) := by decide +kernel
theorem dX5_howManyBy_8 : decode cX5_howManyBy 8 = .ok (.goto 7, 3) := by decide +kernel
theorem dX5_howManyBy_11 : decode cX5_howManyBy 11 = .ok (.aload_n 0, 1) := by decide +kernel
theorem dX5_howManyBy_12 : decode cX5_howManyBy 12 = .ok (.getfield 28, 3) := by decide +kernel
theorem dX5_howManyBy_15 : decode cX5_howManyBy 15 = .ok (.ireturn, 1) := by decide +kernel
theorem dX5_leastMade_0 : decode cX5_leastMade 0 = .ok (.iconst (-1), 1) := by decide +kernel
theorem dX5_leastMade_1 : decode cX5_leastMade 1 = .ok (.istore 4, 2) := by decide +kernel
theorem dX5_leastMade_3 : decode cX5_leastMade 3 = .ok (.iconst 0, 1) := by decide +kernel
theorem dX5_leastMade_4 : decode cX5_leastMade 4 = .ok (.istore 5, 2) := by decide +kernel
theorem dX5_leastMade_6 : decode cX5_leastMade 6 = .ok (.iload 5, 2) := by decide +kernel
theorem dX5_leastMade_8 : decode cX5_leastMade 8 = .ok (.aload_n 0, 1) := by decide +kernel
theorem dX5_leastMade_9 : decode cX5_leastMade 9 = .ok (.getfield 28, 3) := by decide +kernel
theorem dX5_leastMade_12 : decode cX5_leastMade 12 = .ok (.if_icmp .ge 72, 3) := by decide +kernel
theorem dX5_leastMade_15 : decode cX5_leastMade 15 = .ok (.aload_n 0, 1) := by decide +kernel
theorem dX5_leastMade_16 : decode cX5_leastMade 16 = .ok (.getfield 9, 3) := by decide +kernel
theorem dX5_leastMade_19 : decode cX5_leastMade 19 = .ok (.iload 5, 2) := by decide +kernel
theorem dX5_leastMade_21 : decode cX5_leastMade 21 = .ok (.iaload, 1) := by decide +kernel
theorem dX5_leastMade_22 : decode cX5_leastMade 22 = .ok (.iconst 1, 1) := by decide +kernel
theorem dX5_leastMade_23 : decode cX5_leastMade 23 = .ok (.iand, 1) := by decide +kernel
theorem dX5_leastMade_24 : decode cX5_leastMade 24 = .ok (.istore 6, 2) := by decide +kernel
theorem dX5_leastMade_26 : decode cX5_leastMade 26 = .ok (.iload 6, 2) := by decide +kernel
theorem dX5_leastMade_28 : decode cX5_leastMade 28 = .ok (.iload_n 2, 1) := by decide +kernel
theorem dX5_leastMade_29 : decode cX5_leastMade 29 = .ok (.if_icmp .lt 49, 3) := by decide +kernel
theorem dX5_leastMade_32 : decode cX5_leastMade 32 = .ok (.iload 6, 2) := by decide +kernel
theorem dX5_leastMade_34 : decode cX5_leastMade 34 = .ok (.iload_n 3, 1) := by decide +kernel
theorem dX5_leastMade_35 : decode cX5_leastMade 35 = .ok (.if_icmp .gt 43, 3) := by decide +kernel
theorem dX5_leastMade_38 : decode cX5_leastMade 38 = .ok (.iload_n 1, 1) := by decide +kernel
theorem dX5_leastMade_39 : decode cX5_leastMade 39 = .ok (.aload_n 0, 1) := by decide +kernel
theorem dX5_leastMade_40 : decode cX5_leastMade 40 = .ok (.getfield 9, 3) := by decide +kernel
theorem dX5_leastMade_43 : decode cX5_leastMade 43 = .ok (.iload 5, 2) := by decide +kernel
theorem dX5_leastMade_45 : decode cX5_leastMade 45 = .ok (.iaload, 1) := by decide +kernel
theorem dX5_leastMade_46 : decode cX5_leastMade 46 = .ok (.iconst 1, 1) := by decide +kernel
theorem dX5_leastMade_47 : decode cX5_leastMade 47 = .ok (.ishr, 1) := by decide +kernel
theorem dX5_leastMade_48 : decode cX5_leastMade 48 = .ok (.aload_n 0, 1) := by decide +kernel
theorem dX5_leastMade_49 : decode cX5_leastMade 49 = .ok (.getfield 24, 3) := by decide +kernel
theorem dX5_leastMade_52 : decode cX5_leastMade 52 = .ok (.invokestatic 18, 3) := by decide +kernel
theorem dX5_leastMade_55 : decode cX5_leastMade 55 = .ok (.istore 7, 2) := by decide +kernel
theorem dX5_leastMade_57 : decode cX5_leastMade 57 = .ok (.iload 4, 2) := by decide +kernel
theorem dX5_leastMade_59 : decode cX5_leastMade 59 = .ok (.ifCond .lt 10, 3) := by decide +kernel
theorem dX5_leastMade_62 : decode cX5_leastMade 62 = .ok (.iload 7, 2) := by decide +kernel
theorem dX5_leastMade_64 : decode cX5_leastMade 64 = .ok (.iload 4, 2) := by decide +kernel
theorem dX5_leastMade_66 : decode cX5_leastMade 66 = .ok (.if_icmp .ge 8, 3) := by decide +kernel
theorem dX5_leastMade_69 : decode cX5_leastMade 69 = .ok (.iload 7, 2) := by decide +kernel
theorem dX5_leastMade_71 : decode cX5_leastMade 71 = .ok (.goto 5, 3) := by decide +kernel
theorem dX5_leastMade_74 : decode cX5_leastMade 74 = .ok (.iload 4, 2) := by decide +kernel
theorem dX5_leastMade_76 : decode cX5_leastMade 76 = .ok (.istore 4, 2) := by decide +kernel
theorem dX5_leastMade_78 : decode cX5_leastMade 78 = .ok (.iinc 5 1, 3) := by decide +kernel
theorem dX5_leastMade_81 : decode cX5_leastMade 81 = .ok (.goto (-75), 3) := by decide +kernel
theorem dX5_leastMade_84 : decode cX5_leastMade 84 = .ok (.iload 4, 2) := by decide +kernel
theorem dX5_leastMade_86 : decode cX5_leastMade 86 = .ok (.ireturn, 1) := by decide +kernel
theorem dX5_howManyMade_0 : decode cX5_howManyMade 0 = .ok (.iconst 0, 1) := by decide +kernel
theorem dX5_howManyMade_1 : decode cX5_howManyMade 1 = .ok (.istore_n 3, 1) := by decide +kernel
theorem dX5_howManyMade_2 : decode cX5_howManyMade 2 = .ok (.iconst 0, 1) := by decide +kernel
theorem dX5_howManyMade_3 : decode cX5_howManyMade 3 = .ok (.istore 4, 2) := by decide +kernel
theorem dX5_howManyMade_5 : decode cX5_howManyMade 5 = .ok (.iload 4, 2) := by decide +kernel
theorem dX5_howManyMade_7 : decode cX5_howManyMade 7 = .ok (.aload_n 0, 1) := by decide +kernel
theorem dX5_howManyMade_8 : decode cX5_howManyMade 8 = .ok (.getfield 28, 3) := by decide +kernel
theorem dX5_howManyMade_11 : decode cX5_howManyMade 11 = .ok (.if_icmp .ge 46, 3) := by decide +kernel
theorem dX5_howManyMade_14 : decode cX5_howManyMade 14 = .ok (.aload_n 0, 1) := by decide +kernel
theorem dX5_howManyMade_15 : decode cX5_howManyMade 15 = .ok (.getfield 9, 3) := by decide +kernel
theorem dX5_howManyMade_18 : decode cX5_howManyMade 18 = .ok (.iload 4, 2) := by decide +kernel
theorem dX5_howManyMade_20 : decode cX5_howManyMade 20 = .ok (.iaload, 1) := by decide +kernel
theorem dX5_howManyMade_21 : decode cX5_howManyMade 21 = .ok (.iconst 1, 1) := by decide +kernel
theorem dX5_howManyMade_22 : decode cX5_howManyMade 22 = .ok (.iand, 1) := by decide +kernel
theorem dX5_howManyMade_23 : decode cX5_howManyMade 23 = .ok (.iload_n 2, 1) := by decide +kernel
theorem dX5_howManyMade_24 : decode cX5_howManyMade 24 = .ok (.if_icmp .gt 27, 3) := by decide +kernel
theorem dX5_howManyMade_27 : decode cX5_howManyMade 27 = .ok (.iload_n 1, 1) := by decide +kernel
theorem dX5_howManyMade_28 : decode cX5_howManyMade 28 = .ok (.aload_n 0, 1) := by decide +kernel
theorem dX5_howManyMade_29 : decode cX5_howManyMade 29 = .ok (.getfield 9, 3) := by decide +kernel
theorem dX5_howManyMade_32 : decode cX5_howManyMade 32 = .ok (.iload 4, 2) := by decide +kernel
theorem dX5_howManyMade_34 : decode cX5_howManyMade 34 = .ok (.iaload, 1) := by decide +kernel
theorem dX5_howManyMade_35 : decode cX5_howManyMade 35 = .ok (.iconst 1, 1) := by decide +kernel
theorem dX5_howManyMade_36 : decode cX5_howManyMade 36 = .ok (.ishr, 1) := by decide +kernel
theorem dX5_howManyMade_37 : decode cX5_howManyMade 37 = .ok (.aload_n 0, 1) := by decide +kernel
theorem dX5_howManyMade_38 : decode cX5_howManyMade 38 = .ok (.getfield 24, 3) := by decide +kernel
theorem dX5_howManyMade_41 : decode cX5_howManyMade 41 = .ok (.invokestatic 18, 3) := by decide +kernel
theorem dX5_howManyMade_44 : decode cX5_howManyMade 44 = .ok (.iload_n 1, 1) := by decide +kernel
theorem dX5_howManyMade_45 : decode cX5_howManyMade 45 = .ok (.if_icmp .ne 6, 3) := by decide +kernel
theorem dX5_howManyMade_48 : decode cX5_howManyMade 48 = .ok (.iinc 3 1, 3) := by decide +kernel
theorem dX5_howManyMade_51 : decode cX5_howManyMade 51 = .ok (.iinc 4 1, 3) := by decide +kernel
theorem dX5_howManyMade_54 : decode cX5_howManyMade 54 = .ok (.goto (-49), 3) := by decide +kernel
theorem dX5_howManyMade_57 : decode cX5_howManyMade 57 = .ok (.iload_n 3, 1) := by decide +kernel
theorem dX5_howManyMade_58 : decode cX5_howManyMade 58 = .ok (.ifCond .le 13, 3) := by decide +kernel
theorem dX5_howManyMade_61 : decode cX5_howManyMade 61 = .ok (.aload_n 0, 1) := by decide +kernel
theorem dX5_howManyMade_62 : decode cX5_howManyMade 62 = .ok (.iload_n 2, 1) := by decide +kernel
theorem dX5_howManyMade_63 : decode cX5_howManyMade 63 = .ok (.invokevirtual 58, 3) := by decide +kernel
theorem dX5_howManyMade_66 : decode cX5_howManyMade 66 = .ok (.iload_n 3, 1) := by decide +kernel
theorem dX5_howManyMade_67 : decode cX5_howManyMade 67 = .ok (.idiv, 1) := by decide +kernel
theorem dX5_howManyMade_68 : decode cX5_howManyMade 68 = .ok (.goto 4, 3) := by decide +kernel
theorem dX5_howManyMade_71 : decode cX5_howManyMade 71 = .ok (.iconst 0, 1) := by decide +kernel
theorem dX5_howManyMade_72 : decode cX5_howManyMade 72 = .ok (.ireturn, 1) := by decide +kernel
theorem dX5_makes_0 : decode cX5_makes 0 = .ok (.iconst 0, 1) := by decide +kernel
theorem dX5_makes_1 : decode cX5_makes 1 = .ok (.istore 4, 2) := by decide +kernel
theorem dX5_makes_3 : decode cX5_makes 3 = .ok (.iload 4, 2) := by decide +kernel
theorem dX5_makes_5 : decode cX5_makes 5 = .ok (.aload_n 0, 1) := by decide +kernel
theorem dX5_makes_6 : decode cX5_makes 6 = .ok (.getfield 28, 3) := by decide +kernel
theorem dX5_makes_9 : decode cX5_makes 9 = .ok (.if_icmp .ge 45, 3) := by decide +kernel
theorem dX5_makes_12 : decode cX5_makes 12 = .ok (.aload_n 0, 1) := by decide +kernel
theorem dX5_makes_13 : decode cX5_makes 13 = .ok (.getfield 9, 3) := by decide +kernel
theorem dX5_makes_16 : decode cX5_makes 16 = .ok (.iload 4, 2) := by decide +kernel
theorem dX5_makes_18 : decode cX5_makes 18 = .ok (.iaload, 1) := by decide +kernel
theorem dX5_makes_19 : decode cX5_makes 19 = .ok (.iconst 1, 1) := by decide +kernel
theorem dX5_makes_20 : decode cX5_makes 20 = .ok (.iand, 1) := by decide +kernel
theorem dX5_makes_21 : decode cX5_makes 21 = .ok (.iload_n 3, 1) := by decide +kernel
theorem dX5_makes_22 : decode cX5_makes 22 = .ok (.if_icmp .gt 26, 3) := by decide +kernel
theorem dX5_makes_25 : decode cX5_makes 25 = .ok (.iload_n 1, 1) := by decide +kernel
theorem dX5_makes_26 : decode cX5_makes 26 = .ok (.aload_n 0, 1) := by decide +kernel
theorem dX5_makes_27 : decode cX5_makes 27 = .ok (.getfield 9, 3) := by decide +kernel
theorem dX5_makes_30 : decode cX5_makes 30 = .ok (.iload 4, 2) := by decide +kernel
theorem dX5_makes_32 : decode cX5_makes 32 = .ok (.iaload, 1) := by decide +kernel
theorem dX5_makes_33 : decode cX5_makes 33 = .ok (.iconst 1, 1) := by decide +kernel
theorem dX5_makes_34 : decode cX5_makes 34 = .ok (.ishr, 1) := by decide +kernel
theorem dX5_makes_35 : decode cX5_makes 35 = .ok (.aload_n 0, 1) := by decide +kernel
theorem dX5_makes_36 : decode cX5_makes 36 = .ok (.getfield 24, 3) := by decide +kernel
theorem dX5_makes_39 : decode cX5_makes 39 = .ok (.invokestatic 18, 3) := by decide +kernel
theorem dX5_makes_42 : decode cX5_makes 42 = .ok (.iload_n 2, 1) := by decide +kernel
theorem dX5_makes_43 : decode cX5_makes 43 = .ok (.if_icmp .ne 5, 3) := by decide +kernel
theorem dX5_makes_46 : decode cX5_makes 46 = .ok (.iconst 1, 1) := by decide +kernel
theorem dX5_makes_47 : decode cX5_makes 47 = .ok (.ireturn, 1) := by decide +kernel
theorem dX5_makes_48 : decode cX5_makes 48 = .ok (.iinc 4 1, 3) := by decide +kernel
theorem dX5_makes_51 : decode cX5_makes 51 = .ok (.goto (-48), 3) := by decide +kernel
theorem dX5_makes_54 : decode cX5_makes 54 = .ok (.iconst 0, 1) := by decide +kernel
theorem dX5_makes_55 : decode cX5_makes 55 = .ok (.ireturn, 1) := by decide +kernel
theorem dX5_isLeast_0 : decode cX5_isLeast 0 = .ok (.iconst 1, 1) := by decide +kernel
theorem dX5_isLeast_1 : decode cX5_isLeast 1 = .ok (.istore_n 3, 1) := by decide +kernel
theorem dX5_isLeast_2 : decode cX5_isLeast 2 = .ok (.iload_n 3, 1) := by decide +kernel
theorem dX5_isLeast_3 : decode cX5_isLeast 3 = .ok (.aload_n 0, 1) := by decide +kernel
theorem dX5_isLeast_4 : decode cX5_isLeast 4 = .ok (.getfield 28, 3) := by decide +kernel
theorem dX5_isLeast_7 : decode cX5_isLeast 7 = .ok (.if_icmp .ge 42, 3) := by decide +kernel
theorem dX5_isLeast_10 : decode cX5_isLeast 10 = .ok (.aload_n 0, 1) := by decide +kernel
theorem dX5_isLeast_11 : decode cX5_isLeast 11 = .ok (.getfield 9, 3) := by decide +kernel
theorem dX5_isLeast_14 : decode cX5_isLeast 14 = .ok (.iload_n 3, 1) := by decide +kernel
theorem dX5_isLeast_15 : decode cX5_isLeast 15 = .ok (.iaload, 1) := by decide +kernel
theorem dX5_isLeast_16 : decode cX5_isLeast 16 = .ok (.iconst 1, 1) := by decide +kernel
theorem dX5_isLeast_17 : decode cX5_isLeast 17 = .ok (.iand, 1) := by decide +kernel
theorem dX5_isLeast_18 : decode cX5_isLeast 18 = .ok (.iload_n 2, 1) := by decide +kernel
theorem dX5_isLeast_19 : decode cX5_isLeast 19 = .ok (.if_icmp .gt 24, 3) := by decide +kernel
theorem dX5_isLeast_22 : decode cX5_isLeast 22 = .ok (.iload_n 1, 1) := by decide +kernel
theorem dX5_isLeast_23 : decode cX5_isLeast 23 = .ok (.aload_n 0, 1) := by decide +kernel
theorem dX5_isLeast_24 : decode cX5_isLeast 24 = .ok (.getfield 9, 3) := by decide +kernel
theorem dX5_isLeast_27 : decode cX5_isLeast 27 = .ok (.iload_n 3, 1) := by decide +kernel
theorem dX5_isLeast_28 : decode cX5_isLeast 28 = .ok (.iaload, 1) := by decide +kernel
theorem dX5_isLeast_29 : decode cX5_isLeast 29 = .ok (.iconst 1, 1) := by decide +kernel
theorem dX5_isLeast_30 : decode cX5_isLeast 30 = .ok (.ishr, 1) := by decide +kernel
theorem dX5_isLeast_31 : decode cX5_isLeast 31 = .ok (.aload_n 0, 1) := by decide +kernel
theorem dX5_isLeast_32 : decode cX5_isLeast 32 = .ok (.getfield 24, 3) := by decide +kernel
theorem dX5_isLeast_35 : decode cX5_isLeast 35 = .ok (.invokestatic 61, 3) := by decide +kernel
theorem dX5_isLeast_38 : decode cX5_isLeast 38 = .ok (.ifCond .eq 5, 3) := by decide +kernel
theorem dX5_isLeast_41 : decode cX5_isLeast 41 = .ok (.iconst 0, 1) := by decide +kernel
theorem dX5_isLeast_42 : decode cX5_isLeast 42 = .ok (.ireturn, 1) := by decide +kernel
theorem dX5_isLeast_43 : decode cX5_isLeast 43 = .ok (.iinc 3 1, 3) := by decide +kernel
theorem dX5_isLeast_46 : decode cX5_isLeast 46 = .ok (.goto (-44), 3) := by decide +kernel
theorem dX5_isLeast_49 : decode cX5_isLeast 49 = .ok (.iconst 1, 1) := by decide +kernel
theorem dX5_isLeast_50 : decode cX5_isLeast 50 = .ok (.ireturn, 1) := by decide +kernel
theorem dX6_init_0 : decode cX6_init 0 = .ok (.aload_n 0, 1) := by decide +kernel
theorem dX6_init_1 : decode cX6_init 1 = .ok (.invokespecial 3, 3) := by decide +kernel
theorem dX6_init_4 : decode cX6_init 4 = .ok (.aload_n 0, 1) := by decide +kernel
theorem dX6_init_5 : decode cX6_init 5 = .ok (.iconst (-1), 1) := by decide +kernel
theorem dX6_init_6 : decode cX6_init 6 = .ok (.putfield 11, 3) := by decide +kernel
theorem dX6_init_9 : decode cX6_init 9 = .ok (.aload_n 0, 1) := by decide +kernel
theorem dX6_init_10 : decode cX6_init 10 = .ok (.bipush 60, 2) := by decide +kernel
theorem dX6_init_12 : decode cX6_init 12 = .ok (.newarray .long, 2) := by decide +kernel
theorem dX6_init_14 : decode cX6_init 14 = .ok (.putfield 15, 3) := by decide +kernel
theorem dX6_init_17 : decode cX6_init 17 = .ok (.return_, 1) := by decide +kernel
theorem dX6_holds_0 : decode cX6_holds 0 = .ok (.aload_n 0, 1) := by decide +kernel
theorem dX6_holds_1 : decode cX6_holds 1 = .ok (.getfield 11, 3) := by decide +kernel
theorem dX6_holds_4 : decode cX6_holds 4 = .ok (.iconst (-1), 1) := by decide +kernel
theorem dX6_holds_5 : decode cX6_holds 5 = .ok (.if_icmp .eq 7, 3) := by decide +kernel
theorem dX6_holds_8 : decode cX6_holds 8 = .ok (.iconst 1, 1) := by decide +kernel
theorem dX6_holds_9 : decode cX6_holds 9 = .ok (.goto 4, 3) := by decide +kernel
theorem dX6_holds_12 : decode cX6_holds 12 = .ok (.iconst 0, 1) := by decide +kernel
theorem dX6_holds_13 : decode cX6_holds 13 = .ok (.ireturn, 1) := by decide +kernel
theorem dX6_hold_0 : decode cX6_hold 0 = .ok (.aload_n 0, 1) := by decide +kernel
theorem dX6_hold_1 : decode cX6_hold 1 = .ok (.iload_n 1, 1) := by decide +kernel
theorem dX6_hold_2 : decode cX6_hold 2 = .ok (.putfield 11, 3) := by decide +kernel
theorem dX6_hold_5 : decode cX6_hold 5 = .ok (.aload_n 0, 1) := by decide +kernel
theorem dX6_hold_6 : decode cX6_hold 6 = .ok (.iload_n 2, 1) := by decide +kernel
theorem dX6_hold_7 : decode cX6_hold 7 = .ok (.putfield 19, 3) := by decide +kernel
theorem dX6_hold_10 : decode cX6_hold 10 = .ok (.iconst 0, 1) := by decide +kernel
theorem dX6_hold_11 : decode cX6_hold 11 = .ok (.istore_n 3, 1) := by decide +kernel
theorem dX6_hold_12 : decode cX6_hold 12 = .ok (.iload_n 3, 1) := by decide +kernel
theorem dX6_hold_13 : decode cX6_hold 13 = .ok (.bipush 60, 2) := by decide +kernel
theorem dX6_hold_15 : decode cX6_hold 15 = .ok (.if_icmp .ge 16, 3) := by decide +kernel
theorem dX6_hold_18 : decode cX6_hold 18 = .ok (.aload_n 0, 1) := by decide +kernel
theorem dX6_hold_19 : decode cX6_hold 19 = .ok (.getfield 15, 3) := by decide +kernel
theorem dX6_hold_22 : decode cX6_hold 22 = .ok (.iload_n 3, 1) := by decide +kernel
theorem dX6_hold_23 : decode cX6_hold 23 = .ok (.lconst 0, 1) := by decide +kernel
theorem dX6_hold_24 : decode cX6_hold 24 = .ok (.lastore, 1) := by decide +kernel
theorem dX6_hold_25 : decode cX6_hold 25 = .ok (.iinc 3 1, 3) := by decide +kernel
theorem dX6_hold_28 : decode cX6_hold 28 = .ok (.goto (-16), 3) := by decide +kernel
theorem dX6_hold_31 : decode cX6_hold 31 = .ok (.return_, 1) := by decide +kernel
theorem dX6_hasRoom_0 : decode cX6_hasRoom 0 = .ok (.iload_n 1, 1) := by decide +kernel
theorem dX6_hasRoom_1 : decode cX6_hasRoom 1 = .ok (.ifCond .lt 17, 3) := by decide +kernel
theorem dX6_hasRoom_4 : decode cX6_hasRoom 4 = .ok (.iload_n 1, 1) := by decide +kernel
theorem dX6_hasRoom_5 : decode cX6_hasRoom 5 = .ok (.aload_n 0, 1) := by decide +kernel
theorem dX6_hasRoom_6 : decode cX6_hasRoom 6 = .ok (.getfield 19, 3) := by decide +kernel
theorem dX6_hasRoom_9 : decode cX6_hasRoom 9 = .ok (.iload_n 2, 1) := by decide +kernel
theorem dX6_hasRoom_10 : decode cX6_hasRoom 10 = .ok (.isub, 1) := by decide +kernel
theorem dX6_hasRoom_11 : decode cX6_hasRoom 11 = .ok (.if_icmp .gt 7, 3) := by decide +kernel
theorem dX6_hasRoom_14 : decode cX6_hasRoom 14 = .ok (.iconst 1, 1) := by decide +kernel
theorem dX6_hasRoom_15 : decode cX6_hasRoom 15 = .ok (.goto 4, 3) := by decide +kernel
theorem dX6_hasRoom_18 : decode cX6_hasRoom 18 = .ok (.iconst 0, 1) := by decide +kernel
theorem dX6_hasRoom_19 : decode cX6_hasRoom 19 = .ok (.ireturn, 1) := by decide +kernel
theorem dX6_cut_0 : decode cX6_cut 0 = .ok (.aload_n 0, 1) := by decide +kernel
theorem dX6_cut_1 : decode cX6_cut 1 = .ok (.getfield 11, 3) := by decide +kernel
theorem dX6_cut_4 : decode cX6_cut 4 = .ok (.tableswitch 62 0 4 #[36, 41, 46, 62, 50], 36) := by decide +kernel
theorem dX6_cut_40 : decode cX6_cut 40 = .ok (.lload_n 1, 1) := by decide +kernel
theorem dX6_cut_41 : decode cX6_cut 41 = .ok (.l2i, 1) := by decide +kernel
theorem dX6_cut_42 : decode cX6_cut 42 = .ok (.i2b, 1) := by decide +kernel
theorem dX6_cut_43 : decode cX6_cut 43 = .ok (.i2l, 1) := by decide +kernel
theorem dX6_cut_44 : decode cX6_cut 44 = .ok (.lreturn, 1) := by decide +kernel
theorem dX6_cut_45 : decode cX6_cut 45 = .ok (.lload_n 1, 1) := by decide +kernel
theorem dX6_cut_46 : decode cX6_cut 46 = .ok (.l2i, 1) := by decide +kernel
theorem dX6_cut_47 : decode cX6_cut 47 = .ok (.i2s, 1) := by decide +kernel
theorem dX6_cut_48 : decode cX6_cut 48 = .ok (.i2l, 1) := by decide +kernel
theorem dX6_cut_49 : decode cX6_cut 49 = .ok (.lreturn, 1) := by decide +kernel
theorem dX6_cut_50 : decode cX6_cut 50 = .ok (.lload_n 1, 1) := by decide +kernel
theorem dX6_cut_51 : decode cX6_cut 51 = .ok (.l2i, 1) := by decide +kernel
theorem dX6_cut_52 : decode cX6_cut 52 = .ok (.i2l, 1) := by decide +kernel
theorem dX6_cut_53 : decode cX6_cut 53 = .ok (.lreturn, 1) := by decide +kernel
theorem dX6_cut_54 : decode cX6_cut 54 = .ok (.lload_n 1, 1) := by decide +kernel
theorem dX6_cut_55 : decode cX6_cut 55 = .ok (.lconst 0, 1) := by decide +kernel
theorem dX6_cut_56 : decode cX6_cut 56 = .ok (.lcmp, 1) := by decide +kernel
theorem dX6_cut_57 : decode cX6_cut 57 = .ok (.ifCond .eq 7, 3) := by decide +kernel
theorem dX6_cut_60 : decode cX6_cut 60 = .ok (.lconst 1, 1) := by decide +kernel
theorem dX6_cut_61 : decode cX6_cut 61 = .ok (.goto 4, 3) := by decide +kernel
theorem dX6_cut_64 : decode cX6_cut 64 = .ok (.lconst 0, 1) := by decide +kernel
theorem dX6_cut_65 : decode cX6_cut 65 = .ok (.lreturn, 1) := by decide +kernel
theorem dX6_cut_66 : decode cX6_cut 66 = .ok (.lload_n 1, 1) := by decide +kernel
theorem dX6_cut_67 : decode cX6_cut 67 = .ok (.lreturn, 1) := by decide +kernel
theorem dX7_init_0 : decode cX7_init 0 = .ok (.aload_n 0, 1) := by decide +kernel
theorem dX7_init_1 : decode cX7_init 1 = .ok (.invokespecial 3, 3) := by decide +kernel
theorem dX7_init_4 : decode cX7_init 4 = .ok (.aload_n 0, 1) := by decide +kernel
theorem dX7_init_5 : decode cX7_init 5 = .ok (.bipush 100, 2) := by decide +kernel
theorem dX7_init_7 : decode cX7_init 7 = .ok (.newarray .int, 2) := by decide +kernel
theorem dX7_init_9 : decode cX7_init 9 = .ok (.putfield 9, 3) := by decide +kernel
theorem dX7_init_12 : decode cX7_init 12 = .ok (.aload_n 0, 1) := by decide +kernel
theorem dX7_init_13 : decode cX7_init 13 = .ok (.bipush 12, 2) := by decide +kernel
theorem dX7_init_15 : decode cX7_init 15 = .ok (.newarray .int, 2) := by decide +kernel
theorem dX7_init_17 : decode cX7_init 17 = .ok (.putfield 15, 3) := by decide +kernel
theorem dX7_init_20 : decode cX7_init 20 = .ok (.aload_n 0, 1) := by decide +kernel
theorem dX7_init_21 : decode cX7_init 21 = .ok (.bipush 12, 2) := by decide +kernel
theorem dX7_init_23 : decode cX7_init 23 = .ok (.newarray .int, 2) := by decide +kernel
theorem dX7_init_25 : decode cX7_init 25 = .ok (.putfield 18, 3) := by decide +kernel
theorem dX7_init_28 : decode cX7_init 28 = .ok (.return_, 1) := by decide +kernel
theorem dX7_add_0 : decode cX7_add 0 = .ok (.aload_n 0, 1) := by decide +kernel
theorem dX7_add_1 : decode cX7_add 1 = .ok (.getfield 21, 3) := by decide +kernel
theorem dX7_add_4 : decode cX7_add 4 = .ok (.bipush 100, 2) := by decide +kernel
theorem dX7_add_6 : decode cX7_add 6 = .ok (.if_icmp .lt 5, 3) := by decide +kernel
theorem dX7_add_9 : decode cX7_add 9 = .ok (.iconst 0, 1) := by decide +kernel
theorem dX7_add_10 : decode cX7_add 10 = .ok (.ireturn, 1) := by decide +kernel
theorem dX7_add_11 : decode cX7_add 11 = .ok (.aload_n 0, 1) := by decide +kernel
theorem dX7_add_12 : decode cX7_add 12 = .ok (.getfield 9, 3) := by decide +kernel
theorem dX7_add_15 : decode cX7_add 15 = .ok (.aload_n 0, 1) := by decide +kernel
theorem dX7_add_16 : decode cX7_add 16 = .ok (.getfield 21, 3) := by decide +kernel
theorem dX7_add_19 : decode cX7_add 19 = .ok (.iload_n 1, 1) := by decide +kernel
theorem dX7_add_20 : decode cX7_add 20 = .ok (.iastore, 1) := by decide +kernel
theorem dX7_add_21 : decode cX7_add 21 = .ok (.aload_n 0, 1) := by decide +kernel
theorem dX7_add_22 : decode cX7_add 22 = .ok (.dup, 1) := by decide +kernel
theorem dX7_add_23 : decode cX7_add 23 = .ok (.getfield 21, 3) := by decide +kernel
theorem dX7_add_26 : decode cX7_add 26 = .ok (.iconst 1, 1) := by decide +kernel
theorem dX7_add_27 : decode cX7_add 27 = .ok (.iadd, 1) := by decide +kernel
theorem dX7_add_28 : decode cX7_add 28 = .ok (.putfield 21, 3) := by decide +kernel
theorem dX7_add_31 : decode cX7_add 31 = .ok (.iconst 1, 1) := by decide +kernel
theorem dX7_add_32 : decode cX7_add 32 = .ok (.ireturn, 1) := by decide +kernel
theorem dX7_signAt_0 : decode cX7_signAt 0 = .ok (.iload_n 1, 1) := by decide +kernel
theorem dX7_signAt_1 : decode cX7_signAt 1 = .ok (.ifCond .lt 20, 3) := by decide +kernel
theorem dX7_signAt_4 : decode cX7_signAt 4 = .ok (.iload_n 1, 1) := by decide +kernel
theorem dX7_signAt_5 : decode cX7_signAt 5 = .ok (.aload_n 0, 1) := by decide +kernel
theorem dX7_signAt_6 : decode cX7_signAt 6 = .ok (.getfield 21, 3) := by decide +kernel
theorem dX7_signAt_9 : decode cX7_signAt 9 = .ok (.if_icmp .ge 12, 3) := by decide +kernel
theorem dX7_signAt_12 : decode cX7_signAt 12 = .ok (.aload_n 0, 1) := by decide +kernel
theorem dX7_signAt_13 : decode cX7_signAt 13 = .ok (.getfield 9, 3) := by decide +kernel
theorem dX7_signAt_16 : decode cX7_signAt 16 = .ok (.iload_n 1, 1) := by decide +kernel
theorem dX7_signAt_17 : decode cX7_signAt 17 = .ok (.iaload, 1) := by decide +kernel
theorem dX7_signAt_18 : decode cX7_signAt 18 = .ok (.goto 4, 3) := by decide +kernel
theorem dX7_signAt_21 : decode cX7_signAt 21 = .ok (.iconst (-1), 1) := by decide +kernel
theorem dX7_signAt_22 : decode cX7_signAt 22 = .ok (.ireturn, 1) := by decide +kernel
theorem dX7_isDigitAt_0 : decode cX7_isDigitAt 0 = .ok (.aload_n 0, 1) := by decide +kernel
theorem dX7_isDigitAt_1 : decode cX7_isDigitAt 1 = .ok (.iload_n 1, 1) := by decide +kernel
theorem dX7_isDigitAt_2 : decode cX7_isDigitAt 2 = .ok (.invokevirtual 25, 3) := by decide +kernel
theorem dX7_isDigitAt_5 : decode cX7_isDigitAt 5 = .ok (.istore_n 2, 1) := by decide +kernel
theorem dX7_isDigitAt_6 : decode cX7_isDigitAt 6 = .ok (.iload_n 2, 1) := by decide +kernel
theorem dX7_isDigitAt_7 : decode cX7_isDigitAt 7 = .ok (.bipush 48, 2) := by decide +kernel
theorem dX7_isDigitAt_9 : decode cX7_isDigitAt 9 = .ok (.if_icmp .lt 13, 3) := by decide +kernel
theorem dX7_isDigitAt_12 : decode cX7_isDigitAt 12 = .ok (.iload_n 2, 1) := by decide +kernel
theorem dX7_isDigitAt_13 : decode cX7_isDigitAt 13 = .ok (.bipush 57, 2) := by decide +kernel
theorem dX7_isDigitAt_15 : decode cX7_isDigitAt 15 = .ok (.if_icmp .gt 7, 3) := by decide +kernel
theorem dX7_isDigitAt_18 : decode cX7_isDigitAt 18 = .ok (.iconst 1, 1) := by decide +kernel
theorem dX7_isDigitAt_19 : decode cX7_isDigitAt 19 = .ok (.goto 4, 3) := by decide +kernel
theorem dX7_isDigitAt_22 : decode cX7_isDigitAt 22 = .ok (.iconst 0, 1) := by decide +kernel
theorem dX7_isDigitAt_23 : decode cX7_isDigitAt 23 = .ok (.ireturn, 1) := by decide +kernel
theorem dX7_findFault_0 : decode cX7_findFault 0 = .ok (.aload_n 0, 1) := by decide +kernel
theorem dX7_findFault_1 : decode cX7_findFault 1 = .ok (.iconst 0, 1) := by decide +kernel
theorem dX7_findFault_2 : decode cX7_findFault 2 = .ok (.putfield 29, 3) := by decide +kernel
theorem dX7_findFault_5 : decode cX7_findFault 5 = .ok (.iconst 0, 1) := by decide +kernel
theorem dX7_findFault_6 : decode cX7_findFault 6 = .ok (.istore_n 1, 1) := by decide +kernel
theorem dX7_findFault_7 : decode cX7_findFault 7 = .ok (.iconst 0, 1) := by decide +kernel
theorem dX7_findFault_8 : decode cX7_findFault 8 = .ok (.istore_n 2, 1) := by decide +kernel
theorem dX7_findFault_9 : decode cX7_findFault 9 = .ok (.iload_n 2, 1) := by decide +kernel
theorem dX7_findFault_10 : decode cX7_findFault 10 = .ok (.bipush 12, 2) := by decide +kernel
theorem dX7_findFault_12 : decode cX7_findFault 12 = .ok (.if_icmp .ge 89, 3) := by decide +kernel
theorem dX7_findFault_15 : decode cX7_findFault 15 = .ok (.aload_n 0, 1) := by decide +kernel
theorem dX7_findFault_16 : decode cX7_findFault 16 = .ok (.getfield 15, 3) := by decide +kernel
theorem dX7_findFault_19 : decode cX7_findFault 19 = .ok (.iload_n 2, 1) := by decide +kernel
theorem dX7_findFault_20 : decode cX7_findFault 20 = .ok (.iload_n 1, 1) := by decide +kernel
theorem dX7_findFault_21 : decode cX7_findFault 21 = .ok (.iastore, 1) := by decide +kernel
theorem dX7_findFault_22 : decode cX7_findFault 22 = .ok (.aload_n 0, 1) := by decide +kernel
theorem dX7_findFault_23 : decode cX7_findFault 23 = .ok (.iload_n 1, 1) := by decide +kernel
theorem dX7_findFault_24 : decode cX7_findFault 24 = .ok (.invokevirtual 32, 3) := by decide +kernel
theorem dX7_findFault_27 : decode cX7_findFault 27 = .ok (.istore_n 3, 1) := by decide +kernel
theorem dX7_findFault_28 : decode cX7_findFault 28 = .ok (.iload_n 3, 1) := by decide +kernel
theorem dX7_findFault_29 : decode cX7_findFault 29 = .ok (.iload_n 1, 1) := by decide +kernel
theorem dX7_findFault_30 : decode cX7_findFault 30 = .ok (.isub, 1) := by decide +kernel
theorem dX7_findFault_31 : decode cX7_findFault 31 = .ok (.iconst 1, 1) := by decide +kernel
theorem dX7_findFault_32 : decode cX7_findFault 32 = .ok (.isub, 1) := by decide +kernel
theorem dX7_findFault_33 : decode cX7_findFault 33 = .ok (.aload_n 0, 1) := by decide +kernel
theorem dX7_findFault_34 : decode cX7_findFault 34 = .ok (.iload_n 1, 1) := by decide +kernel
theorem dX7_findFault_35 : decode cX7_findFault 35 = .ok (.invokevirtual 25, 3) := by decide +kernel
theorem dX7_findFault_38 : decode cX7_findFault 38 = .ok (.invokestatic 35, 3) := by decide +kernel
theorem dX7_findFault_41 : decode cX7_findFault 41 = .ok (.if_icmp .ge 5, 3) := by decide +kernel
theorem dX7_findFault_44 : decode cX7_findFault 44 = .ok (.iload_n 3, 1) := by decide +kernel
theorem dX7_findFault_45 : decode cX7_findFault 45 = .ok (.ireturn, 1) := by decide +kernel
theorem dX7_findFault_46 : decode cX7_findFault 46 = .ok (.aload_n 0, 1) := by decide +kernel
theorem dX7_findFault_47 : decode cX7_findFault 47 = .ok (.getfield 18, 3) := by decide +kernel
theorem dX7_findFault_50 : decode cX7_findFault 50 = .ok (.iload_n 2, 1) := by decide +kernel
theorem dX7_findFault_51 : decode cX7_findFault 51 = .ok (.iload_n 3, 1) := by decide +kernel
theorem dX7_findFault_52 : decode cX7_findFault 52 = .ok (.iastore, 1) := by decide +kernel
theorem dX7_findFault_53 : decode cX7_findFault 53 = .ok (.aload_n 0, 1) := by decide +kernel
theorem dX7_findFault_54 : decode cX7_findFault 54 = .ok (.iload_n 2, 1) := by decide +kernel
theorem dX7_findFault_55 : decode cX7_findFault 55 = .ok (.iconst 1, 1) := by decide +kernel
theorem dX7_findFault_56 : decode cX7_findFault 56 = .ok (.iadd, 1) := by decide +kernel
theorem dX7_findFault_57 : decode cX7_findFault 57 = .ok (.putfield 29, 3) := by decide +kernel
theorem dX7_findFault_60 : decode cX7_findFault 60 = .ok (.iload_n 3, 1) := by decide +kernel
theorem dX7_findFault_61 : decode cX7_findFault 61 = .ok (.aload_n 0, 1) := by decide +kernel
theorem dX7_findFault_62 : decode cX7_findFault 62 = .ok (.getfield 21, 3) := by decide +kernel
theorem dX7_findFault_65 : decode cX7_findFault 65 = .ok (.if_icmp .lt 5, 3) := by decide +kernel
theorem dX7_findFault_68 : decode cX7_findFault 68 = .ok (.iconst (-1), 1) := by decide +kernel
theorem dX7_findFault_69 : decode cX7_findFault 69 = .ok (.ireturn, 1) := by decide +kernel
theorem dX7_findFault_70 : decode cX7_findFault 70 = .ok (.aload_n 0, 1) := by decide +kernel
theorem dX7_findFault_71 : decode cX7_findFault 71 = .ok (.iload_n 3, 1) := by decide +kernel
theorem dX7_findFault_72 : decode cX7_findFault 72 = .ok (.invokevirtual 25, 3) := by decide +kernel
theorem dX7_findFault_75 : decode cX7_findFault 75 = .ok (.bipush 59, 2) := by decide +kernel
theorem dX7_findFault_77 : decode cX7_findFault 77 = .ok (.if_icmp .ne 12, 3) := by decide +kernel
theorem dX7_findFault_80 : decode cX7_findFault 80 = .ok (.aload_n 0, 1) := by decide +kernel
theorem dX7_findFault_81 : decode cX7_findFault 81 = .ok (.getfield 29, 3) := by decide +kernel
theorem dX7_findFault_84 : decode cX7_findFault 84 = .ok (.bipush 12, 2) := by decide +kernel
theorem dX7_findFault_86 : decode cX7_findFault 86 = .ok (.if_icmp .ne 5, 3) := by decide +kernel
theorem dX7_findFault_89 : decode cX7_findFault 89 = .ok (.iload_n 3, 1) := by decide +kernel
theorem dX7_findFault_90 : decode cX7_findFault 90 = .ok (.ireturn, 1) := by decide +kernel
theorem dX7_findFault_91 : decode cX7_findFault 91 = .ok (.iload_n 3, 1) := by decide +kernel
theorem dX7_findFault_92 : decode cX7_findFault 92 = .ok (.iconst 1, 1) := by decide +kernel
theorem dX7_findFault_93 : decode cX7_findFault 93 = .ok (.iadd, 1) := by decide +kernel
theorem dX7_findFault_94 : decode cX7_findFault 94 = .ok (.istore_n 1, 1) := by decide +kernel
theorem dX7_findFault_95 : decode cX7_findFault 95 = .ok (.iinc 2 1, 3) := by decide +kernel
theorem dX7_findFault_98 : decode cX7_findFault 98 = .ok (.goto (-89), 3) := by decide +kernel
theorem dX7_findFault_101 : decode cX7_findFault 101 = .ok (.iconst (-1), 1) := by decide +kernel
theorem dX7_findFault_102 : decode cX7_findFault 102 = .ok (.ireturn, 1) := by decide +kernel
theorem dX7_afterDigits_0 : decode cX7_afterDigits 0 = .ok (.aload_n 0, 1) := by decide +kernel
theorem dX7_afterDigits_1 : decode cX7_afterDigits 1 = .ok (.iload_n 1, 1) := by decide +kernel
theorem dX7_afterDigits_2 : decode cX7_afterDigits 2 = .ok (.invokevirtual 25, 3) := by decide +kernel
theorem dX7_afterDigits_5 : decode cX7_afterDigits 5 = .ok (.invokestatic 38, 3) := by decide +kernel
theorem dX7_afterDigits_8 : decode cX7_afterDigits 8 = .ok (.istore_n 2, 1) := by decide +kernel
theorem dX7_afterDigits_9 : decode cX7_afterDigits 9 = .ok (.iload_n 2, 1) := by decide +kernel
theorem dX7_afterDigits_10 : decode cX7_afterDigits 10 = .ok (.ifCond .ne 5, 3) := by decide +kernel
theorem dX7_afterDigits_13 : decode cX7_afterDigits 13 = .ok (.iload_n 1, 1) := by decide +kernel
theorem dX7_afterDigits_14 : decode cX7_afterDigits 14 = .ok (.ireturn, 1) := by decide +kernel
theorem dX7_afterDigits_15 : decode cX7_afterDigits 15 = .ok (.iconst 0, 1) := by decide +kernel
theorem dX7_afterDigits_16 : decode cX7_afterDigits 16 = .ok (.istore_n 3, 1) := by decide +kernel
theorem dX7_afterDigits_17 : decode cX7_afterDigits 17 = .ok (.iload_n 3, 1) := by decide +kernel
theorem dX7_afterDigits_18 : decode cX7_afterDigits 18 = .ok (.iload_n 2, 1) := by decide +kernel
theorem dX7_afterDigits_19 : decode cX7_afterDigits 19 = .ok (.if_icmp .ge 21, 3) := by decide +kernel
theorem dX7_afterDigits_22 : decode cX7_afterDigits 22 = .ok (.aload_n 0, 1) := by decide +kernel
theorem dX7_afterDigits_23 : decode cX7_afterDigits 23 = .ok (.iload_n 1, 1) := by decide +kernel
theorem dX7_afterDigits_24 : decode cX7_afterDigits 24 = .ok (.iconst 1, 1) := by decide +kernel
theorem dX7_afterDigits_25 : decode cX7_afterDigits 25 = .ok (.iadd, 1) := by decide +kernel
theorem dX7_afterDigits_26 : decode cX7_afterDigits 26 = .ok (.iload_n 3, 1) := by decide +kernel
theorem dX7_afterDigits_27 : decode cX7_afterDigits 27 = .ok (.iadd, 1) := by decide +kernel
theorem dX7_afterDigits_28 : decode cX7_afterDigits 28 = .ok (.invokevirtual 41, 3) := by decide +kernel
theorem dX7_afterDigits_31 : decode cX7_afterDigits 31 = .ok (.ifCond .eq 9, 3) := by decide +kernel
theorem dX7_afterDigits_34 : decode cX7_afterDigits 34 = .ok (.iinc 3 1, 3) := by decide +kernel
theorem dX7_afterDigits_37 : decode cX7_afterDigits 37 = .ok (.goto (-20), 3) := by decide +kernel
theorem dX7_afterDigits_40 : decode cX7_afterDigits 40 = .ok (.iload_n 1, 1) := by decide +kernel
theorem dX7_afterDigits_41 : decode cX7_afterDigits 41 = .ok (.iconst 1, 1) := by decide +kernel
theorem dX7_afterDigits_42 : decode cX7_afterDigits 42 = .ok (.iadd, 1) := by decide +kernel
theorem dX7_afterDigits_43 : decode cX7_afterDigits 43 = .ok (.iload_n 3, 1) := by decide +kernel
theorem dX7_afterDigits_44 : decode cX7_afterDigits 44 = .ok (.iadd, 1) := by decide +kernel
theorem dX7_afterDigits_45 : decode cX7_afterDigits 45 = .ok (.ireturn, 1) := by decide +kernel
theorem dX7_mostDigits_0 : decode cX7_mostDigits 0 = .ok (.iload_n 0, 1) := by decide +kernel
theorem dX7_mostDigits_1 : decode cX7_mostDigits 1 = .ok (.tableswitch 74 107 119 #[67, 74, 71, 67, 74, 74, 74, 74, 74, 71, 74, 74, 69], 67) := by decide +kernel
theorem dX7_mostDigits_68 : decode cX7_mostDigits 68 = .ok (.iconst 1, 1) := by decide +kernel
theorem dX7_mostDigits_69 : decode cX7_mostDigits 69 = .ok (.ireturn, 1) := by decide +kernel
theorem dX7_mostDigits_70 : decode cX7_mostDigits 70 = .ok (.iconst 2, 1) := by decide +kernel
theorem dX7_mostDigits_71 : decode cX7_mostDigits 71 = .ok (.ireturn, 1) := by decide +kernel
theorem dX7_mostDigits_72 : decode cX7_mostDigits 72 = .ok (.bipush 6, 2) := by decide +kernel
theorem dX7_mostDigits_74 : decode cX7_mostDigits 74 = .ok (.ireturn, 1) := by decide +kernel
theorem dX7_mostDigits_75 : decode cX7_mostDigits 75 = .ok (.iconst 0, 1) := by decide +kernel
theorem dX7_mostDigits_76 : decode cX7_mostDigits 76 = .ok (.ireturn, 1) := by decide +kernel
theorem dX7_fewestDigits_0 : decode cX7_fewestDigits 0 = .ok (.iload_n 0, 1) := by decide +kernel
theorem dX7_fewestDigits_1 : decode cX7_fewestDigits 1 = .ok (.bipush 119, 2) := by decide +kernel
theorem dX7_fewestDigits_3 : decode cX7_fewestDigits 3 = .ok (.if_icmp .ne 7, 3) := by decide +kernel
theorem dX7_fewestDigits_6 : decode cX7_fewestDigits 6 = .ok (.iconst 2, 1) := by decide +kernel
theorem dX7_fewestDigits_7 : decode cX7_fewestDigits 7 = .ok (.goto 4, 3) := by decide +kernel
theorem dX7_fewestDigits_10 : decode cX7_fewestDigits 10 = .ok (.iconst 1, 1) := by decide +kernel
theorem dX7_fewestDigits_11 : decode cX7_fewestDigits 11 = .ok (.ireturn, 1) := by decide +kernel
theorem dX7_explain_0 : decode cX7_explain 0 = .ok (.aload_n 2, 1) := by decide +kernel
theorem dX7_explain_1 : decode cX7_explain 1 = .ok (.iconst 1, 1) := by decide +kernel
theorem dX7_explain_2 : decode cX7_explain 2 = .ok (.aload_n 0, 1) := by decide +kernel
theorem dX7_explain_3 : decode cX7_explain 3 = .ok (.getfield 29, 3) := by decide +kernel
theorem dX7_explain_6 : decode cX7_explain 6 = .ok (.invokevirtual 45, 3) := by decide +kernel
theorem dX7_explain_9 : decode cX7_explain 9 = .ok (.aload_n 0, 1) := by decide +kernel
theorem dX7_explain_10 : decode cX7_explain 10 = .ok (.getfield 29, 3) := by decide +kernel
theorem dX7_explain_13 : decode cX7_explain 13 = .ok (.ifCond .le 22, 3) := by decide +kernel
theorem dX7_explain_16 : decode cX7_explain 16 = .ok (.iload_n 1, 1) := by decide +kernel
theorem dX7_explain_17 : decode cX7_explain 17 = .ok (.aload_n 0, 1) := by decide +kernel
theorem dX7_explain_18 : decode cX7_explain 18 = .ok (.getfield 18, 3) := by decide +kernel
theorem dX7_explain_21 : decode cX7_explain 21 = .ok (.aload_n 0, 1) := by decide +kernel
theorem dX7_explain_22 : decode cX7_explain 22 = .ok (.getfield 29, 3) := by decide +kernel
theorem dX7_explain_25 : decode cX7_explain 25 = .ok (.iconst 1, 1) := by decide +kernel
theorem dX7_explain_26 : decode cX7_explain 26 = .ok (.isub, 1) := by decide +kernel
theorem dX7_explain_27 : decode cX7_explain 27 = .ok (.iaload, 1) := by decide +kernel
theorem dX7_explain_28 : decode cX7_explain 28 = .ok (.if_icmp .ne 7, 3) := by decide +kernel
theorem dX7_explain_31 : decode cX7_explain 31 = .ok (.iconst 1, 1) := by decide +kernel
theorem dX7_explain_32 : decode cX7_explain 32 = .ok (.goto 4, 3) := by decide +kernel
theorem dX7_explain_35 : decode cX7_explain 35 = .ok (.iconst 0, 1) := by decide +kernel
theorem dX7_explain_36 : decode cX7_explain 36 = .ok (.istore_n 3, 1) := by decide +kernel
theorem dX7_explain_37 : decode cX7_explain 37 = .ok (.iload_n 3, 1) := by decide +kernel
theorem dX7_explain_38 : decode cX7_explain 38 = .ok (.ifCond .ne 12, 3) := by decide +kernel
theorem dX7_explain_41 : decode cX7_explain 41 = .ok (.aload_n 0, 1) := by decide +kernel
theorem dX7_explain_42 : decode cX7_explain 42 = .ok (.getfield 29, 3) := by decide +kernel
theorem dX7_explain_45 : decode cX7_explain 45 = .ok (.bipush 12, 2) := by decide +kernel
theorem dX7_explain_47 : decode cX7_explain 47 = .ok (.if_icmp .lt 14, 3) := by decide +kernel
theorem dX7_explain_50 : decode cX7_explain 50 = .ok (.aload_n 2, 1) := by decide +kernel
theorem dX7_explain_51 : decode cX7_explain 51 = .ok (.iconst 4, 1) := by decide +kernel
theorem dX7_explain_52 : decode cX7_explain 52 = .ok (.aload_n 0, 1) := by decide +kernel
theorem dX7_explain_53 : decode cX7_explain 53 = .ok (.iload_n 1, 1) := by decide +kernel
theorem dX7_explain_54 : decode cX7_explain 54 = .ok (.invokevirtual 25, 3) := by decide +kernel
theorem dX7_explain_57 : decode cX7_explain 57 = .ok (.invokevirtual 51, 3) := by decide +kernel
theorem dX7_explain_60 : decode cX7_explain 60 = .ok (.return_, 1) := by decide +kernel
theorem dX7_explain_61 : decode cX7_explain 61 = .ok (.aload_n 2, 1) := by decide +kernel
theorem dX7_explain_62 : decode cX7_explain 62 = .ok (.iconst 2, 1) := by decide +kernel
theorem dX7_explain_63 : decode cX7_explain 63 = .ok (.aload_n 0, 1) := by decide +kernel
theorem dX7_explain_64 : decode cX7_explain 64 = .ok (.getfield 15, 3) := by decide +kernel
theorem dX7_explain_67 : decode cX7_explain 67 = .ok (.aload_n 0, 1) := by decide +kernel
theorem dX7_explain_68 : decode cX7_explain 68 = .ok (.getfield 29, 3) := by decide +kernel
theorem dX7_explain_71 : decode cX7_explain 71 = .ok (.iaload, 1) := by decide +kernel
theorem dX7_explain_72 : decode cX7_explain 72 = .ok (.invokevirtual 51, 3) := by decide +kernel
theorem dX7_explain_75 : decode cX7_explain 75 = .ok (.iload_n 1, 1) := by decide +kernel
theorem dX7_explain_76 : decode cX7_explain 76 = .ok (.aload_n 0, 1) := by decide +kernel
theorem dX7_explain_77 : decode cX7_explain 77 = .ok (.getfield 15, 3) := by decide +kernel
theorem dX7_explain_80 : decode cX7_explain 80 = .ok (.aload_n 0, 1) := by decide +kernel
theorem dX7_explain_81 : decode cX7_explain 81 = .ok (.getfield 29, 3) := by decide +kernel
theorem dX7_explain_84 : decode cX7_explain 84 = .ok (.iaload, 1) := by decide +kernel
theorem dX7_explain_85 : decode cX7_explain 85 = .ok (.if_icmp .ne 16, 3) := by decide +kernel
theorem dX7_explain_88 : decode cX7_explain 88 = .ok (.aload_n 2, 1) := by decide +kernel
theorem dX7_explain_89 : decode cX7_explain 89 = .ok (.iconst 4, 1) := by decide +kernel
theorem dX7_explain_90 : decode cX7_explain 90 = .ok (.aload_n 0, 1) := by decide +kernel
theorem dX7_explain_91 : decode cX7_explain 91 = .ok (.iload_n 1, 1) := by decide +kernel
theorem dX7_explain_92 : decode cX7_explain 92 = .ok (.invokevirtual 25, 3) := by decide +kernel
theorem dX7_explain_95 : decode cX7_explain 95 = .ok (.invokevirtual 51, 3) := by decide +kernel
theorem dX7_explain_98 : decode cX7_explain 98 = .ok (.goto 9, 3) := by decide +kernel
theorem dX7_explain_101 : decode cX7_explain 101 = .ok (.aload_n 2, 1) := by decide +kernel
theorem dX7_explain_102 : decode cX7_explain 102 = .ok (.iconst 3, 1) := by decide +kernel
theorem dX7_explain_103 : decode cX7_explain 103 = .ok (.iload_n 1, 1) := by decide +kernel
theorem dX7_explain_104 : decode cX7_explain 104 = .ok (.invokevirtual 51, 3) := by decide +kernel
theorem dX7_explain_107 : decode cX7_explain 107 = .ok (.return_, 1) := by decide +kernel
theorem dX7_letterOf_0 : decode cX7_letterOf 0 = .ok (.iload_n 1, 1) := by decide +kernel
theorem dX7_letterOf_1 : decode cX7_letterOf 1 = .ok (.ifCond .lt 24, 3) := by decide +kernel
theorem dX7_letterOf_4 : decode cX7_letterOf 4 = .ok (.iload_n 1, 1) := by decide +kernel
theorem dX7_letterOf_5 : decode cX7_letterOf 5 = .ok (.aload_n 0, 1) := by decide +kernel
theorem dX7_letterOf_6 : decode cX7_letterOf 6 = .ok (.getfield 29, 3) := by decide +kernel
theorem dX7_letterOf_9 : decode cX7_letterOf 9 = .ok (.if_icmp .ge 16, 3) := by decide +kernel
theorem dX7_letterOf_12 : decode cX7_letterOf 12 = .ok (.aload_n 0, 1) := by decide +kernel
theorem dX7_letterOf_13 : decode cX7_letterOf 13 = .ok (.aload_n 0, 1) := by decide +kernel
theorem dX7_letterOf_14 : decode cX7_letterOf 14 = .ok (.getfield 15, 3) := by decide +kernel
theorem dX7_letterOf_17 : decode cX7_letterOf 17 = .ok (.iload_n 1, 1) := by decide +kernel
theorem dX7_letterOf_18 : decode cX7_letterOf 18 = .ok (.iaload, 1) := by decide +kernel
theorem dX7_letterOf_19 : decode cX7_letterOf 19 = .ok (.invokevirtual 25, 3) := by decide +kernel
theorem dX7_letterOf_22 : decode cX7_letterOf 22 = .ok (.goto 4, 3) := by decide +kernel
theorem dX7_letterOf_25 : decode cX7_letterOf 25 = .ok (.iconst (-1), 1) := by decide +kernel
theorem dX7_letterOf_26 : decode cX7_letterOf 26 = .ok (.ireturn, 1) := by decide +kernel
theorem dX7_numberOf_0 : decode cX7_numberOf 0 = .ok (.iconst 0, 1) := by decide +kernel
theorem dX7_numberOf_1 : decode cX7_numberOf 1 = .ok (.istore_n 2, 1) := by decide +kernel
theorem dX7_numberOf_2 : decode cX7_numberOf 2 = .ok (.iload_n 1, 1) := by decide +kernel
theorem dX7_numberOf_3 : decode cX7_numberOf 3 = .ok (.ifCond .lt 50, 3) := by decide +kernel
theorem dX7_numberOf_6 : decode cX7_numberOf 6 = .ok (.iload_n 1, 1) := by decide +kernel
theorem dX7_numberOf_7 : decode cX7_numberOf 7 = .ok (.aload_n 0, 1) := by decide +kernel
theorem dX7_numberOf_8 : decode cX7_numberOf 8 = .ok (.getfield 29, 3) := by decide +kernel
theorem dX7_numberOf_11 : decode cX7_numberOf 11 = .ok (.if_icmp .ge 42, 3) := by decide +kernel
theorem dX7_numberOf_14 : decode cX7_numberOf 14 = .ok (.aload_n 0, 1) := by decide +kernel
theorem dX7_numberOf_15 : decode cX7_numberOf 15 = .ok (.getfield 15, 3) := by decide +kernel
theorem dX7_numberOf_18 : decode cX7_numberOf 18 = .ok (.iload_n 1, 1) := by decide +kernel
theorem dX7_numberOf_19 : decode cX7_numberOf 19 = .ok (.iaload, 1) := by decide +kernel
theorem dX7_numberOf_20 : decode cX7_numberOf 20 = .ok (.iconst 1, 1) := by decide +kernel
theorem dX7_numberOf_21 : decode cX7_numberOf 21 = .ok (.iadd, 1) := by decide +kernel
theorem dX7_numberOf_22 : decode cX7_numberOf 22 = .ok (.istore_n 3, 1) := by decide +kernel
theorem dX7_numberOf_23 : decode cX7_numberOf 23 = .ok (.iload_n 3, 1) := by decide +kernel
theorem dX7_numberOf_24 : decode cX7_numberOf 24 = .ok (.aload_n 0, 1) := by decide +kernel
theorem dX7_numberOf_25 : decode cX7_numberOf 25 = .ok (.getfield 18, 3) := by decide +kernel
theorem dX7_numberOf_28 : decode cX7_numberOf 28 = .ok (.iload_n 1, 1) := by decide +kernel
theorem dX7_numberOf_29 : decode cX7_numberOf 29 = .ok (.iaload, 1) := by decide +kernel
theorem dX7_numberOf_30 : decode cX7_numberOf 30 = .ok (.if_icmp .ge 23, 3) := by decide +kernel
theorem dX7_numberOf_33 : decode cX7_numberOf 33 = .ok (.iload_n 2, 1) := by decide +kernel
theorem dX7_numberOf_34 : decode cX7_numberOf 34 = .ok (.bipush 10, 2) := by decide +kernel
theorem dX7_numberOf_36 : decode cX7_numberOf 36 = .ok (.imul, 1) := by decide +kernel
theorem dX7_numberOf_37 : decode cX7_numberOf 37 = .ok (.aload_n 0, 1) := by decide +kernel
theorem dX7_numberOf_38 : decode cX7_numberOf 38 = .ok (.iload_n 3, 1) := by decide +kernel
theorem dX7_numberOf_39 : decode cX7_numberOf 39 = .ok (.invokevirtual 25, 3) := by decide +kernel
theorem dX7_numberOf_42 : decode cX7_numberOf 42 = .ok (.iadd, 1) := by decide +kernel
theorem dX7_numberOf_43 : decode cX7_numberOf 43 = .ok (.bipush 48, 2) := by decide +kernel
theorem dX7_numberOf_45 : decode cX7_numberOf 45 = .ok (.isub, 1) := by decide +kernel
theorem dX7_numberOf_46 : decode cX7_numberOf 46 = .ok (.istore_n 2, 1) := by decide +kernel
theorem dX7_numberOf_47 : decode cX7_numberOf 47 = .ok (.iinc 3 1, 3) := by decide +kernel
theorem dX7_numberOf_50 : decode cX7_numberOf 50 = .ok (.goto (-27), 3) := by decide +kernel
theorem dX7_numberOf_53 : decode cX7_numberOf 53 = .ok (.iload_n 2, 1) := by decide +kernel
theorem dX7_numberOf_54 : decode cX7_numberOf 54 = .ok (.ireturn, 1) := by decide +kernel
theorem dX8_init_0 : decode cX8_init 0 = .ok (.aload_n 0, 1) := by decide +kernel
theorem dX8_init_1 : decode cX8_init 1 = .ok (.invokespecial 1, 3) := by decide +kernel
theorem dX8_init_4 : decode cX8_init 4 = .ok (.aload_n 0, 1) := by decide +kernel
theorem dX8_init_5 : decode cX8_init 5 = .ok (.iconst 3, 1) := by decide +kernel
theorem dX8_init_6 : decode cX8_init 6 = .ok (.newarray .int, 2) := by decide +kernel
theorem dX8_init_8 : decode cX8_init 8 = .ok (.putfield 7, 3) := by decide +kernel
theorem dX8_init_11 : decode cX8_init 11 = .ok (.aload_n 0, 1) := by decide +kernel
theorem dX8_init_12 : decode cX8_init 12 = .ok (.iconst 3, 1) := by decide +kernel
theorem dX8_init_13 : decode cX8_init 13 = .ok (.newarray .int, 2) := by decide +kernel
theorem dX8_init_15 : decode cX8_init 15 = .ok (.putfield 13, 3) := by decide +kernel
theorem dX8_init_18 : decode cX8_init 18 = .ok (.return_, 1) := by decide +kernel
theorem dX8_begin_0 : decode cX8_begin 0 = .ok (.aload_n 0, 1) := by decide +kernel
theorem dX8_begin_1 : decode cX8_begin 1 = .ok (.iconst 0, 1) := by decide +kernel
theorem dX8_begin_2 : decode cX8_begin 2 = .ok (.putfield 16, 3) := by decide +kernel
theorem dX8_begin_5 : decode cX8_begin 5 = .ok (.aload_n 0, 1) := by decide +kernel
theorem dX8_begin_6 : decode cX8_begin 6 = .ok (.iload_n 1, 1) := by decide +kernel
theorem dX8_begin_7 : decode cX8_begin 7 = .ok (.iload_n 2, 1) := by decide +kernel
theorem dX8_begin_8 : decode cX8_begin 8 = .ok (.invokevirtual 20, 3) := by decide +kernel
theorem dX8_begin_11 : decode cX8_begin 11 = .ok (.return_, 1) := by decide +kernel
theorem dX8_because_0 : decode cX8_because 0 = .ok (.aload_n 0, 1) := by decide +kernel
theorem dX8_because_1 : decode cX8_because 1 = .ok (.getfield 16, 3) := by decide +kernel
theorem dX8_because_4 : decode cX8_because 4 = .ok (.aload_n 0, 1) := by decide +kernel
theorem dX8_because_5 : decode cX8_because 5 = .ok (.getfield 7, 3) := by decide +kernel
theorem dX8_because_8 : decode cX8_because 8 = .ok (.arraylength, 1) := by decide +kernel
theorem dX8_because_9 : decode cX8_because 9 = .ok (.if_icmp .ge 33, 3) := by decide +kernel
theorem dX8_because_12 : decode cX8_because 12 = .ok (.aload_n 0, 1) := by decide +kernel
theorem dX8_because_13 : decode cX8_because 13 = .ok (.getfield 7, 3) := by decide +kernel
theorem dX8_because_16 : decode cX8_because 16 = .ok (.aload_n 0, 1) := by decide +kernel
theorem dX8_because_17 : decode cX8_because 17 = .ok (.getfield 16, 3) := by decide +kernel
theorem dX8_because_20 : decode cX8_because 20 = .ok (.iload_n 1, 1) := by decide +kernel
theorem dX8_because_21 : decode cX8_because 21 = .ok (.iastore, 1) := by decide +kernel
theorem dX8_because_22 : decode cX8_because 22 = .ok (.aload_n 0, 1) := by decide +kernel
theorem dX8_because_23 : decode cX8_because 23 = .ok (.getfield 13, 3) := by decide +kernel
theorem dX8_because_26 : decode cX8_because 26 = .ok (.aload_n 0, 1) := by decide +kernel
theorem dX8_because_27 : decode cX8_because 27 = .ok (.getfield 16, 3) := by decide +kernel
theorem dX8_because_30 : decode cX8_because 30 = .ok (.iload_n 2, 1) := by decide +kernel
theorem dX8_because_31 : decode cX8_because 31 = .ok (.iastore, 1) := by decide +kernel
theorem dX8_because_32 : decode cX8_because 32 = .ok (.aload_n 0, 1) := by decide +kernel
theorem dX8_because_33 : decode cX8_because 33 = .ok (.dup, 1) := by decide +kernel
theorem dX8_because_34 : decode cX8_because 34 = .ok (.getfield 16, 3) := by decide +kernel
theorem dX8_because_37 : decode cX8_because 37 = .ok (.iconst 1, 1) := by decide +kernel
theorem dX8_because_38 : decode cX8_because 38 = .ok (.iadd, 1) := by decide +kernel
theorem dX8_because_39 : decode cX8_because 39 = .ok (.putfield 16, 3) := by decide +kernel
theorem dX8_because_42 : decode cX8_because 42 = .ok (.return_, 1) := by decide +kernel
theorem dX9_init_0 : decode cX9_init 0 = .ok (.aload_n 0, 1) := by decide +kernel
theorem dX9_init_1 : decode cX9_init 1 = .ok (.invokespecial 3, 3) := by decide +kernel
theorem dX9_init_4 : decode cX9_init 4 = .ok (.aload_n 0, 1) := by decide +kernel
theorem dX9_init_5 : decode cX9_init 5 = .ok (.new 9, 3) := by decide +kernel
theorem dX9_init_8 : decode cX9_init 8 = .ok (.dup, 1) := by decide +kernel
theorem dX9_init_9 : decode cX9_init 9 = .ok (.invokespecial 11, 3) := by decide +kernel
theorem dX9_init_12 : decode cX9_init 12 = .ok (.putfield 12, 3) := by decide +kernel
theorem dX9_init_15 : decode cX9_init 15 = .ok (.aload_n 0, 1) := by decide +kernel
theorem dX9_init_16 : decode cX9_init 16 = .ok (.new 9, 3) := by decide +kernel
theorem dX9_init_19 : decode cX9_init 19 = .ok (.dup, 1) := by decide +kernel
theorem dX9_init_20 : decode cX9_init 20 = .ok (.invokespecial 11, 3) := by decide +kernel
theorem dX9_init_23 : decode cX9_init 23 = .ok (.putfield 18, 3) := by decide +kernel
theorem dX9_init_26 : decode cX9_init 26 = .ok (.aload_n 0, 1) := by decide +kernel
theorem dX9_init_27 : decode cX9_init 27 = .ok (.new 21, 3) := by decide +kernel
theorem dX9_init_30 : decode cX9_init 30 = .ok (.dup, 1) := by decide +kernel
theorem dX9_init_31 : decode cX9_init 31 = .ok (.invokespecial 23, 3) := by decide +kernel
theorem dX9_init_34 : decode cX9_init 34 = .ok (.putfield 24, 3) := by decide +kernel
theorem dX9_init_37 : decode cX9_init 37 = .ok (.aload_n 0, 1) := by decide +kernel
theorem dX9_init_38 : decode cX9_init 38 = .ok (.new 21, 3) := by decide +kernel
theorem dX9_init_41 : decode cX9_init 41 = .ok (.dup, 1) := by decide +kernel
theorem dX9_init_42 : decode cX9_init 42 = .ok (.invokespecial 23, 3) := by decide +kernel
theorem dX9_init_45 : decode cX9_init 45 = .ok (.putfield 28, 3) := by decide +kernel
theorem dX9_init_48 : decode cX9_init 48 = .ok (.aload_n 0, 1) := by decide +kernel
theorem dX9_init_49 : decode cX9_init 49 = .ok (.new 31, 3) := by decide +kernel
theorem dX9_init_52 : decode cX9_init 52 = .ok (.dup, 1) := by decide +kernel
theorem dX9_init_53 : decode cX9_init 53 = .ok (.invokespecial 33, 3) := by decide +kernel
theorem dX9_init_56 : decode cX9_init 56 = .ok (.putfield 34, 3) := by decide +kernel
theorem dX9_init_59 : decode cX9_init 59 = .ok (.aload_n 0, 1) := by decide +kernel
theorem dX9_init_60 : decode cX9_init 60 = .ok (.new 38, 3) := by decide +kernel
theorem dX9_init_63 : decode cX9_init 63 = .ok (.dup, 1) := by decide +kernel
theorem dX9_init_64 : decode cX9_init 64 = .ok (.invokespecial 40, 3) := by decide +kernel
theorem dX9_init_67 : decode cX9_init 67 = .ok (.putfield 41, 3) := by decide +kernel
theorem dX9_init_70 : decode cX9_init 70 = .ok (.aload_n 0, 1) := by decide +kernel
theorem dX9_init_71 : decode cX9_init 71 = .ok (.new 38, 3) := by decide +kernel
theorem dX9_init_74 : decode cX9_init 74 = .ok (.dup, 1) := by decide +kernel
theorem dX9_init_75 : decode cX9_init 75 = .ok (.invokespecial 40, 3) := by decide +kernel
theorem dX9_init_78 : decode cX9_init 78 = .ok (.putfield 45, 3) := by decide +kernel
theorem dX9_init_81 : decode cX9_init 81 = .ok (.aload_n 0, 1) := by decide +kernel
theorem dX9_init_82 : decode cX9_init 82 = .ok (.new 48, 3) := by decide +kernel
theorem dX9_init_85 : decode cX9_init 85 = .ok (.dup, 1) := by decide +kernel
theorem dX9_init_86 : decode cX9_init 86 = .ok (.invokespecial 50, 3) := by decide +kernel
theorem dX9_init_89 : decode cX9_init 89 = .ok (.putfield 51, 3) := by decide +kernel
theorem dX9_init_92 : decode cX9_init 92 = .ok (.aload_n 0, 1) := by decide +kernel
theorem dX9_init_93 : decode cX9_init 93 = .ok (.new 55, 3) := by decide +kernel
theorem dX9_init_96 : decode cX9_init 96 = .ok (.dup, 1) := by decide +kernel
theorem dX9_init_97 : decode cX9_init 97 = .ok (.invokespecial 57, 3) := by decide +kernel
theorem dX9_init_100 : decode cX9_init 100 = .ok (.putfield 58, 3) := by decide +kernel
theorem dX9_init_103 : decode cX9_init 103 = .ok (.aload_n 0, 1) := by decide +kernel
theorem dX9_init_104 : decode cX9_init 104 = .ok (.bipush 6, 2) := by decide +kernel
theorem dX9_init_106 : decode cX9_init 106 = .ok (.anewarray 62, 3) := by decide +kernel
theorem dX9_init_109 : decode cX9_init 109 = .ok (.putfield 64, 3) := by decide +kernel
theorem dX9_init_112 : decode cX9_init 112 = .ok (.iconst 0, 1) := by decide +kernel
theorem dX9_init_113 : decode cX9_init 113 = .ok (.istore_n 1, 1) := by decide +kernel
theorem dX9_init_114 : decode cX9_init 114 = .ok (.iload_n 1, 1) := by decide +kernel
theorem dX9_init_115 : decode cX9_init 115 = .ok (.bipush 6, 2) := by decide +kernel
theorem dX9_init_117 : decode cX9_init 117 = .ok (.if_icmp .ge 22, 3) := by decide +kernel
theorem dX9_init_120 : decode cX9_init 120 = .ok (.aload_n 0, 1) := by decide +kernel
theorem dX9_init_121 : decode cX9_init 121 = .ok (.getfield 64, 3) := by decide +kernel
theorem dX9_init_124 : decode cX9_init 124 = .ok (.iload_n 1, 1) := by decide +kernel
theorem dX9_init_125 : decode cX9_init 125 = .ok (.new 62, 3) := by decide +kernel
theorem dX9_init_128 : decode cX9_init 128 = .ok (.dup, 1) := by decide +kernel
theorem dX9_init_129 : decode cX9_init 129 = .ok (.invokespecial 68, 3) := by decide +kernel
theorem dX9_init_132 : decode cX9_init 132 = .ok (.aastore, 1) := by decide +kernel
theorem dX9_init_133 : decode cX9_init 133 = .ok (.iinc 1 1, 3) := by decide +kernel
theorem dX9_init_136 : decode cX9_init 136 = .ok (.goto (-22), 3) := by decide +kernel
theorem dX9_init_139 : decode cX9_init 139 = .ok (.aload_n 0, 1) := by decide +kernel
theorem dX9_init_140 : decode cX9_init 140 = .ok (.getfield 24, 3) := by decide +kernel
theorem dX9_init_143 : decode cX9_init 143 = .ok (.aload_n 0, 1) := by decide +kernel
theorem dX9_init_144 : decode cX9_init 144 = .ok (.getfield 12, 3) := by decide +kernel
theorem dX9_init_147 : decode cX9_init 147 = .ok (.getfield 69, 3) := by decide +kernel
theorem dX9_init_150 : decode cX9_init 150 = .ok (.invokevirtual 73, 3) := by decide +kernel
theorem dX9_init_153 : decode cX9_init 153 = .ok (.return_, 1) := by decide +kernel
theorem dX9_places_0 : decode cX9_places 0 = .ok (.iload_n 1, 1) := by decide +kernel
theorem dX9_places_1 : decode cX9_places 1 = .ok (.iconst 2, 1) := by decide +kernel
theorem dX9_places_2 : decode cX9_places 2 = .ok (.if_icmp .lt 9, 3) := by decide +kernel
theorem dX9_places_5 : decode cX9_places 5 = .ok (.iload_n 1, 1) := by decide +kernel
theorem dX9_places_6 : decode cX9_places 6 = .ok (.bipush 6, 2) := by decide +kernel
theorem dX9_places_8 : decode cX9_places 8 = .ok (.if_icmp .le 6, 3) := by decide +kernel
theorem dX9_places_11 : decode cX9_places 11 = .ok (.bipush (-2), 2) := by decide +kernel
theorem dX9_places_13 : decode cX9_places 13 = .ok (.ireturn, 1) := by decide +kernel
theorem dX9_places_14 : decode cX9_places 14 = .ok (.aload_n 0, 1) := by decide +kernel
theorem dX9_places_15 : decode cX9_places 15 = .ok (.getfield 12, 3) := by decide +kernel
theorem dX9_places_18 : decode cX9_places 18 = .ok (.getfield 69, 3) := by decide +kernel
theorem dX9_places_21 : decode cX9_places 21 = .ok (.istore_n 2, 1) := by decide +kernel
theorem dX9_places_22 : decode cX9_places 22 = .ok (.aload_n 0, 1) := by decide +kernel
theorem dX9_places_23 : decode cX9_places 23 = .ok (.getfield 12, 3) := by decide +kernel
theorem dX9_places_26 : decode cX9_places 26 = .ok (.iload_n 1, 1) := by decide +kernel
theorem dX9_places_27 : decode cX9_places 27 = .ok (.putfield 69, 3) := by decide +kernel
theorem dX9_places_30 : decode cX9_places 30 = .ok (.aload_n 0, 1) := by decide +kernel
theorem dX9_places_31 : decode cX9_places 31 = .ok (.getfield 12, 3) := by decide +kernel
theorem dX9_places_34 : decode cX9_places 34 = .ok (.iconst 0, 1) := by decide +kernel
theorem dX9_places_35 : decode cX9_places 35 = .ok (.putfield 77, 3) := by decide +kernel
theorem dX9_places_38 : decode cX9_places 38 = .ok (.aload_n 0, 1) := by decide +kernel
theorem dX9_places_39 : decode cX9_places 39 = .ok (.getfield 12, 3) := by decide +kernel
theorem dX9_places_42 : decode cX9_places 42 = .ok (.invokevirtual 80, 3) := by decide +kernel
theorem dX9_places_45 : decode cX9_places 45 = .ok (.aload_n 0, 1) := by decide +kernel
theorem dX9_places_46 : decode cX9_places 46 = .ok (.getfield 24, 3) := by decide +kernel
theorem dX9_places_49 : decode cX9_places 49 = .ok (.iload_n 1, 1) := by decide +kernel
theorem dX9_places_50 : decode cX9_places 50 = .ok (.invokevirtual 73, 3) := by decide +kernel
theorem dX9_places_53 : decode cX9_places 53 = .ok (.aload_n 0, 1) := by decide +kernel
theorem dX9_places_54 : decode cX9_places 54 = .ok (.invokevirtual 83, 3) := by decide +kernel
theorem dX9_places_57 : decode cX9_places 57 = .ok (.iload_n 2, 1) := by decide +kernel
theorem dX9_places_58 : decode cX9_places 58 = .ok (.ireturn, 1) := by decide +kernel
theorem dX9_kinds_0 : decode cX9_kinds 0 = .ok (.iload_n 1, 1) := by decide +kernel
theorem dX9_kinds_1 : decode cX9_kinds 1 = .ok (.iconst 1, 1) := by decide +kernel
theorem dX9_kinds_2 : decode cX9_kinds 2 = .ok (.if_icmp .lt 8, 3) := by decide +kernel
theorem dX9_kinds_5 : decode cX9_kinds 5 = .ok (.iload_n 1, 1) := by decide +kernel
theorem dX9_kinds_6 : decode cX9_kinds 6 = .ok (.iconst 4, 1) := by decide +kernel
theorem dX9_kinds_7 : decode cX9_kinds 7 = .ok (.if_icmp .le 6, 3) := by decide +kernel
theorem dX9_kinds_10 : decode cX9_kinds 10 = .ok (.bipush (-2), 2) := by decide +kernel
theorem dX9_kinds_12 : decode cX9_kinds 12 = .ok (.ireturn, 1) := by decide +kernel
theorem dX9_kinds_13 : decode cX9_kinds 13 = .ok (.aload_n 0, 1) := by decide +kernel
theorem dX9_kinds_14 : decode cX9_kinds 14 = .ok (.getfield 12, 3) := by decide +kernel
theorem dX9_kinds_17 : decode cX9_kinds 17 = .ok (.getfield 86, 3) := by decide +kernel
theorem dX9_kinds_20 : decode cX9_kinds 20 = .ok (.istore_n 2, 1) := by decide +kernel
theorem dX9_kinds_21 : decode cX9_kinds 21 = .ok (.aload_n 0, 1) := by decide +kernel
theorem dX9_kinds_22 : decode cX9_kinds 22 = .ok (.getfield 12, 3) := by decide +kernel
theorem dX9_kinds_25 : decode cX9_kinds 25 = .ok (.iload_n 1, 1) := by decide +kernel
theorem dX9_kinds_26 : decode cX9_kinds 26 = .ok (.putfield 86, 3) := by decide +kernel
theorem dX9_kinds_29 : decode cX9_kinds 29 = .ok (.aload_n 0, 1) := by decide +kernel
theorem dX9_kinds_30 : decode cX9_kinds 30 = .ok (.invokevirtual 83, 3) := by decide +kernel
theorem dX9_kinds_33 : decode cX9_kinds 33 = .ok (.iload_n 2, 1) := by decide +kernel
theorem dX9_kinds_34 : decode cX9_kinds 34 = .ok (.ireturn, 1) := by decide +kernel
theorem dX9_weight_0 : decode cX9_weight 0 = .ok (.iload_n 1, 1) := by decide +kernel
theorem dX9_weight_1 : decode cX9_weight 1 = .ok (.ifCond .lt 8, 3) := by decide +kernel
theorem dX9_weight_4 : decode cX9_weight 4 = .ok (.iload_n 1, 1) := by decide +kernel
theorem dX9_weight_5 : decode cX9_weight 5 = .ok (.iconst 4, 1) := by decide +kernel
theorem dX9_weight_6 : decode cX9_weight 6 = .ok (.if_icmp .lt 5, 3) := by decide +kernel
theorem dX9_weight_9 : decode cX9_weight 9 = .ok (.iconst (-1), 1) := by decide +kernel
theorem dX9_weight_10 : decode cX9_weight 10 = .ok (.ireturn, 1) := by decide +kernel
theorem dX9_weight_11 : decode cX9_weight 11 = .ok (.iload_n 2, 1) := by decide +kernel
theorem dX9_weight_12 : decode cX9_weight 12 = .ok (.ifCond .lt 9, 3) := by decide +kernel
theorem dX9_weight_15 : decode cX9_weight 15 = .ok (.iload_n 2, 1) := by decide +kernel
theorem dX9_weight_16 : decode cX9_weight 16 = .ok (.bipush 9, 2) := by decide +kernel
theorem dX9_weight_18 : decode cX9_weight 18 = .ok (.if_icmp .le 6, 3) := by decide +kernel
theorem dX9_weight_21 : decode cX9_weight 21 = .ok (.bipush (-2), 2) := by decide +kernel
theorem dX9_weight_23 : decode cX9_weight 23 = .ok (.ireturn, 1) := by decide +kernel
theorem dX9_weight_24 : decode cX9_weight 24 = .ok (.aload_n 0, 1) := by decide +kernel
theorem dX9_weight_25 : decode cX9_weight 25 = .ok (.getfield 12, 3) := by decide +kernel
theorem dX9_weight_28 : decode cX9_weight 28 = .ok (.getfield 89, 3) := by decide +kernel
theorem dX9_weight_31 : decode cX9_weight 31 = .ok (.iload_n 1, 1) := by decide +kernel
theorem dX9_weight_32 : decode cX9_weight 32 = .ok (.iaload, 1) := by decide +kernel
theorem dX9_weight_33 : decode cX9_weight 33 = .ok (.istore_n 3, 1) := by decide +kernel
theorem dX9_weight_34 : decode cX9_weight 34 = .ok (.aload_n 0, 1) := by decide +kernel
theorem dX9_weight_35 : decode cX9_weight 35 = .ok (.getfield 12, 3) := by decide +kernel
theorem dX9_weight_38 : decode cX9_weight 38 = .ok (.getfield 89, 3) := by decide +kernel
theorem dX9_weight_41 : decode cX9_weight 41 = .ok (.iload_n 1, 1) := by decide +kernel
theorem dX9_weight_42 : decode cX9_weight 42 = .ok (.iload_n 2, 1) := by decide +kernel
theorem dX9_weight_43 : decode cX9_weight 43 = .ok (.iastore, 1) := by decide +kernel
theorem dX9_weight_44 : decode cX9_weight 44 = .ok (.iload_n 3, 1) := by decide +kernel
theorem dX9_weight_45 : decode cX9_weight 45 = .ok (.ireturn, 1) := by decide +kernel
theorem dX9_generator_0 : decode cX9_generator 0 = .ok (.iload_n 1, 1) := by decide +kernel
theorem dX9_generator_1 : decode cX9_generator 1 = .ok (.aload_n 0, 1) := by decide +kernel
theorem dX9_generator_2 : decode cX9_generator 2 = .ok (.getfield 12, 3) := by decide +kernel
theorem dX9_generator_5 : decode cX9_generator 5 = .ok (.getfield 69, 3) := by decide +kernel
theorem dX9_generator_8 : decode cX9_generator 8 = .ok (.invokestatic 93, 3) := by decide +kernel
theorem dX9_generator_11 : decode cX9_generator 11 = .ok (.istore_n 3, 1) := by decide +kernel
theorem dX9_generator_12 : decode cX9_generator 12 = .ok (.iload_n 3, 1) := by decide +kernel
theorem dX9_generator_13 : decode cX9_generator 13 = .ok (.ifCond .lt 10, 3) := by decide +kernel
theorem dX9_generator_16 : decode cX9_generator 16 = .ok (.iload_n 2, 1) := by decide +kernel
theorem dX9_generator_17 : decode cX9_generator 17 = .ok (.invokestatic 99, 3) := by decide +kernel
theorem dX9_generator_20 : decode cX9_generator 20 = .ok (.ifCond .ne 6, 3) := by decide +kernel
theorem dX9_generator_23 : decode cX9_generator 23 = .ok (.bipush (-2), 2) := by decide +kernel
theorem dX9_generator_25 : decode cX9_generator 25 = .ok (.ireturn, 1) := by decide +kernel
theorem dX9_generator_26 : decode cX9_generator 26 = .ok (.aload_n 0, 1) := by decide +kernel
theorem dX9_generator_27 : decode cX9_generator 27 = .ok (.getfield 12, 3) := by decide +kernel
theorem dX9_generator_30 : decode cX9_generator 30 = .ok (.getfield 77, 3) := by decide +kernel
theorem dX9_generator_33 : decode cX9_generator 33 = .ok (.istore 4, 2) := by decide +kernel
theorem dX9_generator_35 : decode cX9_generator 35 = .ok (.iload 4, 2) := by decide +kernel
theorem dX9_generator_37 : decode cX9_generator 37 = .ok (.iconst 4, 1) := by decide +kernel
theorem dX9_generator_38 : decode cX9_generator 38 = .ok (.if_icmp .lt 6, 3) := by decide +kernel
theorem dX9_generator_41 : decode cX9_generator 41 = .ok (.bipush (-4), 2) := by decide +kernel
theorem dX9_generator_43 : decode cX9_generator 43 = .ok (.ireturn, 1) := by decide +kernel
theorem dX9_generator_44 : decode cX9_generator 44 = .ok (.aload_n 0, 1) := by decide +kernel
theorem dX9_generator_45 : decode cX9_generator 45 = .ok (.getfield 12, 3) := by decide +kernel
theorem dX9_generator_48 : decode cX9_generator 48 = .ok (.getfield 103, 3) := by decide +kernel
theorem dX9_generator_51 : decode cX9_generator 51 = .ok (.iload 4, 2) := by decide +kernel
theorem dX9_generator_53 : decode cX9_generator 53 = .ok (.iload_n 3, 1) := by decide +kernel
theorem dX9_generator_54 : decode cX9_generator 54 = .ok (.iconst 1, 1) := by decide +kernel
theorem dX9_generator_55 : decode cX9_generator 55 = .ok (.ishl, 1) := by decide +kernel
theorem dX9_generator_56 : decode cX9_generator 56 = .ok (.iload_n 2, 1) := by decide +kernel
theorem dX9_generator_57 : decode cX9_generator 57 = .ok (.ior, 1) := by decide +kernel
theorem dX9_generator_58 : decode cX9_generator 58 = .ok (.iastore, 1) := by decide +kernel
theorem dX9_generator_59 : decode cX9_generator 59 = .ok (.aload_n 0, 1) := by decide +kernel
theorem dX9_generator_60 : decode cX9_generator 60 = .ok (.getfield 28, 3) := by decide +kernel
theorem dX9_generator_63 : decode cX9_generator 63 = .ok (.aload_n 0, 1) := by decide +kernel
theorem dX9_generator_64 : decode cX9_generator 64 = .ok (.getfield 12, 3) := by decide +kernel
theorem dX9_generator_67 : decode cX9_generator 67 = .ok (.getfield 103, 3) := by decide +kernel
theorem dX9_generator_70 : decode cX9_generator 70 = .ok (.iload 4, 2) := by decide +kernel
theorem dX9_generator_72 : decode cX9_generator 72 = .ok (.iconst 1, 1) := by decide +kernel
theorem dX9_generator_73 : decode cX9_generator 73 = .ok (.iadd, 1) := by decide +kernel
theorem dX9_generator_74 : decode cX9_generator 74 = .ok (.invokestatic 106, 3) := by decide +kernel
theorem dX9_generator_77 : decode cX9_generator 77 = .ok (.aload_n 0, 1) := by decide +kernel
theorem dX9_generator_78 : decode cX9_generator 78 = .ok (.getfield 12, 3) := by decide +kernel
theorem dX9_generator_81 : decode cX9_generator 81 = .ok (.getfield 69, 3) := by decide +kernel
theorem dX9_generator_84 : decode cX9_generator 84 = .ok (.invokevirtual 110, 3) := by decide +kernel
theorem dX9_generator_87 : decode cX9_generator 87 = .ok (.ifCond .ne 27, 3) := by decide +kernel
theorem dX9_generator_90 : decode cX9_generator 90 = .ok (.aload_n 0, 1) := by decide +kernel
theorem dX9_generator_91 : decode cX9_generator 91 = .ok (.getfield 58, 3) := by decide +kernel
theorem dX9_generator_94 : decode cX9_generator 94 = .ok (.iconst 5, 1) := by decide +kernel
theorem dX9_generator_95 : decode cX9_generator 95 = .ok (.iload 4, 2) := by decide +kernel
theorem dX9_generator_97 : decode cX9_generator 97 = .ok (.invokevirtual 114, 3) := by decide +kernel
theorem dX9_generator_100 : decode cX9_generator 100 = .ok (.aload_n 0, 1) := by decide +kernel
theorem dX9_generator_101 : decode cX9_generator 101 = .ok (.getfield 58, 3) := by decide +kernel
theorem dX9_generator_104 : decode cX9_generator 104 = .ok (.bipush 6, 2) := by decide +kernel
theorem dX9_generator_106 : decode cX9_generator 106 = .ok (.bipush 120, 2) := by decide +kernel
theorem dX9_generator_108 : decode cX9_generator 108 = .ok (.invokevirtual 117, 3) := by decide +kernel
theorem dX9_generator_111 : decode cX9_generator 111 = .ok (.bipush (-15), 2) := by decide +kernel
theorem dX9_generator_113 : decode cX9_generator 113 = .ok (.ireturn, 1) := by decide +kernel
theorem dX9_generator_114 : decode cX9_generator 114 = .ok (.aload_n 0, 1) := by decide +kernel
theorem dX9_generator_115 : decode cX9_generator 115 = .ok (.getfield 12, 3) := by decide +kernel
theorem dX9_generator_118 : decode cX9_generator 118 = .ok (.iload 4, 2) := by decide +kernel
theorem dX9_generator_120 : decode cX9_generator 120 = .ok (.iconst 1, 1) := by decide +kernel
theorem dX9_generator_121 : decode cX9_generator 121 = .ok (.iadd, 1) := by decide +kernel
theorem dX9_generator_122 : decode cX9_generator 122 = .ok (.putfield 77, 3) := by decide +kernel
theorem dX9_generator_125 : decode cX9_generator 125 = .ok (.aload_n 0, 1) := by decide +kernel
theorem dX9_generator_126 : decode cX9_generator 126 = .ok (.getfield 24, 3) := by decide +kernel
theorem dX9_generator_129 : decode cX9_generator 129 = .ok (.astore 5, 2) := by decide +kernel
theorem dX9_generator_131 : decode cX9_generator 131 = .ok (.aload_n 0, 1) := by decide +kernel
theorem dX9_generator_132 : decode cX9_generator 132 = .ok (.aload_n 0, 1) := by decide +kernel
theorem dX9_generator_133 : decode cX9_generator 133 = .ok (.getfield 28, 3) := by decide +kernel
theorem dX9_generator_136 : decode cX9_generator 136 = .ok (.putfield 24, 3) := by decide +kernel
theorem dX9_generator_139 : decode cX9_generator 139 = .ok (.aload_n 0, 1) := by decide +kernel
theorem dX9_generator_140 : decode cX9_generator 140 = .ok (.aload 5, 2) := by decide +kernel
theorem dX9_generator_142 : decode cX9_generator 142 = .ok (.putfield 28, 3) := by decide +kernel
theorem dX9_generator_145 : decode cX9_generator 145 = .ok (.aload_n 0, 1) := by decide +kernel
theorem dX9_generator_146 : decode cX9_generator 146 = .ok (.invokevirtual 83, 3) := by decide +kernel
theorem dX9_generator_149 : decode cX9_generator 149 = .ok (.iload 4, 2) := by decide +kernel
theorem dX9_generator_151 : decode cX9_generator 151 = .ok (.ireturn, 1) := by decide +kernel
theorem dX9_drop_0 : decode cX9_drop 0 = .ok (.aload_n 0, 1) := by decide +kernel
theorem dX9_drop_1 : decode cX9_drop 1 = .ok (.getfield 12, 3) := by decide +kernel
theorem dX9_drop_4 : decode cX9_drop 4 = .ok (.getfield 77, 3) := by decide +kernel
theorem dX9_drop_7 : decode cX9_drop 7 = .ok (.ifCond .gt 6, 3) := by decide +kernel
theorem dX9_drop_10 : decode cX9_drop 10 = .ok (.bipush (-3), 2) := by decide +kernel
theorem dX9_drop_12 : decode cX9_drop 12 = .ok (.ireturn, 1) := by decide +kernel
theorem dX9_drop_13 : decode cX9_drop 13 = .ok (.aload_n 0, 1) := by decide +kernel
theorem dX9_drop_14 : decode cX9_drop 14 = .ok (.getfield 12, 3) := by decide +kernel
theorem dX9_drop_17 : decode cX9_drop 17 = .ok (.getfield 77, 3) := by decide +kernel
theorem dX9_drop_20 : decode cX9_drop 20 = .ok (.iconst 1, 1) := by decide +kernel
theorem dX9_drop_21 : decode cX9_drop 21 = .ok (.isub, 1) := by decide +kernel
theorem dX9_drop_22 : decode cX9_drop 22 = .ok (.istore_n 1, 1) := by decide +kernel
theorem dX9_drop_23 : decode cX9_drop 23 = .ok (.aload_n 0, 1) := by decide +kernel
theorem dX9_drop_24 : decode cX9_drop 24 = .ok (.getfield 12, 3) := by decide +kernel
theorem dX9_drop_27 : decode cX9_drop 27 = .ok (.iload_n 1, 1) := by decide +kernel
theorem dX9_drop_28 : decode cX9_drop 28 = .ok (.putfield 77, 3) := by decide +kernel
theorem dX9_drop_31 : decode cX9_drop 31 = .ok (.aload_n 0, 1) := by decide +kernel
theorem dX9_drop_32 : decode cX9_drop 32 = .ok (.getfield 12, 3) := by decide +kernel
theorem dX9_drop_35 : decode cX9_drop 35 = .ok (.iload_n 1, 1) := by decide +kernel
theorem dX9_drop_36 : decode cX9_drop 36 = .ok (.invokevirtual 120, 3) := by decide +kernel
theorem dX9_drop_39 : decode cX9_drop 39 = .ok (.aload_n 0, 1) := by decide +kernel
theorem dX9_drop_40 : decode cX9_drop 40 = .ok (.invokevirtual 123, 3) := by decide +kernel
theorem dX9_drop_43 : decode cX9_drop 43 = .ok (.iload_n 1, 1) := by decide +kernel
theorem dX9_drop_44 : decode cX9_drop 44 = .ok (.ireturn, 1) := by decide +kernel
theorem dX9_of_0 : decode cX9_of 0 = .ok (.aload_n 0, 1) := by decide +kernel
theorem dX9_of_1 : decode cX9_of 1 = .ok (.iload_n 1, 1) := by decide +kernel
theorem dX9_of_2 : decode cX9_of 2 = .ok (.invokevirtual 126, 3) := by decide +kernel
theorem dX9_of_5 : decode cX9_of 5 = .ok (.ifCond .ne 5, 3) := by decide +kernel
theorem dX9_of_8 : decode cX9_of 8 = .ok (.iconst (-1), 1) := by decide +kernel
theorem dX9_of_9 : decode cX9_of 9 = .ok (.ireturn, 1) := by decide +kernel
theorem dX9_of_10 : decode cX9_of 10 = .ok (.aload_n 0, 1) := by decide +kernel
theorem dX9_of_11 : decode cX9_of 11 = .ok (.aload_n 0, 1) := by decide +kernel
theorem dX9_of_12 : decode cX9_of 12 = .ok (.getfield 12, 3) := by decide +kernel
theorem dX9_of_15 : decode cX9_of 15 = .ok (.getfield 103, 3) := by decide +kernel
theorem dX9_of_18 : decode cX9_of 18 = .ok (.iload_n 1, 1) := by decide +kernel
theorem dX9_of_19 : decode cX9_of 19 = .ok (.iaload, 1) := by decide +kernel
theorem dX9_of_20 : decode cX9_of 20 = .ok (.iload_n 2, 1) := by decide +kernel
theorem dX9_of_21 : decode cX9_of 21 = .ok (.invokevirtual 129, 3) := by decide +kernel
theorem dX9_of_24 : decode cX9_of 24 = .ok (.ireturn, 1) := by decide +kernel
theorem dX9_lay_0 : decode cX9_lay 0 = .ok (.iload_n 1, 1) := by decide +kernel
theorem dX9_lay_1 : decode cX9_lay 1 = .ok (.ifCond .lt 21, 3) := by decide +kernel
theorem dX9_lay_4 : decode cX9_lay 4 = .ok (.iload_n 1, 1) := by decide +kernel
theorem dX9_lay_5 : decode cX9_lay 5 = .ok (.iconst 3, 1) := by decide +kernel
theorem dX9_lay_6 : decode cX9_lay 6 = .ok (.if_icmp .ge 16, 3) := by decide +kernel
theorem dX9_lay_9 : decode cX9_lay 9 = .ok (.iload_n 3, 1) := by decide +kernel
theorem dX9_lay_10 : decode cX9_lay 10 = .ok (.iconst (-1), 1) := by decide +kernel
theorem dX9_lay_11 : decode cX9_lay 11 = .ok (.if_icmp .eq 13, 3) := by decide +kernel
theorem dX9_lay_14 : decode cX9_lay 14 = .ok (.aload_n 0, 1) := by decide +kernel
theorem dX9_lay_15 : decode cX9_lay 15 = .ok (.iload_n 3, 1) := by decide +kernel
theorem dX9_lay_16 : decode cX9_lay 16 = .ok (.invokevirtual 126, 3) := by decide +kernel
theorem dX9_lay_19 : decode cX9_lay 19 = .ok (.ifCond .ne 5, 3) := by decide +kernel
theorem dX9_lay_22 : decode cX9_lay 22 = .ok (.iconst (-1), 1) := by decide +kernel
theorem dX9_lay_23 : decode cX9_lay 23 = .ok (.ireturn, 1) := by decide +kernel
theorem dX9_lay_24 : decode cX9_lay 24 = .ok (.iload_n 2, 1) := by decide +kernel
theorem dX9_lay_25 : decode cX9_lay 25 = .ok (.ifCond .lt 8, 3) := by decide +kernel
theorem dX9_lay_28 : decode cX9_lay 28 = .ok (.iload_n 2, 1) := by decide +kernel
theorem dX9_lay_29 : decode cX9_lay 29 = .ok (.iconst 3, 1) := by decide +kernel
theorem dX9_lay_30 : decode cX9_lay 30 = .ok (.if_icmp .lt 6, 3) := by decide +kernel
theorem dX9_lay_33 : decode cX9_lay 33 = .ok (.bipush (-13), 2) := by decide +kernel
theorem dX9_lay_35 : decode cX9_lay 35 = .ok (.ireturn, 1) := by decide +kernel
theorem dX9_lay_36 : decode cX9_lay 36 = .ok (.iload_n 3, 1) := by decide +kernel
theorem dX9_lay_37 : decode cX9_lay 37 = .ok (.iconst (-1), 1) := by decide +kernel
theorem dX9_lay_38 : decode cX9_lay 38 = .ok (.if_icmp .eq 24, 3) := by decide +kernel
theorem dX9_lay_41 : decode cX9_lay 41 = .ok (.iload_n 1, 1) := by decide +kernel
theorem dX9_lay_42 : decode cX9_lay 42 = .ok (.aload_n 0, 1) := by decide +kernel
theorem dX9_lay_43 : decode cX9_lay 43 = .ok (.getfield 12, 3) := by decide +kernel
theorem dX9_lay_46 : decode cX9_lay 46 = .ok (.getfield 103, 3) := by decide +kernel
theorem dX9_lay_49 : decode cX9_lay 49 = .ok (.iload_n 3, 1) := by decide +kernel
theorem dX9_lay_50 : decode cX9_lay 50 = .ok (.iaload, 1) := by decide +kernel
theorem dX9_lay_51 : decode cX9_lay 51 = .ok (.iconst 1, 1) := by decide +kernel
theorem dX9_lay_52 : decode cX9_lay 52 = .ok (.iand, 1) := by decide +kernel
theorem dX9_lay_53 : decode cX9_lay 53 = .ok (.invokestatic 132, 3) := by decide +kernel
theorem dX9_lay_56 : decode cX9_lay 56 = .ok (.ifCond .ne 6, 3) := by decide +kernel
theorem dX9_lay_59 : decode cX9_lay 59 = .ok (.bipush (-12), 2) := by decide +kernel
theorem dX9_lay_61 : decode cX9_lay 61 = .ok (.ireturn, 1) := by decide +kernel
theorem dX9_lay_62 : decode cX9_lay 62 = .ok (.iload_n 1, 1) := by decide +kernel
theorem dX9_lay_63 : decode cX9_lay 63 = .ok (.iconst 3, 1) := by decide +kernel
theorem dX9_lay_64 : decode cX9_lay 64 = .ok (.imul, 1) := by decide +kernel
theorem dX9_lay_65 : decode cX9_lay 65 = .ok (.iload_n 2, 1) := by decide +kernel
theorem dX9_lay_66 : decode cX9_lay 66 = .ok (.iadd, 1) := by decide +kernel
theorem dX9_lay_67 : decode cX9_lay 67 = .ok (.istore 4, 2) := by decide +kernel
theorem dX9_lay_69 : decode cX9_lay 69 = .ok (.aload_n 0, 1) := by decide +kernel
theorem dX9_lay_70 : decode cX9_lay 70 = .ok (.getfield 12, 3) := by decide +kernel
theorem dX9_lay_73 : decode cX9_lay 73 = .ok (.getfield 136, 3) := by decide +kernel
theorem dX9_lay_76 : decode cX9_lay 76 = .ok (.iload 4, 2) := by decide +kernel
theorem dX9_lay_78 : decode cX9_lay 78 = .ok (.iaload, 1) := by decide +kernel
theorem dX9_lay_79 : decode cX9_lay 79 = .ok (.istore 5, 2) := by decide +kernel
theorem dX9_lay_81 : decode cX9_lay 81 = .ok (.aload_n 0, 1) := by decide +kernel
theorem dX9_lay_82 : decode cX9_lay 82 = .ok (.getfield 12, 3) := by decide +kernel
theorem dX9_lay_85 : decode cX9_lay 85 = .ok (.getfield 136, 3) := by decide +kernel
theorem dX9_lay_88 : decode cX9_lay 88 = .ok (.iload 4, 2) := by decide +kernel
theorem dX9_lay_90 : decode cX9_lay 90 = .ok (.iload_n 3, 1) := by decide +kernel
theorem dX9_lay_91 : decode cX9_lay 91 = .ok (.iastore, 1) := by decide +kernel
theorem dX9_lay_92 : decode cX9_lay 92 = .ok (.iload 5, 2) := by decide +kernel
theorem dX9_lay_94 : decode cX9_lay 94 = .ok (.iconst (-1), 1) := by decide +kernel
theorem dX9_lay_95 : decode cX9_lay 95 = .ok (.if_icmp .ne 8, 3) := by decide +kernel
theorem dX9_lay_98 : decode cX9_lay 98 = .ok (.bipush (-5), 2) := by decide +kernel
theorem dX9_lay_100 : decode cX9_lay 100 = .ok (.goto 5, 3) := by decide +kernel
theorem dX9_lay_103 : decode cX9_lay 103 = .ok (.iload 5, 2) := by decide +kernel
theorem dX9_lay_105 : decode cX9_lay 105 = .ok (.ireturn, 1) := by decide +kernel
theorem dX9_rack_0 : decode cX9_rack 0 = .ok (.iload_n 1, 1) := by decide +kernel
theorem dX9_rack_1 : decode cX9_rack 1 = .ok (.ifCond .lt 8, 3) := by decide +kernel
theorem dX9_rack_4 : decode cX9_rack 4 = .ok (.iload_n 1, 1) := by decide +kernel
theorem dX9_rack_5 : decode cX9_rack 5 = .ok (.iconst 3, 1) := by decide +kernel
theorem dX9_rack_6 : decode cX9_rack 6 = .ok (.if_icmp .lt 5, 3) := by decide +kernel
theorem dX9_rack_9 : decode cX9_rack 9 = .ok (.iconst (-1), 1) := by decide +kernel
theorem dX9_rack_10 : decode cX9_rack 10 = .ok (.ireturn, 1) := by decide +kernel
theorem dX9_rack_11 : decode cX9_rack 11 = .ok (.iload_n 2, 1) := by decide +kernel
theorem dX9_rack_12 : decode cX9_rack 12 = .ok (.invokestatic 99, 3) := by decide +kernel
theorem dX9_rack_15 : decode cX9_rack 15 = .ok (.ifCond .eq 14, 3) := by decide +kernel
theorem dX9_rack_18 : decode cX9_rack 18 = .ok (.aload_n 0, 1) := by decide +kernel
theorem dX9_rack_19 : decode cX9_rack 19 = .ok (.aload_n 0, 1) := by decide +kernel
theorem dX9_rack_20 : decode cX9_rack 20 = .ok (.iload_n 1, 1) := by decide +kernel
theorem dX9_rack_21 : decode cX9_rack 21 = .ok (.invokevirtual 139, 3) := by decide +kernel
theorem dX9_rack_24 : decode cX9_rack 24 = .ok (.iload_n 2, 1) := by decide +kernel
theorem dX9_rack_25 : decode cX9_rack 25 = .ok (.invokevirtual 129, 3) := by decide +kernel
theorem dX9_rack_28 : decode cX9_rack 28 = .ok (.ireturn, 1) := by decide +kernel
theorem dX9_rack_29 : decode cX9_rack 29 = .ok (.iload_n 2, 1) := by decide +kernel
theorem dX9_rack_30 : decode cX9_rack 30 = .ok (.bipush 10, 2) := by decide +kernel
theorem dX9_rack_32 : decode cX9_rack 32 = .ok (.if_icmp .lt 9, 3) := by decide +kernel
theorem dX9_rack_35 : decode cX9_rack 35 = .ok (.iload_n 2, 1) := by decide +kernel
theorem dX9_rack_36 : decode cX9_rack 36 = .ok (.bipush 13, 2) := by decide +kernel
theorem dX9_rack_38 : decode cX9_rack 38 = .ok (.if_icmp .lt 5, 3) := by decide +kernel
theorem dX9_rack_41 : decode cX9_rack 41 = .ok (.iconst (-1), 1) := by decide +kernel
theorem dX9_rack_42 : decode cX9_rack 42 = .ok (.ireturn, 1) := by decide +kernel
theorem dX9_rack_43 : decode cX9_rack 43 = .ok (.aload_n 0, 1) := by decide +kernel
theorem dX9_rack_44 : decode cX9_rack 44 = .ok (.getfield 12, 3) := by decide +kernel
theorem dX9_rack_47 : decode cX9_rack 47 = .ok (.getfield 136, 3) := by decide +kernel
theorem dX9_rack_50 : decode cX9_rack 50 = .ok (.iload_n 1, 1) := by decide +kernel
theorem dX9_rack_51 : decode cX9_rack 51 = .ok (.iconst 3, 1) := by decide +kernel
theorem dX9_rack_52 : decode cX9_rack 52 = .ok (.imul, 1) := by decide +kernel
theorem dX9_rack_53 : decode cX9_rack 53 = .ok (.iload_n 2, 1) := by decide +kernel
theorem dX9_rack_54 : decode cX9_rack 54 = .ok (.iadd, 1) := by decide +kernel
theorem dX9_rack_55 : decode cX9_rack 55 = .ok (.bipush 10, 2) := by decide +kernel
theorem dX9_rack_57 : decode cX9_rack 57 = .ok (.isub, 1) := by decide +kernel
theorem dX9_rack_58 : decode cX9_rack 58 = .ok (.iaload, 1) := by decide +kernel
theorem dX9_rack_59 : decode cX9_rack 59 = .ok (.istore_n 3, 1) := by decide +kernel
theorem dX9_rack_60 : decode cX9_rack 60 = .ok (.iload_n 3, 1) := by decide +kernel
theorem dX9_rack_61 : decode cX9_rack 61 = .ok (.iconst (-1), 1) := by decide +kernel
theorem dX9_rack_62 : decode cX9_rack 62 = .ok (.if_icmp .ne 8, 3) := by decide +kernel
theorem dX9_rack_65 : decode cX9_rack 65 = .ok (.bipush (-5), 2) := by decide +kernel
theorem dX9_rack_67 : decode cX9_rack 67 = .ok (.goto 4, 3) := by decide +kernel
theorem dX9_rack_70 : decode cX9_rack 70 = .ok (.iload_n 3, 1) := by decide +kernel
theorem dX9_rack_71 : decode cX9_rack 71 = .ok (.ireturn, 1) := by decide +kernel
theorem dX9_move_0 : decode cX9_move 0 = .ok (.iload_n 1, 1) := by decide +kernel
theorem dX9_move_1 : decode cX9_move 1 = .ok (.ifCond .lt 14, 3) := by decide +kernel
theorem dX9_move_4 : decode cX9_move 4 = .ok (.iload_n 1, 1) := by decide +kernel
theorem dX9_move_5 : decode cX9_move 5 = .ok (.aload_n 0, 1) := by decide +kernel
theorem dX9_move_6 : decode cX9_move 6 = .ok (.getfield 24, 3) := by decide +kernel
theorem dX9_move_9 : decode cX9_move 9 = .ok (.getfield 142, 3) := by decide +kernel
theorem dX9_move_12 : decode cX9_move 12 = .ok (.if_icmp .lt 5, 3) := by decide +kernel
theorem dX9_move_15 : decode cX9_move 15 = .ok (.iconst (-1), 1) := by decide +kernel
theorem dX9_move_16 : decode cX9_move 16 = .ok (.ireturn, 1) := by decide +kernel
theorem dX9_move_17 : decode cX9_move 17 = .ok (.aload_n 0, 1) := by decide +kernel
theorem dX9_move_18 : decode cX9_move 18 = .ok (.aload_n 0, 1) := by decide +kernel
theorem dX9_move_19 : decode cX9_move 19 = .ok (.getfield 24, 3) := by decide +kernel
theorem dX9_move_22 : decode cX9_move 22 = .ok (.getfield 145, 3) := by decide +kernel
theorem dX9_move_25 : decode cX9_move 25 = .ok (.iload_n 1, 1) := by decide +kernel
theorem dX9_move_26 : decode cX9_move 26 = .ok (.iaload, 1) := by decide +kernel
theorem dX9_move_27 : decode cX9_move 27 = .ok (.iload_n 2, 1) := by decide +kernel
theorem dX9_move_28 : decode cX9_move 28 = .ok (.invokevirtual 129, 3) := by decide +kernel
theorem dX9_move_31 : decode cX9_move 31 = .ok (.ireturn, 1) := by decide +kernel
theorem dX9_told_0 : decode cX9_told 0 = .ok (.iload_n 1, 1) := by decide +kernel
theorem dX9_told_1 : decode cX9_told 1 = .ok (.tableswitch 120 0 8 #[51, 59, 67, 75, 83, 91, 96, 102, 108], 51) := by decide +kernel
theorem dX9_told_52 : decode cX9_told 52 = .ok (.aload_n 0, 1) := by decide +kernel
theorem dX9_told_53 : decode cX9_told 53 = .ok (.getfield 12, 3) := by decide +kernel
theorem dX9_told_56 : decode cX9_told 56 = .ok (.getfield 69, 3) := by decide +kernel
theorem dX9_told_59 : decode cX9_told 59 = .ok (.ireturn, 1) := by decide +kernel
theorem dX9_told_60 : decode cX9_told 60 = .ok (.aload_n 0, 1) := by decide +kernel
theorem dX9_told_61 : decode cX9_told 61 = .ok (.getfield 12, 3) := by decide +kernel
theorem dX9_told_64 : decode cX9_told 64 = .ok (.getfield 86, 3) := by decide +kernel
theorem dX9_told_67 : decode cX9_told 67 = .ok (.ireturn, 1) := by decide +kernel
theorem dX9_told_68 : decode cX9_told 68 = .ok (.aload_n 0, 1) := by decide +kernel
theorem dX9_told_69 : decode cX9_told 69 = .ok (.getfield 12, 3) := by decide +kernel
theorem dX9_told_72 : decode cX9_told 72 = .ok (.getfield 77, 3) := by decide +kernel
theorem dX9_told_75 : decode cX9_told 75 = .ok (.ireturn, 1) := by decide +kernel
theorem dX9_told_76 : decode cX9_told 76 = .ok (.aload_n 0, 1) := by decide +kernel
theorem dX9_told_77 : decode cX9_told 77 = .ok (.getfield 24, 3) := by decide +kernel
theorem dX9_told_80 : decode cX9_told 80 = .ok (.getfield 142, 3) := by decide +kernel
theorem dX9_told_83 : decode cX9_told 83 = .ok (.ireturn, 1) := by decide +kernel
theorem dX9_told_84 : decode cX9_told 84 = .ok (.aload_n 0, 1) := by decide +kernel
theorem dX9_told_85 : decode cX9_told 85 = .ok (.getfield 24, 3) := by decide +kernel
theorem dX9_told_88 : decode cX9_told 88 = .ok (.getfield 148, 3) := by decide +kernel
theorem dX9_told_91 : decode cX9_told 91 = .ok (.ireturn, 1) := by decide +kernel
theorem dX9_told_92 : decode cX9_told 92 = .ok (.aload_n 0, 1) := by decide +kernel
theorem dX9_told_93 : decode cX9_told 93 = .ok (.invokevirtual 151, 3) := by decide +kernel
theorem dX9_told_96 : decode cX9_told 96 = .ok (.ireturn, 1) := by decide +kernel
theorem dX9_told_97 : decode cX9_told 97 = .ok (.aload_n 0, 1) := by decide +kernel
theorem dX9_told_98 : decode cX9_told 98 = .ok (.iconst 0, 1) := by decide +kernel
theorem dX9_told_99 : decode cX9_told 99 = .ok (.invokevirtual 155, 3) := by decide +kernel
theorem dX9_told_102 : decode cX9_told 102 = .ok (.ireturn, 1) := by decide +kernel
theorem dX9_told_103 : decode cX9_told 103 = .ok (.aload_n 0, 1) := by decide +kernel
theorem dX9_told_104 : decode cX9_told 104 = .ok (.iconst 1, 1) := by decide +kernel
theorem dX9_told_105 : decode cX9_told 105 = .ok (.invokevirtual 155, 3) := by decide +kernel
theorem dX9_told_108 : decode cX9_told 108 = .ok (.ireturn, 1) := by decide +kernel
theorem dX9_told_109 : decode cX9_told 109 = .ok (.aload_n 0, 1) := by decide +kernel
theorem dX9_told_110 : decode cX9_told 110 = .ok (.iconst 0, 1) := by decide +kernel
theorem dX9_told_111 : decode cX9_told 111 = .ok (.invokevirtual 155, 3) := by decide +kernel
theorem dX9_told_114 : decode cX9_told 114 = .ok (.aload_n 0, 1) := by decide +kernel
theorem dX9_told_115 : decode cX9_told 115 = .ok (.iconst 1, 1) := by decide +kernel
theorem dX9_told_116 : decode cX9_told 116 = .ok (.invokevirtual 155, 3) := by decide +kernel
theorem dX9_told_119 : decode cX9_told 119 = .ok (.isub, 1) := by decide +kernel
theorem dX9_told_120 : decode cX9_told 120 = .ok (.ireturn, 1) := by decide +kernel
theorem dX9_told_121 : decode cX9_told 121 = .ok (.iconst (-1), 1) := by decide +kernel
theorem dX9_told_122 : decode cX9_told 122 = .ok (.ireturn, 1) := by decide +kernel
theorem dX9_index_0 : decode cX9_index 0 = .ok (.iload_n 1, 1) := by decide +kernel
theorem dX9_index_1 : decode cX9_index 1 = .ok (.invokestatic 99, 3) := by decide +kernel
theorem dX9_index_4 : decode cX9_index 4 = .ok (.ifCond .ne 5, 3) := by decide +kernel
theorem dX9_index_7 : decode cX9_index 7 = .ok (.iconst (-1), 1) := by decide +kernel
theorem dX9_index_8 : decode cX9_index 8 = .ok (.ireturn, 1) := by decide +kernel
theorem dX9_index_9 : decode cX9_index 9 = .ok (.aload_n 0, 1) := by decide +kernel
theorem dX9_index_10 : decode cX9_index 10 = .ok (.getfield 34, 3) := by decide +kernel
theorem dX9_index_13 : decode cX9_index 13 = .ok (.aload_n 0, 1) := by decide +kernel
theorem dX9_index_14 : decode cX9_index 14 = .ok (.getfield 24, 3) := by decide +kernel
theorem dX9_index_17 : decode cX9_index 17 = .ok (.iload_n 1, 1) := by decide +kernel
theorem dX9_index_18 : decode cX9_index 18 = .ok (.invokevirtual 158, 3) := by decide +kernel
theorem dX9_index_21 : decode cX9_index 21 = .ok (.iload_n 2, 1) := by decide +kernel
theorem dX9_index_22 : decode cX9_index 22 = .ok (.iconst (-1), 1) := by decide +kernel
theorem dX9_index_23 : decode cX9_index 23 = .ok (.if_icmp .ne 11, 3) := by decide +kernel
theorem dX9_index_26 : decode cX9_index 26 = .ok (.aload_n 0, 1) := by decide +kernel
theorem dX9_index_27 : decode cX9_index 27 = .ok (.getfield 34, 3) := by decide +kernel
theorem dX9_index_30 : decode cX9_index 30 = .ok (.getfield 162, 3) := by decide +kernel
theorem dX9_index_33 : decode cX9_index 33 = .ok (.ireturn, 1) := by decide +kernel
theorem dX9_index_34 : decode cX9_index 34 = .ok (.iload_n 2, 1) := by decide +kernel
theorem dX9_index_35 : decode cX9_index 35 = .ok (.ifCond .lt 21, 3) := by decide +kernel
theorem dX9_index_38 : decode cX9_index 38 = .ok (.iload_n 2, 1) := by decide +kernel
theorem dX9_index_39 : decode cX9_index 39 = .ok (.aload_n 0, 1) := by decide +kernel
theorem dX9_index_40 : decode cX9_index 40 = .ok (.getfield 34, 3) := by decide +kernel
theorem dX9_index_43 : decode cX9_index 43 = .ok (.getfield 162, 3) := by decide +kernel
theorem dX9_index_46 : decode cX9_index 46 = .ok (.if_icmp .ge 10, 3) := by decide +kernel
theorem dX9_index_49 : decode cX9_index 49 = .ok (.iload_n 3, 1) := by decide +kernel
theorem dX9_index_50 : decode cX9_index 50 = .ok (.invokestatic 99, 3) := by decide +kernel
theorem dX9_index_53 : decode cX9_index 53 = .ok (.ifCond .ne 5, 3) := by decide +kernel
theorem dX9_index_56 : decode cX9_index 56 = .ok (.iconst (-1), 1) := by decide +kernel
theorem dX9_index_57 : decode cX9_index 57 = .ok (.ireturn, 1) := by decide +kernel
theorem dX9_index_58 : decode cX9_index 58 = .ok (.iload_n 3, 1) := by decide +kernel
theorem dX9_index_59 : decode cX9_index 59 = .ok (.ifCond .ne 15, 3) := by decide +kernel
theorem dX9_index_62 : decode cX9_index 62 = .ok (.aload_n 0, 1) := by decide +kernel
theorem dX9_index_63 : decode cX9_index 63 = .ok (.getfield 34, 3) := by decide +kernel
theorem dX9_index_66 : decode cX9_index 66 = .ok (.getfield 165, 3) := by decide +kernel
theorem dX9_index_69 : decode cX9_index 69 = .ok (.iload_n 2, 1) := by decide +kernel
theorem dX9_index_70 : decode cX9_index 70 = .ok (.iaload, 1) := by decide +kernel
theorem dX9_index_71 : decode cX9_index 71 = .ok (.goto 12, 3) := by decide +kernel
theorem dX9_index_74 : decode cX9_index 74 = .ok (.aload_n 0, 1) := by decide +kernel
theorem dX9_index_75 : decode cX9_index 75 = .ok (.getfield 34, 3) := by decide +kernel
theorem dX9_index_78 : decode cX9_index 78 = .ok (.getfield 168, 3) := by decide +kernel
theorem dX9_index_81 : decode cX9_index 81 = .ok (.iload_n 2, 1) := by decide +kernel
theorem dX9_index_82 : decode cX9_index 82 = .ok (.iaload, 1) := by decide +kernel
theorem dX9_index_83 : decode cX9_index 83 = .ok (.ireturn, 1) := by decide +kernel
theorem dX9_part_0 : decode cX9_part 0 = .ok (.iload_n 1, 1) := by decide +kernel
theorem dX9_part_1 : decode cX9_part 1 = .ok (.invokestatic 99, 3) := by decide +kernel
theorem dX9_part_4 : decode cX9_part 4 = .ok (.ifCond .ne 7, 3) := by decide +kernel
theorem dX9_part_7 : decode cX9_part 7 = .ok (.ldc2_w 171, 3) := by decide +kernel
theorem dX9_part_10 : decode cX9_part 10 = .ok (.lreturn, 1) := by decide +kernel
theorem dX9_part_11 : decode cX9_part 11 = .ok (.aload_n 0, 1) := by decide +kernel
theorem dX9_part_12 : decode cX9_part 12 = .ok (.getfield 34, 3) := by decide +kernel
theorem dX9_part_15 : decode cX9_part 15 = .ok (.aload_n 0, 1) := by decide +kernel
theorem dX9_part_16 : decode cX9_part 16 = .ok (.getfield 24, 3) := by decide +kernel
theorem dX9_part_19 : decode cX9_part 19 = .ok (.iload_n 1, 1) := by decide +kernel
theorem dX9_part_20 : decode cX9_part 20 = .ok (.invokevirtual 158, 3) := by decide +kernel
theorem dX9_part_23 : decode cX9_part 23 = .ok (.iload_n 2, 1) := by decide +kernel
theorem dX9_part_24 : decode cX9_part 24 = .ok (.ifCond .lt 21, 3) := by decide +kernel
theorem dX9_part_27 : decode cX9_part 27 = .ok (.iload_n 2, 1) := by decide +kernel
theorem dX9_part_28 : decode cX9_part 28 = .ok (.aload_n 0, 1) := by decide +kernel
theorem dX9_part_29 : decode cX9_part 29 = .ok (.getfield 34, 3) := by decide +kernel
theorem dX9_part_32 : decode cX9_part 32 = .ok (.getfield 162, 3) := by decide +kernel
theorem dX9_part_35 : decode cX9_part 35 = .ok (.if_icmp .ge 10, 3) := by decide +kernel
theorem dX9_part_38 : decode cX9_part 38 = .ok (.iload_n 3, 1) := by decide +kernel
theorem dX9_part_39 : decode cX9_part 39 = .ok (.invokestatic 99, 3) := by decide +kernel
theorem dX9_part_42 : decode cX9_part 42 = .ok (.ifCond .ne 7, 3) := by decide +kernel
theorem dX9_part_45 : decode cX9_part 45 = .ok (.ldc2_w 171, 3) := by decide +kernel
theorem dX9_part_48 : decode cX9_part 48 = .ok (.lreturn, 1) := by decide +kernel
theorem dX9_part_49 : decode cX9_part 49 = .ok (.aload_n 0, 1) := by decide +kernel
theorem dX9_part_50 : decode cX9_part 50 = .ok (.getfield 34, 3) := by decide +kernel
theorem dX9_part_53 : decode cX9_part 53 = .ok (.getfield 168, 3) := by decide +kernel
theorem dX9_part_56 : decode cX9_part 56 = .ok (.iload_n 2, 1) := by decide +kernel
theorem dX9_part_57 : decode cX9_part 57 = .ok (.iaload, 1) := by decide +kernel
theorem dX9_part_58 : decode cX9_part 58 = .ok (.aload_n 0, 1) := by decide +kernel
theorem dX9_part_59 : decode cX9_part 59 = .ok (.getfield 34, 3) := by decide +kernel
theorem dX9_part_62 : decode cX9_part 62 = .ok (.getfield 173, 3) := by decide +kernel
theorem dX9_part_65 : decode cX9_part 65 = .ok (.invokestatic 175, 3) := by decide +kernel
theorem dX9_part_68 : decode cX9_part 68 = .ok (.istore 4, 2) := by decide +kernel
theorem dX9_part_70 : decode cX9_part 70 = .ok (.iload_n 3, 1) := by decide +kernel
theorem dX9_part_71 : decode cX9_part 71 = .ok (.ifCond .ne 15, 3) := by decide +kernel
theorem dX9_part_74 : decode cX9_part 74 = .ok (.aload_n 0, 1) := by decide +kernel
theorem dX9_part_75 : decode cX9_part 75 = .ok (.getfield 34, 3) := by decide +kernel
theorem dX9_part_78 : decode cX9_part 78 = .ok (.getfield 168, 3) := by decide +kernel
theorem dX9_part_81 : decode cX9_part 81 = .ok (.iload_n 2, 1) := by decide +kernel
theorem dX9_part_82 : decode cX9_part 82 = .ok (.iaload, 1) := by decide +kernel
theorem dX9_part_83 : decode cX9_part 83 = .ok (.goto 10, 3) := by decide +kernel
theorem dX9_part_86 : decode cX9_part 86 = .ok (.aload_n 0, 1) := by decide +kernel
theorem dX9_part_87 : decode cX9_part 87 = .ok (.getfield 34, 3) := by decide +kernel
theorem dX9_part_90 : decode cX9_part 90 = .ok (.getfield 173, 3) := by decide +kernel
theorem dX9_part_93 : decode cX9_part 93 = .ok (.istore 5, 2) := by decide +kernel
theorem dX9_part_95 : decode cX9_part 95 = .ok (.iload 4, 2) := by decide +kernel
theorem dX9_part_97 : decode cX9_part 97 = .ok (.ifCond .le 12, 3) := by decide +kernel
theorem dX9_part_100 : decode cX9_part 100 = .ok (.iload 5, 2) := by decide +kernel
theorem dX9_part_102 : decode cX9_part 102 = .ok (.iload 4, 2) := by decide +kernel
theorem dX9_part_104 : decode cX9_part 104 = .ok (.idiv, 1) := by decide +kernel
theorem dX9_part_105 : decode cX9_part 105 = .ok (.i2l, 1) := by decide +kernel
theorem dX9_part_106 : decode cX9_part 106 = .ok (.goto 6, 3) := by decide +kernel
theorem dX9_part_109 : decode cX9_part 109 = .ok (.iload 5, 2) := by decide +kernel
theorem dX9_part_111 : decode cX9_part 111 = .ok (.i2l, 1) := by decide +kernel
theorem dX9_part_112 : decode cX9_part 112 = .ok (.lreturn, 1) := by decide +kernel
theorem dX9_many_0 : decode cX9_many 0 = .ok (.iload_n 1, 1) := by decide +kernel
theorem dX9_many_1 : decode cX9_many 1 = .ok (.invokestatic 99, 3) := by decide +kernel
theorem dX9_many_4 : decode cX9_many 4 = .ok (.ifCond .eq 13, 3) := by decide +kernel
theorem dX9_many_7 : decode cX9_many 7 = .ok (.iload_n 2, 1) := by decide +kernel
theorem dX9_many_8 : decode cX9_many 8 = .ok (.ifCond .lt 9, 3) := by decide +kernel
theorem dX9_many_11 : decode cX9_many 11 = .ok (.iload_n 2, 1) := by decide +kernel
theorem dX9_many_12 : decode cX9_many 12 = .ok (.bipush 9, 2) := by decide +kernel
theorem dX9_many_14 : decode cX9_many 14 = .ok (.if_icmp .le 7, 3) := by decide +kernel
theorem dX9_many_17 : decode cX9_many 17 = .ok (.ldc2_w 171, 3) := by decide +kernel
theorem dX9_many_20 : decode cX9_many 20 = .ok (.lreturn, 1) := by decide +kernel
theorem dX9_many_21 : decode cX9_many 21 = .ok (.aload_n 0, 1) := by decide +kernel
theorem dX9_many_22 : decode cX9_many 22 = .ok (.getfield 34, 3) := by decide +kernel
theorem dX9_many_25 : decode cX9_many 25 = .ok (.aload_n 0, 1) := by decide +kernel
theorem dX9_many_26 : decode cX9_many 26 = .ok (.getfield 24, 3) := by decide +kernel
theorem dX9_many_29 : decode cX9_many 29 = .ok (.iload_n 1, 1) := by decide +kernel
theorem dX9_many_30 : decode cX9_many 30 = .ok (.invokevirtual 158, 3) := by decide +kernel
theorem dX9_many_33 : decode cX9_many 33 = .ok (.aload_n 0, 1) := by decide +kernel
theorem dX9_many_34 : decode cX9_many 34 = .ok (.getfield 34, 3) := by decide +kernel
theorem dX9_many_37 : decode cX9_many 37 = .ok (.iload_n 2, 1) := by decide +kernel
theorem dX9_many_38 : decode cX9_many 38 = .ok (.invokevirtual 178, 3) := by decide +kernel
theorem dX9_many_41 : decode cX9_many 41 = .ok (.lreturn, 1) := by decide +kernel
theorem dX9_least_0 : decode cX9_least 0 = .ok (.iload_n 1, 1) := by decide +kernel
theorem dX9_least_1 : decode cX9_least 1 = .ok (.invokestatic 99, 3) := by decide +kernel
theorem dX9_least_4 : decode cX9_least 4 = .ok (.ifCond .ne 5, 3) := by decide +kernel
theorem dX9_least_7 : decode cX9_least 7 = .ok (.iconst (-1), 1) := by decide +kernel
theorem dX9_least_8 : decode cX9_least 8 = .ok (.ireturn, 1) := by decide +kernel
theorem dX9_least_9 : decode cX9_least 9 = .ok (.aload_n 0, 1) := by decide +kernel
theorem dX9_least_10 : decode cX9_least 10 = .ok (.iload_n 2, 1) := by decide +kernel
theorem dX9_least_11 : decode cX9_least 11 = .ok (.invokevirtual 182, 3) := by decide +kernel
theorem dX9_least_14 : decode cX9_least 14 = .ok (.istore_n 3, 1) := by decide +kernel
theorem dX9_least_15 : decode cX9_least 15 = .ok (.iload_n 3, 1) := by decide +kernel
theorem dX9_least_16 : decode cX9_least 16 = .ok (.ifCond .ge 6, 3) := by decide +kernel
theorem dX9_least_19 : decode cX9_least 19 = .ok (.bipush (-2), 2) := by decide +kernel
theorem dX9_least_21 : decode cX9_least 21 = .ok (.ireturn, 1) := by decide +kernel
theorem dX9_least_22 : decode cX9_least 22 = .ok (.aload_n 0, 1) := by decide +kernel
theorem dX9_least_23 : decode cX9_least 23 = .ok (.aload_n 0, 1) := by decide +kernel
theorem dX9_least_24 : decode cX9_least 24 = .ok (.getfield 24, 3) := by decide +kernel
theorem dX9_least_27 : decode cX9_least 27 = .ok (.iload_n 3, 1) := by decide +kernel
theorem dX9_least_28 : decode cX9_least 28 = .ok (.iconst 0, 1) := by decide +kernel
theorem dX9_least_29 : decode cX9_least 29 = .ok (.iload_n 1, 1) := by decide +kernel
theorem dX9_least_30 : decode cX9_least 30 = .ok (.invokevirtual 185, 3) := by decide +kernel
theorem dX9_least_33 : decode cX9_least 33 = .ok (.invokevirtual 189, 3) := by decide +kernel
theorem dX9_least_36 : decode cX9_least 36 = .ok (.ireturn, 1) := by decide +kernel
theorem dX9_size_0 : decode cX9_size 0 = .ok (.iload_n 1, 1) := by decide +kernel
theorem dX9_size_1 : decode cX9_size 1 = .ok (.invokestatic 99, 3) := by decide +kernel
theorem dX9_size_4 : decode cX9_size 4 = .ok (.ifCond .ne 5, 3) := by decide +kernel
theorem dX9_size_7 : decode cX9_size 7 = .ok (.iconst (-1), 1) := by decide +kernel
theorem dX9_size_8 : decode cX9_size 8 = .ok (.ireturn, 1) := by decide +kernel
theorem dX9_size_9 : decode cX9_size 9 = .ok (.aload_n 0, 1) := by decide +kernel
theorem dX9_size_10 : decode cX9_size 10 = .ok (.iload_n 2, 1) := by decide +kernel
theorem dX9_size_11 : decode cX9_size 11 = .ok (.invokevirtual 182, 3) := by decide +kernel
theorem dX9_size_14 : decode cX9_size 14 = .ok (.istore_n 3, 1) := by decide +kernel
theorem dX9_size_15 : decode cX9_size 15 = .ok (.iload_n 3, 1) := by decide +kernel
theorem dX9_size_16 : decode cX9_size 16 = .ok (.ifCond .ge 8, 3) := by decide +kernel
theorem dX9_size_19 : decode cX9_size 19 = .ok (.bipush (-2), 2) := by decide +kernel
theorem dX9_size_21 : decode cX9_size 21 = .ok (.goto 12, 3) := by decide +kernel
theorem dX9_size_24 : decode cX9_size 24 = .ok (.aload_n 0, 1) := by decide +kernel
theorem dX9_size_25 : decode cX9_size 25 = .ok (.getfield 24, 3) := by decide +kernel
theorem dX9_size_28 : decode cX9_size 28 = .ok (.iload_n 3, 1) := by decide +kernel
theorem dX9_size_29 : decode cX9_size 29 = .ok (.iload_n 1, 1) := by decide +kernel
theorem dX9_size_30 : decode cX9_size 30 = .ok (.invokevirtual 192, 3) := by decide +kernel
theorem dX9_size_33 : decode cX9_size 33 = .ok (.ireturn, 1) := by decide +kernel
theorem dX9_kindOf_0 : decode cX9_kindOf 0 = .ok (.iload_n 1, 1) := by decide +kernel
theorem dX9_kindOf_1 : decode cX9_kindOf 1 = .ok (.invokestatic 99, 3) := by decide +kernel
theorem dX9_kindOf_4 : decode cX9_kindOf 4 = .ok (.ifCond .eq 7, 3) := by decide +kernel
theorem dX9_kindOf_7 : decode cX9_kindOf 7 = .ok (.iload_n 2, 1) := by decide +kernel
theorem dX9_kindOf_8 : decode cX9_kindOf 8 = .ok (.ifCond .ge 5, 3) := by decide +kernel
theorem dX9_kindOf_11 : decode cX9_kindOf 11 = .ok (.iconst (-1), 1) := by decide +kernel
theorem dX9_kindOf_12 : decode cX9_kindOf 12 = .ok (.ireturn, 1) := by decide +kernel
theorem dX9_kindOf_13 : decode cX9_kindOf 13 = .ok (.aload_n 0, 1) := by decide +kernel
theorem dX9_kindOf_14 : decode cX9_kindOf 14 = .ok (.iload_n 1, 1) := by decide +kernel
theorem dX9_kindOf_15 : decode cX9_kindOf 15 = .ok (.invokevirtual 195, 3) := by decide +kernel
theorem dX9_kindOf_18 : decode cX9_kindOf 18 = .ok (.astore 4, 2) := by decide +kernel
theorem dX9_kindOf_20 : decode cX9_kindOf 20 = .ok (.iload_n 2, 1) := by decide +kernel
theorem dX9_kindOf_21 : decode cX9_kindOf 21 = .ok (.aload 4, 2) := by decide +kernel
theorem dX9_kindOf_23 : decode cX9_kindOf 23 = .ok (.getfield 199, 3) := by decide +kernel
theorem dX9_kindOf_26 : decode cX9_kindOf 26 = .ok (.if_icmp .lt 5, 3) := by decide +kernel
theorem dX9_kindOf_29 : decode cX9_kindOf 29 = .ok (.iconst (-1), 1) := by decide +kernel
theorem dX9_kindOf_30 : decode cX9_kindOf 30 = .ok (.ireturn, 1) := by decide +kernel
theorem dX9_kindOf_31 : decode cX9_kindOf 31 = .ok (.aload 4, 2) := by decide +kernel
theorem dX9_kindOf_33 : decode cX9_kindOf 33 = .ok (.getfield 202, 3) := by decide +kernel
theorem dX9_kindOf_36 : decode cX9_kindOf 36 = .ok (.iload_n 2, 1) := by decide +kernel
theorem dX9_kindOf_37 : decode cX9_kindOf 37 = .ok (.iaload, 1) := by decide +kernel
theorem dX9_kindOf_38 : decode cX9_kindOf 38 = .ok (.istore 5, 2) := by decide +kernel
theorem dX9_kindOf_40 : decode cX9_kindOf 40 = .ok (.iload_n 3, 1) := by decide +kernel
theorem dX9_kindOf_41 : decode cX9_kindOf 41 = .ok (.tableswitch 72 0 3 #[31, 38, 49, 59], 31) := by decide +kernel
theorem dX9_kindOf_72 : decode cX9_kindOf 72 = .ok (.aload_n 0, 1) := by decide +kernel
theorem dX9_kindOf_73 : decode cX9_kindOf 73 = .ok (.iload 5, 2) := by decide +kernel
theorem dX9_kindOf_75 : decode cX9_kindOf 75 = .ok (.invokevirtual 189, 3) := by decide +kernel
theorem dX9_kindOf_78 : decode cX9_kindOf 78 = .ok (.ireturn, 1) := by decide +kernel
theorem dX9_kindOf_79 : decode cX9_kindOf 79 = .ok (.aload_n 0, 1) := by decide +kernel
theorem dX9_kindOf_80 : decode cX9_kindOf 80 = .ok (.getfield 24, 3) := by decide +kernel
theorem dX9_kindOf_83 : decode cX9_kindOf 83 = .ok (.iload 5, 2) := by decide +kernel
theorem dX9_kindOf_85 : decode cX9_kindOf 85 = .ok (.iload_n 1, 1) := by decide +kernel
theorem dX9_kindOf_86 : decode cX9_kindOf 86 = .ok (.invokevirtual 192, 3) := by decide +kernel
theorem dX9_kindOf_89 : decode cX9_kindOf 89 = .ok (.ireturn, 1) := by decide +kernel
theorem dX9_kindOf_90 : decode cX9_kindOf 90 = .ok (.aload_n 0, 1) := by decide +kernel
theorem dX9_kindOf_91 : decode cX9_kindOf 91 = .ok (.getfield 12, 3) := by decide +kernel
theorem dX9_kindOf_94 : decode cX9_kindOf 94 = .ok (.iload 5, 2) := by decide +kernel
theorem dX9_kindOf_96 : decode cX9_kindOf 96 = .ok (.invokevirtual 205, 3) := by decide +kernel
theorem dX9_kindOf_99 : decode cX9_kindOf 99 = .ok (.ireturn, 1) := by decide +kernel
theorem dX9_kindOf_100 : decode cX9_kindOf 100 = .ok (.iload 5, 2) := by decide +kernel
theorem dX9_kindOf_102 : decode cX9_kindOf 102 = .ok (.aload_n 0, 1) := by decide +kernel
theorem dX9_kindOf_103 : decode cX9_kindOf 103 = .ok (.getfield 12, 3) := by decide +kernel
theorem dX9_kindOf_106 : decode cX9_kindOf 106 = .ok (.getfield 69, 3) := by decide +kernel
theorem dX9_kindOf_109 : decode cX9_kindOf 109 = .ok (.invokestatic 208, 3) := by decide +kernel
theorem dX9_kindOf_112 : decode cX9_kindOf 112 = .ok (.ireturn, 1) := by decide +kernel
theorem dX9_kindOf_113 : decode cX9_kindOf 113 = .ok (.iconst (-1), 1) := by decide +kernel
theorem dX9_kindOf_114 : decode cX9_kindOf 114 = .ok (.ireturn, 1) := by decide +kernel
theorem dX9_heavy_0 : decode cX9_heavy 0 = .ok (.iload_n 1, 1) := by decide +kernel
theorem dX9_heavy_1 : decode cX9_heavy 1 = .ok (.invokestatic 99, 3) := by decide +kernel
theorem dX9_heavy_4 : decode cX9_heavy 4 = .ok (.ifCond .ne 5, 3) := by decide +kernel
theorem dX9_heavy_7 : decode cX9_heavy 7 = .ok (.iconst (-1), 1) := by decide +kernel
theorem dX9_heavy_8 : decode cX9_heavy 8 = .ok (.ireturn, 1) := by decide +kernel
theorem dX9_heavy_9 : decode cX9_heavy 9 = .ok (.iload_n 2, 1) := by decide +kernel
theorem dX9_heavy_10 : decode cX9_heavy 10 = .ok (.ifCond .lt 9, 3) := by decide +kernel
theorem dX9_heavy_13 : decode cX9_heavy 13 = .ok (.iload_n 2, 1) := by decide +kernel
theorem dX9_heavy_14 : decode cX9_heavy 14 = .ok (.bipush 99, 2) := by decide +kernel
theorem dX9_heavy_16 : decode cX9_heavy 16 = .ok (.if_icmp .le 6, 3) := by decide +kernel
theorem dX9_heavy_19 : decode cX9_heavy 19 = .ok (.bipush (-2), 2) := by decide +kernel
theorem dX9_heavy_21 : decode cX9_heavy 21 = .ok (.ireturn, 1) := by decide +kernel
theorem dX9_heavy_22 : decode cX9_heavy 22 = .ok (.aload_n 0, 1) := by decide +kernel
theorem dX9_heavy_23 : decode cX9_heavy 23 = .ok (.iload_n 1, 1) := by decide +kernel
theorem dX9_heavy_24 : decode cX9_heavy 24 = .ok (.invokevirtual 195, 3) := by decide +kernel
theorem dX9_heavy_27 : decode cX9_heavy 27 = .ok (.astore_n 3, 1) := by decide +kernel
theorem dX9_heavy_28 : decode cX9_heavy 28 = .ok (.iconst 0, 1) := by decide +kernel
theorem dX9_heavy_29 : decode cX9_heavy 29 = .ok (.istore 4, 2) := by decide +kernel
theorem dX9_heavy_31 : decode cX9_heavy 31 = .ok (.iconst 0, 1) := by decide +kernel
theorem dX9_heavy_32 : decode cX9_heavy 32 = .ok (.istore 5, 2) := by decide +kernel
theorem dX9_heavy_34 : decode cX9_heavy 34 = .ok (.iload 5, 2) := by decide +kernel
theorem dX9_heavy_36 : decode cX9_heavy 36 = .ok (.aload_n 3, 1) := by decide +kernel
theorem dX9_heavy_37 : decode cX9_heavy 37 = .ok (.getfield 199, 3) := by decide +kernel
theorem dX9_heavy_40 : decode cX9_heavy 40 = .ok (.if_icmp .ge 30, 3) := by decide +kernel
theorem dX9_heavy_43 : decode cX9_heavy 43 = .ok (.aload_n 0, 1) := by decide +kernel
theorem dX9_heavy_44 : decode cX9_heavy 44 = .ok (.getfield 12, 3) := by decide +kernel
theorem dX9_heavy_47 : decode cX9_heavy 47 = .ok (.aload_n 3, 1) := by decide +kernel
theorem dX9_heavy_48 : decode cX9_heavy 48 = .ok (.getfield 202, 3) := by decide +kernel
theorem dX9_heavy_51 : decode cX9_heavy 51 = .ok (.iload 5, 2) := by decide +kernel
theorem dX9_heavy_53 : decode cX9_heavy 53 = .ok (.iaload, 1) := by decide +kernel
theorem dX9_heavy_54 : decode cX9_heavy 54 = .ok (.invokevirtual 205, 3) := by decide +kernel
theorem dX9_heavy_57 : decode cX9_heavy 57 = .ok (.iload_n 2, 1) := by decide +kernel
theorem dX9_heavy_58 : decode cX9_heavy 58 = .ok (.if_icmp .ne 6, 3) := by decide +kernel
theorem dX9_heavy_61 : decode cX9_heavy 61 = .ok (.iinc 4 1, 3) := by decide +kernel
theorem dX9_heavy_64 : decode cX9_heavy 64 = .ok (.iinc 5 1, 3) := by decide +kernel
theorem dX9_heavy_67 : decode cX9_heavy 67 = .ok (.goto (-33), 3) := by decide +kernel
theorem dX9_heavy_70 : decode cX9_heavy 70 = .ok (.iload 4, 2) := by decide +kernel
theorem dX9_heavy_72 : decode cX9_heavy 72 = .ok (.ireturn, 1) := by decide +kernel
theorem dX9_use_0 : decode cX9_use 0 = .ok (.iload_n 1, 1) := by decide +kernel
theorem dX9_use_1 : decode cX9_use 1 = .ok (.invokestatic 99, 3) := by decide +kernel
theorem dX9_use_4 : decode cX9_use 4 = .ok (.ifCond .ne 5, 3) := by decide +kernel
theorem dX9_use_7 : decode cX9_use 7 = .ok (.iconst (-1), 1) := by decide +kernel
theorem dX9_use_8 : decode cX9_use 8 = .ok (.ireturn, 1) := by decide +kernel
theorem dX9_use_9 : decode cX9_use 9 = .ok (.iload_n 2, 1) := by decide +kernel
theorem dX9_use_10 : decode cX9_use 10 = .ok (.ifCond .lt 10, 3) := by decide +kernel
theorem dX9_use_13 : decode cX9_use 13 = .ok (.iload_n 2, 1) := by decide +kernel
theorem dX9_use_14 : decode cX9_use 14 = .ok (.sipush 9999, 3) := by decide +kernel
theorem dX9_use_17 : decode cX9_use 17 = .ok (.if_icmp .le 6, 3) := by decide +kernel
theorem dX9_use_20 : decode cX9_use 20 = .ok (.bipush (-2), 2) := by decide +kernel
theorem dX9_use_22 : decode cX9_use 22 = .ok (.ireturn, 1) := by decide +kernel
theorem dX9_use_23 : decode cX9_use 23 = .ok (.aload_n 0, 1) := by decide +kernel
theorem dX9_use_24 : decode cX9_use 24 = .ok (.iload_n 1, 1) := by decide +kernel
theorem dX9_use_25 : decode cX9_use 25 = .ok (.invokevirtual 195, 3) := by decide +kernel
theorem dX9_use_28 : decode cX9_use 28 = .ok (.astore_n 3, 1) := by decide +kernel
theorem dX9_use_29 : decode cX9_use 29 = .ok (.iconst 0, 1) := by decide +kernel
theorem dX9_use_30 : decode cX9_use 30 = .ok (.istore 4, 2) := by decide +kernel
theorem dX9_use_32 : decode cX9_use 32 = .ok (.iconst 0, 1) := by decide +kernel
theorem dX9_use_33 : decode cX9_use 33 = .ok (.istore 5, 2) := by decide +kernel
theorem dX9_use_35 : decode cX9_use 35 = .ok (.iload 5, 2) := by decide +kernel
theorem dX9_use_37 : decode cX9_use 37 = .ok (.aload_n 3, 1) := by decide +kernel
theorem dX9_use_38 : decode cX9_use 38 = .ok (.getfield 199, 3) := by decide +kernel
theorem dX9_use_41 : decode cX9_use 41 = .ok (.if_icmp .ge 33, 3) := by decide +kernel
theorem dX9_use_44 : decode cX9_use 44 = .ok (.aload_n 3, 1) := by decide +kernel
theorem dX9_use_45 : decode cX9_use 45 = .ok (.getfield 202, 3) := by decide +kernel
theorem dX9_use_48 : decode cX9_use 48 = .ok (.iload 5, 2) := by decide +kernel
theorem dX9_use_50 : decode cX9_use 50 = .ok (.iaload, 1) := by decide +kernel
theorem dX9_use_51 : decode cX9_use 51 = .ok (.aload_n 0, 1) := by decide +kernel
theorem dX9_use_52 : decode cX9_use 52 = .ok (.getfield 12, 3) := by decide +kernel
theorem dX9_use_55 : decode cX9_use 55 = .ok (.getfield 69, 3) := by decide +kernel
theorem dX9_use_58 : decode cX9_use 58 = .ok (.invokestatic 208, 3) := by decide +kernel
theorem dX9_use_61 : decode cX9_use 61 = .ok (.iload_n 2, 1) := by decide +kernel
theorem dX9_use_62 : decode cX9_use 62 = .ok (.if_icmp .ne 6, 3) := by decide +kernel
theorem dX9_use_65 : decode cX9_use 65 = .ok (.iinc 4 1, 3) := by decide +kernel
theorem dX9_use_68 : decode cX9_use 68 = .ok (.iinc 5 1, 3) := by decide +kernel
theorem dX9_use_71 : decode cX9_use 71 = .ok (.goto (-36), 3) := by decide +kernel
theorem dX9_use_74 : decode cX9_use 74 = .ok (.iload 4, 2) := by decide +kernel
theorem dX9_use_76 : decode cX9_use 76 = .ok (.ireturn, 1) := by decide +kernel
theorem dX9_same_0 : decode cX9_same 0 = .ok (.iload_n 1, 1) := by decide +kernel
theorem dX9_same_1 : decode cX9_same 1 = .ok (.invokestatic 99, 3) := by decide +kernel
theorem dX9_same_4 : decode cX9_same 4 = .ok (.ifCond .ne 5, 3) := by decide +kernel
theorem dX9_same_7 : decode cX9_same 7 = .ok (.iconst (-1), 1) := by decide +kernel
theorem dX9_same_8 : decode cX9_same 8 = .ok (.ireturn, 1) := by decide +kernel
theorem dX9_same_9 : decode cX9_same 9 = .ok (.aload_n 0, 1) := by decide +kernel
theorem dX9_same_10 : decode cX9_same 10 = .ok (.iload_n 2, 1) := by decide +kernel
theorem dX9_same_11 : decode cX9_same 11 = .ok (.invokevirtual 182, 3) := by decide +kernel
theorem dX9_same_14 : decode cX9_same 14 = .ok (.istore 4, 2) := by decide +kernel
theorem dX9_same_16 : decode cX9_same 16 = .ok (.aload_n 0, 1) := by decide +kernel
theorem dX9_same_17 : decode cX9_same 17 = .ok (.iload_n 3, 1) := by decide +kernel
theorem dX9_same_18 : decode cX9_same 18 = .ok (.invokevirtual 182, 3) := by decide +kernel
theorem dX9_same_21 : decode cX9_same 21 = .ok (.istore 5, 2) := by decide +kernel
theorem dX9_same_23 : decode cX9_same 23 = .ok (.iload 4, 2) := by decide +kernel
theorem dX9_same_25 : decode cX9_same 25 = .ok (.ifCond .lt 8, 3) := by decide +kernel
theorem dX9_same_28 : decode cX9_same 28 = .ok (.iload 5, 2) := by decide +kernel
theorem dX9_same_30 : decode cX9_same 30 = .ok (.ifCond .ge 6, 3) := by decide +kernel
theorem dX9_same_33 : decode cX9_same 33 = .ok (.bipush (-2), 2) := by decide +kernel
theorem dX9_same_35 : decode cX9_same 35 = .ok (.ireturn, 1) := by decide +kernel
theorem dX9_same_36 : decode cX9_same 36 = .ok (.aload_n 0, 1) := by decide +kernel
theorem dX9_same_37 : decode cX9_same 37 = .ok (.getfield 24, 3) := by decide +kernel
theorem dX9_same_40 : decode cX9_same 40 = .ok (.iload 4, 2) := by decide +kernel
theorem dX9_same_42 : decode cX9_same 42 = .ok (.iload 5, 2) := by decide +kernel
theorem dX9_same_44 : decode cX9_same 44 = .ok (.iload_n 1, 1) := by decide +kernel
theorem dX9_same_45 : decode cX9_same 45 = .ok (.invokevirtual 211, 3) := by decide +kernel
theorem dX9_same_48 : decode cX9_same 48 = .ok (.ifCond .eq 7, 3) := by decide +kernel
theorem dX9_same_51 : decode cX9_same 51 = .ok (.iconst 1, 1) := by decide +kernel
theorem dX9_same_52 : decode cX9_same 52 = .ok (.goto 4, 3) := by decide +kernel
theorem dX9_same_55 : decode cX9_same 55 = .ok (.iconst 0, 1) := by decide +kernel
theorem dX9_same_56 : decode cX9_same 56 = .ok (.ireturn, 1) := by decide +kernel
theorem dX9_handed_0 : decode cX9_handed 0 = .ok (.iload_n 2, 1) := by decide +kernel
theorem dX9_handed_1 : decode cX9_handed 1 = .ok (.invokestatic 99, 3) := by decide +kernel
theorem dX9_handed_4 : decode cX9_handed 4 = .ok (.ifCond .ne 5, 3) := by decide +kernel
theorem dX9_handed_7 : decode cX9_handed 7 = .ok (.iconst (-1), 1) := by decide +kernel
theorem dX9_handed_8 : decode cX9_handed 8 = .ok (.ireturn, 1) := by decide +kernel
theorem dX9_handed_9 : decode cX9_handed 9 = .ok (.aload_n 0, 1) := by decide +kernel
theorem dX9_handed_10 : decode cX9_handed 10 = .ok (.iload_n 1, 1) := by decide +kernel
theorem dX9_handed_11 : decode cX9_handed 11 = .ok (.invokevirtual 182, 3) := by decide +kernel
theorem dX9_handed_14 : decode cX9_handed 14 = .ok (.istore_n 3, 1) := by decide +kernel
