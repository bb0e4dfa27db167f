theorem dX9_handed_15 : decode cX9_handed 15 = .ok (.iload_n 3, 1) := by decide +kernel
theorem dX9_handed_16 : decode cX9_handed 16 = .ok (.ifCond .ge 6, 3) := by decide +kernel
theorem dX9_handed_19 : decode cX9_handed 19 = .ok (.bipush (-2), 2) := by decide +kernel
theorem dX9_handed_21 : decode cX9_handed 21 = .ok (.ireturn, 1) := by decide +kernel
theorem dX9_handed_22 : decode cX9_handed 22 = .ok (.aload_n 0, 1) := by decide +kernel
theorem dX9_handed_23 : decode cX9_handed 23 = .ok (.getfield 24, 3) := by decide +kernel
theorem dX9_handed_26 : decode cX9_handed 26 = .ok (.getfield 148, 3) := by decide +kernel
theorem dX9_handed_29 : decode cX9_handed 29 = .ok (.aload_n 0, 1) := by decide +kernel
theorem dX9_handed_30 : decode cX9_handed 30 = .ok (.getfield 24, 3) := by decide +kernel
theorem dX9_handed_33 : decode cX9_handed 33 = .ok (.getfield 142, 3) := by decide +kernel
theorem dX9_handed_36 : decode cX9_handed 36 = .ok (.if_icmp .ge 7, 3) := by decide +kernel
theorem dX9_handed_39 : decode cX9_handed 39 = .ok (.iconst 1, 1) := by decide +kernel
theorem dX9_handed_40 : decode cX9_handed 40 = .ok (.goto 4, 3) := by decide +kernel
theorem dX9_handed_43 : decode cX9_handed 43 = .ok (.iconst 0, 1) := by decide +kernel
theorem dX9_handed_44 : decode cX9_handed 44 = .ok (.istore 4, 2) := by decide +kernel
theorem dX9_handed_46 : decode cX9_handed 46 = .ok (.aload_n 0, 1) := by decide +kernel
theorem dX9_handed_47 : decode cX9_handed 47 = .ok (.getfield 24, 3) := by decide +kernel
theorem dX9_handed_50 : decode cX9_handed 50 = .ok (.iload_n 3, 1) := by decide +kernel
theorem dX9_handed_51 : decode cX9_handed 51 = .ok (.iconst 1, 1) := by decide +kernel
theorem dX9_handed_52 : decode cX9_handed 52 = .ok (.iconst 1, 1) := by decide +kernel
theorem dX9_handed_53 : decode cX9_handed 53 = .ok (.invokevirtual 185, 3) := by decide +kernel
theorem dX9_handed_56 : decode cX9_handed 56 = .ok (.istore 5, 2) := by decide +kernel
theorem dX9_handed_58 : decode cX9_handed 58 = .ok (.iload_n 2, 1) := by decide +kernel
theorem dX9_handed_59 : decode cX9_handed 59 = .ok (.iconst 1, 1) := by decide +kernel
theorem dX9_handed_60 : decode cX9_handed 60 = .ok (.if_icmp .ne 20, 3) := by decide +kernel
theorem dX9_handed_63 : decode cX9_handed 63 = .ok (.iload 4, 2) := by decide +kernel
theorem dX9_handed_65 : decode cX9_handed 65 = .ok (.ifCond .eq 12, 3) := by decide +kernel
theorem dX9_handed_68 : decode cX9_handed 68 = .ok (.aload_n 0, 1) := by decide +kernel
theorem dX9_handed_69 : decode cX9_handed 69 = .ok (.iload 5, 2) := by decide +kernel
theorem dX9_handed_71 : decode cX9_handed 71 = .ok (.invokevirtual 189, 3) := by decide +kernel
theorem dX9_handed_74 : decode cX9_handed 74 = .ok (.goto 5, 3) := by decide +kernel
theorem dX9_handed_77 : decode cX9_handed 77 = .ok (.bipush (-5), 2) := by decide +kernel
theorem dX9_handed_79 : decode cX9_handed 79 = .ok (.ireturn, 1) := by decide +kernel
theorem dX9_handed_80 : decode cX9_handed 80 = .ok (.iload 4, 2) := by decide +kernel
theorem dX9_handed_82 : decode cX9_handed 82 = .ok (.ifCond .eq 22, 3) := by decide +kernel
theorem dX9_handed_85 : decode cX9_handed 85 = .ok (.iload 5, 2) := by decide +kernel
theorem dX9_handed_87 : decode cX9_handed 87 = .ok (.aload_n 0, 1) := by decide +kernel
theorem dX9_handed_88 : decode cX9_handed 88 = .ok (.getfield 24, 3) := by decide +kernel
theorem dX9_handed_91 : decode cX9_handed 91 = .ok (.iload_n 3, 1) := by decide +kernel
theorem dX9_handed_92 : decode cX9_handed 92 = .ok (.iconst 0, 1) := by decide +kernel
theorem dX9_handed_93 : decode cX9_handed 93 = .ok (.iconst 0, 1) := by decide +kernel
theorem dX9_handed_94 : decode cX9_handed 94 = .ok (.invokevirtual 185, 3) := by decide +kernel
theorem dX9_handed_97 : decode cX9_handed 97 = .ok (.if_icmp .eq 7, 3) := by decide +kernel
theorem dX9_handed_100 : decode cX9_handed 100 = .ok (.iconst 1, 1) := by decide +kernel
theorem dX9_handed_101 : decode cX9_handed 101 = .ok (.goto 4, 3) := by decide +kernel
theorem dX9_handed_104 : decode cX9_handed 104 = .ok (.iconst 0, 1) := by decide +kernel
theorem dX9_handed_105 : decode cX9_handed 105 = .ok (.ireturn, 1) := by decide +kernel
theorem dX9_even_0 : decode cX9_even 0 = .ok (.iload_n 1, 1) := by decide +kernel
theorem dX9_even_1 : decode cX9_even 1 = .ok (.invokestatic 99, 3) := by decide +kernel
theorem dX9_even_4 : decode cX9_even 4 = .ok (.ifCond .ne 5, 3) := by decide +kernel
theorem dX9_even_7 : decode cX9_even 7 = .ok (.iconst (-1), 1) := by decide +kernel
theorem dX9_even_8 : decode cX9_even 8 = .ok (.ireturn, 1) := by decide +kernel
theorem dX9_even_9 : decode cX9_even 9 = .ok (.aload_n 0, 1) := by decide +kernel
theorem dX9_even_10 : decode cX9_even 10 = .ok (.iload_n 1, 1) := by decide +kernel
theorem dX9_even_11 : decode cX9_even 11 = .ok (.invokevirtual 155, 3) := by decide +kernel
theorem dX9_even_14 : decode cX9_even 14 = .ok (.i2f, 1) := by decide +kernel
theorem dX9_even_15 : decode cX9_even 15 = .ok (.aload_n 0, 1) := by decide +kernel
theorem dX9_even_16 : decode cX9_even 16 = .ok (.invokevirtual 151, 3) := by decide +kernel
theorem dX9_even_19 : decode cX9_even 19 = .ok (.i2f, 1) := by decide +kernel
theorem dX9_even_20 : decode cX9_even 20 = .ok (.fdiv, 1) := by decide +kernel
theorem dX9_even_21 : decode cX9_even 21 = .ok (.invokestatic 215, 3) := by decide +kernel
theorem dX9_even_24 : decode cX9_even 24 = .ok (.ireturn, 1) := by decide +kernel
theorem dX9_likely_0 : decode cX9_likely 0 = .ok (.aload_n 0, 1) := by decide +kernel
theorem dX9_likely_1 : decode cX9_likely 1 = .ok (.iload_n 2, 1) := by decide +kernel
theorem dX9_likely_2 : decode cX9_likely 2 = .ok (.invokevirtual 182, 3) := by decide +kernel
theorem dX9_likely_5 : decode cX9_likely 5 = .ok (.istore_n 3, 1) := by decide +kernel
theorem dX9_likely_6 : decode cX9_likely 6 = .ok (.iload_n 1, 1) := by decide +kernel
theorem dX9_likely_7 : decode cX9_likely 7 = .ok (.invokestatic 99, 3) := by decide +kernel
theorem dX9_likely_10 : decode cX9_likely 10 = .ok (.ifCond .eq 7, 3) := by decide +kernel
theorem dX9_likely_13 : decode cX9_likely 13 = .ok (.iload_n 3, 1) := by decide +kernel
theorem dX9_likely_14 : decode cX9_likely 14 = .ok (.ifCond .ge 7, 3) := by decide +kernel
theorem dX9_likely_17 : decode cX9_likely 17 = .ok (.ldc2_w 171, 3) := by decide +kernel
theorem dX9_likely_20 : decode cX9_likely 20 = .ok (.lreturn, 1) := by decide +kernel
theorem dX9_likely_21 : decode cX9_likely 21 = .ok (.aload_n 0, 1) := by decide +kernel
theorem dX9_likely_22 : decode cX9_likely 22 = .ok (.getfield 24, 3) := by decide +kernel
theorem dX9_likely_25 : decode cX9_likely 25 = .ok (.iload_n 3, 1) := by decide +kernel
theorem dX9_likely_26 : decode cX9_likely 26 = .ok (.iload_n 1, 1) := by decide +kernel
theorem dX9_likely_27 : decode cX9_likely 27 = .ok (.invokevirtual 192, 3) := by decide +kernel
theorem dX9_likely_30 : decode cX9_likely 30 = .ok (.i2d, 1) := by decide +kernel
theorem dX9_likely_31 : decode cX9_likely 31 = .ok (.aload_n 0, 1) := by decide +kernel
theorem dX9_likely_32 : decode cX9_likely 32 = .ok (.invokevirtual 151, 3) := by decide +kernel
theorem dX9_likely_35 : decode cX9_likely 35 = .ok (.i2d, 1) := by decide +kernel
theorem dX9_likely_36 : decode cX9_likely 36 = .ok (.ddiv, 1) := by decide +kernel
theorem dX9_likely_37 : decode cX9_likely 37 = .ok (.invokestatic 221, 3) := by decide +kernel
theorem dX9_likely_40 : decode cX9_likely 40 = .ok (.lreturn, 1) := by decide +kernel
theorem dX9_mean_0 : decode cX9_mean 0 = .ok (.aload_n 0, 1) := by decide +kernel
theorem dX9_mean_1 : decode cX9_mean 1 = .ok (.iload_n 1, 1) := by decide +kernel
theorem dX9_mean_2 : decode cX9_mean 2 = .ok (.invokevirtual 182, 3) := by decide +kernel
theorem dX9_mean_5 : decode cX9_mean 5 = .ok (.istore_n 3, 1) := by decide +kernel
theorem dX9_mean_6 : decode cX9_mean 6 = .ok (.iload_n 3, 1) := by decide +kernel
theorem dX9_mean_7 : decode cX9_mean 7 = .ok (.ifCond .ge 6, 3) := by decide +kernel
theorem dX9_mean_10 : decode cX9_mean 10 = .ok (.bipush (-2), 2) := by decide +kernel
theorem dX9_mean_12 : decode cX9_mean 12 = .ok (.ireturn, 1) := by decide +kernel
theorem dX9_mean_13 : decode cX9_mean 13 = .ok (.iload_n 2, 1) := by decide +kernel
theorem dX9_mean_14 : decode cX9_mean 14 = .ok (.invokestatic 99, 3) := by decide +kernel
theorem dX9_mean_17 : decode cX9_mean 17 = .ok (.ifCond .ne 5, 3) := by decide +kernel
theorem dX9_mean_20 : decode cX9_mean 20 = .ok (.iconst (-1), 1) := by decide +kernel
theorem dX9_mean_21 : decode cX9_mean 21 = .ok (.ireturn, 1) := by decide +kernel
theorem dX9_mean_22 : decode cX9_mean 22 = .ok (.aload_n 0, 1) := by decide +kernel
theorem dX9_mean_23 : decode cX9_mean 23 = .ok (.getfield 12, 3) := by decide +kernel
theorem dX9_mean_26 : decode cX9_mean 26 = .ok (.iload_n 3, 1) := by decide +kernel
theorem dX9_mean_27 : decode cX9_mean 27 = .ok (.invokevirtual 205, 3) := by decide +kernel
theorem dX9_mean_30 : decode cX9_mean 30 = .ok (.i2f, 1) := by decide +kernel
theorem dX9_mean_31 : decode cX9_mean 31 = .ok (.aload_n 0, 1) := by decide +kernel
theorem dX9_mean_32 : decode cX9_mean 32 = .ok (.getfield 12, 3) := by decide +kernel
theorem dX9_mean_35 : decode cX9_mean 35 = .ok (.getfield 69, 3) := by decide +kernel
theorem dX9_mean_38 : decode cX9_mean 38 = .ok (.i2f, 1) := by decide +kernel
theorem dX9_mean_39 : decode cX9_mean 39 = .ok (.fdiv, 1) := by decide +kernel
theorem dX9_mean_40 : decode cX9_mean 40 = .ok (.fstore 4, 2) := by decide +kernel
theorem dX9_mean_42 : decode cX9_mean 42 = .ok (.iload_n 2, 1) := by decide +kernel
theorem dX9_mean_43 : decode cX9_mean 43 = .ok (.ifCond .ne 11, 3) := by decide +kernel
theorem dX9_mean_46 : decode cX9_mean 46 = .ok (.fload 4, 2) := by decide +kernel
theorem dX9_mean_48 : decode cX9_mean 48 = .ok (.invokestatic 215, 3) := by decide +kernel
theorem dX9_mean_51 : decode cX9_mean 51 = .ok (.goto 9, 3) := by decide +kernel
theorem dX9_mean_54 : decode cX9_mean 54 = .ok (.fload 4, 2) := by decide +kernel
theorem dX9_mean_56 : decode cX9_mean 56 = .ok (.ldc 225, 2) := by decide +kernel
theorem dX9_mean_58 : decode cX9_mean 58 = .ok (.fadd, 1) := by decide +kernel
theorem dX9_mean_59 : decode cX9_mean 59 = .ok (.f2i, 1) := by decide +kernel
theorem dX9_mean_60 : decode cX9_mean 60 = .ok (.ireturn, 1) := by decide +kernel
theorem dX9_spread_0 : decode cX9_spread 0 = .ok (.aload_n 0, 1) := by decide +kernel
theorem dX9_spread_1 : decode cX9_spread 1 = .ok (.iload_n 1, 1) := by decide +kernel
theorem dX9_spread_2 : decode cX9_spread 2 = .ok (.invokevirtual 182, 3) := by decide +kernel
theorem dX9_spread_5 : decode cX9_spread 5 = .ok (.istore_n 3, 1) := by decide +kernel
theorem dX9_spread_6 : decode cX9_spread 6 = .ok (.iload_n 3, 1) := by decide +kernel
theorem dX9_spread_7 : decode cX9_spread 7 = .ok (.ifCond .lt 10, 3) := by decide +kernel
theorem dX9_spread_10 : decode cX9_spread 10 = .ok (.iload_n 2, 1) := by decide +kernel
theorem dX9_spread_11 : decode cX9_spread 11 = .ok (.invokestatic 99, 3) := by decide +kernel
theorem dX9_spread_14 : decode cX9_spread 14 = .ok (.ifCond .ne 7, 3) := by decide +kernel
theorem dX9_spread_17 : decode cX9_spread 17 = .ok (.ldc2_w 171, 3) := by decide +kernel
theorem dX9_spread_20 : decode cX9_spread 20 = .ok (.lreturn, 1) := by decide +kernel
theorem dX9_spread_21 : decode cX9_spread 21 = .ok (.aload_n 0, 1) := by decide +kernel
theorem dX9_spread_22 : decode cX9_spread 22 = .ok (.getfield 12, 3) := by decide +kernel
theorem dX9_spread_25 : decode cX9_spread 25 = .ok (.iload_n 3, 1) := by decide +kernel
theorem dX9_spread_26 : decode cX9_spread 26 = .ok (.invokevirtual 205, 3) := by decide +kernel
theorem dX9_spread_29 : decode cX9_spread 29 = .ok (.i2d, 1) := by decide +kernel
theorem dX9_spread_30 : decode cX9_spread 30 = .ok (.aload_n 0, 1) := by decide +kernel
theorem dX9_spread_31 : decode cX9_spread 31 = .ok (.getfield 12, 3) := by decide +kernel
theorem dX9_spread_34 : decode cX9_spread 34 = .ok (.getfield 69, 3) := by decide +kernel
theorem dX9_spread_37 : decode cX9_spread 37 = .ok (.i2d, 1) := by decide +kernel
theorem dX9_spread_38 : decode cX9_spread 38 = .ok (.ddiv, 1) := by decide +kernel
theorem dX9_spread_39 : decode cX9_spread 39 = .ok (.dstore 4, 2) := by decide +kernel
theorem dX9_spread_41 : decode cX9_spread 41 = .ok (.dconst 0, 1) := by decide +kernel
theorem dX9_spread_42 : decode cX9_spread 42 = .ok (.dstore 6, 2) := by decide +kernel
theorem dX9_spread_44 : decode cX9_spread 44 = .ok (.iconst 0, 1) := by decide +kernel
theorem dX9_spread_45 : decode cX9_spread 45 = .ok (.istore 8, 2) := by decide +kernel
theorem dX9_spread_47 : decode cX9_spread 47 = .ok (.iload 8, 2) := by decide +kernel
theorem dX9_spread_49 : decode cX9_spread 49 = .ok (.aload_n 0, 1) := by decide +kernel
theorem dX9_spread_50 : decode cX9_spread 50 = .ok (.getfield 12, 3) := by decide +kernel
theorem dX9_spread_53 : decode cX9_spread 53 = .ok (.getfield 69, 3) := by decide +kernel
theorem dX9_spread_56 : decode cX9_spread 56 = .ok (.if_icmp .ge 35, 3) := by decide +kernel
theorem dX9_spread_59 : decode cX9_spread 59 = .ok (.aload_n 0, 1) := by decide +kernel
theorem dX9_spread_60 : decode cX9_spread 60 = .ok (.getfield 12, 3) := by decide +kernel
theorem dX9_spread_63 : decode cX9_spread 63 = .ok (.iload_n 3, 1) := by decide +kernel
theorem dX9_spread_64 : decode cX9_spread 64 = .ok (.iload 8, 2) := by decide +kernel
theorem dX9_spread_66 : decode cX9_spread 66 = .ok (.invokevirtual 226, 3) := by decide +kernel
theorem dX9_spread_69 : decode cX9_spread 69 = .ok (.i2d, 1) := by decide +kernel
theorem dX9_spread_70 : decode cX9_spread 70 = .ok (.dload 4, 2) := by decide +kernel
theorem dX9_spread_72 : decode cX9_spread 72 = .ok (.dsub, 1) := by decide +kernel
theorem dX9_spread_73 : decode cX9_spread 73 = .ok (.dstore 9, 2) := by decide +kernel
theorem dX9_spread_75 : decode cX9_spread 75 = .ok (.dload 6, 2) := by decide +kernel
theorem dX9_spread_77 : decode cX9_spread 77 = .ok (.dload 9, 2) := by decide +kernel
theorem dX9_spread_79 : decode cX9_spread 79 = .ok (.dload 9, 2) := by decide +kernel
theorem dX9_spread_81 : decode cX9_spread 81 = .ok (.dmul, 1) := by decide +kernel
theorem dX9_spread_82 : decode cX9_spread 82 = .ok (.dadd, 1) := by decide +kernel
theorem dX9_spread_83 : decode cX9_spread 83 = .ok (.dstore 6, 2) := by decide +kernel
theorem dX9_spread_85 : decode cX9_spread 85 = .ok (.iinc 8 1, 3) := by decide +kernel
theorem dX9_spread_88 : decode cX9_spread 88 = .ok (.goto (-41), 3) := by decide +kernel
theorem dX9_spread_91 : decode cX9_spread 91 = .ok (.dload 6, 2) := by decide +kernel
theorem dX9_spread_93 : decode cX9_spread 93 = .ok (.aload_n 0, 1) := by decide +kernel
theorem dX9_spread_94 : decode cX9_spread 94 = .ok (.getfield 12, 3) := by decide +kernel
theorem dX9_spread_97 : decode cX9_spread 97 = .ok (.getfield 69, 3) := by decide +kernel
theorem dX9_spread_100 : decode cX9_spread 100 = .ok (.i2d, 1) := by decide +kernel
theorem dX9_spread_101 : decode cX9_spread 101 = .ok (.ddiv, 1) := by decide +kernel
theorem dX9_spread_102 : decode cX9_spread 102 = .ok (.dstore 8, 2) := by decide +kernel
theorem dX9_spread_104 : decode cX9_spread 104 = .ok (.iload_n 2, 1) := by decide +kernel
theorem dX9_spread_105 : decode cX9_spread 105 = .ok (.ifCond .ne 11, 3) := by decide +kernel
theorem dX9_spread_108 : decode cX9_spread 108 = .ok (.dload 8, 2) := by decide +kernel
theorem dX9_spread_110 : decode cX9_spread 110 = .ok (.invokestatic 221, 3) := by decide +kernel
theorem dX9_spread_113 : decode cX9_spread 113 = .ok (.goto 6, 3) := by decide +kernel
theorem dX9_spread_116 : decode cX9_spread 116 = .ok (.dload 8, 2) := by decide +kernel
theorem dX9_spread_118 : decode cX9_spread 118 = .ok (.d2l, 1) := by decide +kernel
theorem dX9_spread_119 : decode cX9_spread 119 = .ok (.lreturn, 1) := by decide +kernel
theorem dX9_feed_0 : decode cX9_feed 0 = .ok (.iload_n 1, 1) := by decide +kernel
theorem dX9_feed_1 : decode cX9_feed 1 = .ok (.ifCond .lt 9, 3) := by decide +kernel
theorem dX9_feed_4 : decode cX9_feed 4 = .ok (.iload_n 1, 1) := by decide +kernel
theorem dX9_feed_5 : decode cX9_feed 5 = .ok (.bipush 127, 2) := by decide +kernel
theorem dX9_feed_7 : decode cX9_feed 7 = .ok (.if_icmp .le 6, 3) := by decide +kernel
theorem dX9_feed_10 : decode cX9_feed 10 = .ok (.bipush (-2), 2) := by decide +kernel
theorem dX9_feed_12 : decode cX9_feed 12 = .ok (.ireturn, 1) := by decide +kernel
theorem dX9_feed_13 : decode cX9_feed 13 = .ok (.aload_n 0, 1) := by decide +kernel
theorem dX9_feed_14 : decode cX9_feed 14 = .ok (.getfield 51, 3) := by decide +kernel
theorem dX9_feed_17 : decode cX9_feed 17 = .ok (.iload_n 1, 1) := by decide +kernel
theorem dX9_feed_18 : decode cX9_feed 18 = .ok (.invokevirtual 229, 3) := by decide +kernel
theorem dX9_feed_21 : decode cX9_feed 21 = .ok (.ifCond .eq 13, 3) := by decide +kernel
theorem dX9_feed_24 : decode cX9_feed 24 = .ok (.aload_n 0, 1) := by decide +kernel
theorem dX9_feed_25 : decode cX9_feed 25 = .ok (.getfield 51, 3) := by decide +kernel
theorem dX9_feed_28 : decode cX9_feed 28 = .ok (.getfield 232, 3) := by decide +kernel
theorem dX9_feed_31 : decode cX9_feed 31 = .ok (.goto 5, 3) := by decide +kernel
theorem dX9_feed_34 : decode cX9_feed 34 = .ok (.bipush (-4), 2) := by decide +kernel
theorem dX9_feed_36 : decode cX9_feed 36 = .ok (.ireturn, 1) := by decide +kernel
theorem dX9_read_0 : decode cX9_read 0 = .ok (.aload_n 0, 1) := by decide +kernel
theorem dX9_read_1 : decode cX9_read 1 = .ok (.getfield 51, 3) := by decide +kernel
theorem dX9_read_4 : decode cX9_read 4 = .ok (.invokevirtual 235, 3) := by decide +kernel
theorem dX9_read_7 : decode cX9_read 7 = .ok (.istore_n 1, 1) := by decide +kernel
theorem dX9_read_8 : decode cX9_read 8 = .ok (.iload_n 1, 1) := by decide +kernel
theorem dX9_read_9 : decode cX9_read 9 = .ok (.ifCond .lt 28, 3) := by decide +kernel
theorem dX9_read_12 : decode cX9_read 12 = .ok (.aload_n 0, 1) := by decide +kernel
theorem dX9_read_13 : decode cX9_read 13 = .ok (.getfield 51, 3) := by decide +kernel
theorem dX9_read_16 : decode cX9_read 16 = .ok (.iload_n 1, 1) := by decide +kernel
theorem dX9_read_17 : decode cX9_read 17 = .ok (.aload_n 0, 1) := by decide +kernel
theorem dX9_read_18 : decode cX9_read 18 = .ok (.getfield 58, 3) := by decide +kernel
theorem dX9_read_21 : decode cX9_read 21 = .ok (.invokevirtual 238, 3) := by decide +kernel
theorem dX9_read_24 : decode cX9_read 24 = .ok (.aload_n 0, 1) := by decide +kernel
theorem dX9_read_25 : decode cX9_read 25 = .ok (.getfield 51, 3) := by decide +kernel
theorem dX9_read_28 : decode cX9_read 28 = .ok (.iconst 0, 1) := by decide +kernel
theorem dX9_read_29 : decode cX9_read 29 = .ok (.putfield 232, 3) := by decide +kernel
theorem dX9_read_32 : decode cX9_read 32 = .ok (.bipush (-10), 2) := by decide +kernel
theorem dX9_read_34 : decode cX9_read 34 = .ok (.iload_n 1, 1) := by decide +kernel
theorem dX9_read_35 : decode cX9_read 35 = .ok (.isub, 1) := by decide +kernel
theorem dX9_read_36 : decode cX9_read 36 = .ok (.ireturn, 1) := by decide +kernel
theorem dX9_read_37 : decode cX9_read 37 = .ok (.iconst 0, 1) := by decide +kernel
theorem dX9_read_38 : decode cX9_read 38 = .ok (.istore_n 2, 1) := by decide +kernel
theorem dX9_read_39 : decode cX9_read 39 = .ok (.iconst 0, 1) := by decide +kernel
theorem dX9_read_40 : decode cX9_read 40 = .ok (.istore_n 3, 1) := by decide +kernel
theorem dX9_read_41 : decode cX9_read 41 = .ok (.iload_n 3, 1) := by decide +kernel
theorem dX9_read_42 : decode cX9_read 42 = .ok (.aload_n 0, 1) := by decide +kernel
theorem dX9_read_43 : decode cX9_read 43 = .ok (.getfield 51, 3) := by decide +kernel
theorem dX9_read_46 : decode cX9_read 46 = .ok (.getfield 242, 3) := by decide +kernel
theorem dX9_read_49 : decode cX9_read 49 = .ok (.if_icmp .ge 35, 3) := by decide +kernel
theorem dX9_read_52 : decode cX9_read 52 = .ok (.aload_n 0, 1) := by decide +kernel
theorem dX9_read_53 : decode cX9_read 53 = .ok (.aload_n 0, 1) := by decide +kernel
theorem dX9_read_54 : decode cX9_read 54 = .ok (.getfield 51, 3) := by decide +kernel
theorem dX9_read_57 : decode cX9_read 57 = .ok (.iload_n 3, 1) := by decide +kernel
theorem dX9_read_58 : decode cX9_read 58 = .ok (.invokevirtual 245, 3) := by decide +kernel
theorem dX9_read_61 : decode cX9_read 61 = .ok (.aload_n 0, 1) := by decide +kernel
theorem dX9_read_62 : decode cX9_read 62 = .ok (.getfield 51, 3) := by decide +kernel
theorem dX9_read_65 : decode cX9_read 65 = .ok (.iload_n 3, 1) := by decide +kernel
theorem dX9_read_66 : decode cX9_read 66 = .ok (.invokevirtual 248, 3) := by decide +kernel
theorem dX9_read_69 : decode cX9_read 69 = .ok (.invokevirtual 251, 3) := by decide +kernel
theorem dX9_read_72 : decode cX9_read 72 = .ok (.ifCond .lt 6, 3) := by decide +kernel
theorem dX9_read_75 : decode cX9_read 75 = .ok (.iinc 2 1, 3) := by decide +kernel
theorem dX9_read_78 : decode cX9_read 78 = .ok (.iinc 3 1, 3) := by decide +kernel
theorem dX9_read_81 : decode cX9_read 81 = .ok (.goto (-40), 3) := by decide +kernel
theorem dX9_read_84 : decode cX9_read 84 = .ok (.aload_n 0, 1) := by decide +kernel
theorem dX9_read_85 : decode cX9_read 85 = .ok (.getfield 51, 3) := by decide +kernel
theorem dX9_read_88 : decode cX9_read 88 = .ok (.iconst 0, 1) := by decide +kernel
theorem dX9_read_89 : decode cX9_read 89 = .ok (.putfield 232, 3) := by decide +kernel
theorem dX9_read_92 : decode cX9_read 92 = .ok (.iload_n 2, 1) := by decide +kernel
theorem dX9_read_93 : decode cX9_read 93 = .ok (.ireturn, 1) := by decide +kernel
theorem dX9_cause_0 : decode cX9_cause 0 = .ok (.iload_n 1, 1) := by decide +kernel
theorem dX9_cause_1 : decode cX9_cause 1 = .ok (.ifCond .lt 10, 3) := by decide +kernel
theorem dX9_cause_4 : decode cX9_cause 4 = .ok (.iload_n 2, 1) := by decide +kernel
theorem dX9_cause_5 : decode cX9_cause 5 = .ok (.invokestatic 99, 3) := by decide +kernel
theorem dX9_cause_8 : decode cX9_cause 8 = .ok (.ifCond .ne 5, 3) := by decide +kernel
theorem dX9_cause_11 : decode cX9_cause 11 = .ok (.iconst (-1), 1) := by decide +kernel
theorem dX9_cause_12 : decode cX9_cause 12 = .ok (.ireturn, 1) := by decide +kernel
theorem dX9_cause_13 : decode cX9_cause 13 = .ok (.iload_n 1, 1) := by decide +kernel
theorem dX9_cause_14 : decode cX9_cause 14 = .ok (.aload_n 0, 1) := by decide +kernel
theorem dX9_cause_15 : decode cX9_cause 15 = .ok (.getfield 58, 3) := by decide +kernel
theorem dX9_cause_18 : decode cX9_cause 18 = .ok (.getfield 254, 3) := by decide +kernel
theorem dX9_cause_21 : decode cX9_cause 21 = .ok (.if_icmp .lt 6, 3) := by decide +kernel
theorem dX9_cause_24 : decode cX9_cause 24 = .ok (.bipush (-5), 2) := by decide +kernel
theorem dX9_cause_26 : decode cX9_cause 26 = .ok (.ireturn, 1) := by decide +kernel
theorem dX9_cause_27 : decode cX9_cause 27 = .ok (.iload_n 2, 1) := by decide +kernel
theorem dX9_cause_28 : decode cX9_cause 28 = .ok (.ifCond .ne 15, 3) := by decide +kernel
theorem dX9_cause_31 : decode cX9_cause 31 = .ok (.aload_n 0, 1) := by decide +kernel
theorem dX9_cause_32 : decode cX9_cause 32 = .ok (.getfield 58, 3) := by decide +kernel
theorem dX9_cause_35 : decode cX9_cause 35 = .ok (.getfield 255, 3) := by decide +kernel
theorem dX9_cause_38 : decode cX9_cause 38 = .ok (.iload_n 1, 1) := by decide +kernel
theorem dX9_cause_39 : decode cX9_cause 39 = .ok (.iaload, 1) := by decide +kernel
theorem dX9_cause_40 : decode cX9_cause 40 = .ok (.goto 12, 3) := by decide +kernel
theorem dX9_cause_43 : decode cX9_cause 43 = .ok (.aload_n 0, 1) := by decide +kernel
theorem dX9_cause_44 : decode cX9_cause 44 = .ok (.getfield 58, 3) := by decide +kernel
theorem dX9_cause_47 : decode cX9_cause 47 = .ok (.getfield 257, 3) := by decide +kernel
theorem dX9_cause_50 : decode cX9_cause 50 = .ok (.iload_n 1, 1) := by decide +kernel
theorem dX9_cause_51 : decode cX9_cause 51 = .ok (.iaload, 1) := by decide +kernel
theorem dX9_cause_52 : decode cX9_cause 52 = .ok (.ireturn, 1) := by decide +kernel
theorem dX9_see_0 : decode cX9_see 0 = .ok (.iload_n 1, 1) := by decide +kernel
theorem dX9_see_1 : decode cX9_see 1 = .ok (.iconst (-1), 1) := by decide +kernel
theorem dX9_see_2 : decode cX9_see 2 = .ok (.if_icmp .ne 13, 3) := by decide +kernel
theorem dX9_see_5 : decode cX9_see 5 = .ok (.aload_n 0, 1) := by decide +kernel
theorem dX9_see_6 : decode cX9_see 6 = .ok (.getfield 12, 3) := by decide +kernel
theorem dX9_see_9 : decode cX9_see 9 = .ok (.iconst 0, 1) := by decide +kernel
theorem dX9_see_10 : decode cX9_see 10 = .ok (.putfield 260, 3) := by decide +kernel
theorem dX9_see_13 : decode cX9_see 13 = .ok (.iconst 0, 1) := by decide +kernel
theorem dX9_see_14 : decode cX9_see 14 = .ok (.ireturn, 1) := by decide +kernel
theorem dX9_see_15 : decode cX9_see 15 = .ok (.aload_n 0, 1) := by decide +kernel
theorem dX9_see_16 : decode cX9_see 16 = .ok (.iload_n 1, 1) := by decide +kernel
theorem dX9_see_17 : decode cX9_see 17 = .ok (.invokevirtual 182, 3) := by decide +kernel
theorem dX9_see_20 : decode cX9_see 20 = .ok (.istore 4, 2) := by decide +kernel
theorem dX9_see_22 : decode cX9_see 22 = .ok (.aload_n 0, 1) := by decide +kernel
theorem dX9_see_23 : decode cX9_see 23 = .ok (.iload_n 2, 1) := by decide +kernel
theorem dX9_see_24 : decode cX9_see 24 = .ok (.invokevirtual 182, 3) := by decide +kernel
theorem dX9_see_27 : decode cX9_see 27 = .ok (.istore 5, 2) := by decide +kernel
theorem dX9_see_29 : decode cX9_see 29 = .ok (.iload 4, 2) := by decide +kernel
theorem dX9_see_31 : decode cX9_see 31 = .ok (.ifCond .lt 8, 3) := by decide +kernel
theorem dX9_see_34 : decode cX9_see 34 = .ok (.iload 5, 2) := by decide +kernel
theorem dX9_see_36 : decode cX9_see 36 = .ok (.ifCond .ge 6, 3) := by decide +kernel
theorem dX9_see_39 : decode cX9_see 39 = .ok (.bipush (-2), 2) := by decide +kernel
theorem dX9_see_41 : decode cX9_see 41 = .ok (.ireturn, 1) := by decide +kernel
theorem dX9_see_42 : decode cX9_see 42 = .ok (.aload_n 0, 1) := by decide +kernel
theorem dX9_see_43 : decode cX9_see 43 = .ok (.getfield 12, 3) := by decide +kernel
theorem dX9_see_46 : decode cX9_see 46 = .ok (.iload 4, 2) := by decide +kernel
theorem dX9_see_48 : decode cX9_see 48 = .ok (.iload 5, 2) := by decide +kernel
theorem dX9_see_50 : decode cX9_see 50 = .ok (.iload_n 3, 1) := by decide +kernel
theorem dX9_see_51 : decode cX9_see 51 = .ok (.ifCond .eq 7, 3) := by decide +kernel
theorem dX9_see_54 : decode cX9_see 54 = .ok (.iconst 1, 1) := by decide +kernel
theorem dX9_see_55 : decode cX9_see 55 = .ok (.goto 4, 3) := by decide +kernel
theorem dX9_see_58 : decode cX9_see 58 = .ok (.iconst 0, 1) := by decide +kernel
theorem dX9_see_59 : decode cX9_see 59 = .ok (.invokevirtual 263, 3) := by decide +kernel
theorem dX9_see_62 : decode cX9_see 62 = .ok (.ifCond .eq 13, 3) := by decide +kernel
theorem dX9_see_65 : decode cX9_see 65 = .ok (.aload_n 0, 1) := by decide +kernel
theorem dX9_see_66 : decode cX9_see 66 = .ok (.getfield 12, 3) := by decide +kernel
theorem dX9_see_69 : decode cX9_see 69 = .ok (.getfield 260, 3) := by decide +kernel
theorem dX9_see_72 : decode cX9_see 72 = .ok (.goto 5, 3) := by decide +kernel
theorem dX9_see_75 : decode cX9_see 75 = .ok (.bipush (-4), 2) := by decide +kernel
theorem dX9_see_77 : decode cX9_see 77 = .ok (.ireturn, 1) := by decide +kernel
theorem dX9_fits_0 : decode cX9_fits 0 = .ok (.iload_n 1, 1) := by decide +kernel
theorem dX9_fits_1 : decode cX9_fits 1 = .ok (.invokestatic 99, 3) := by decide +kernel
theorem dX9_fits_4 : decode cX9_fits 4 = .ok (.ifCond .ne 5, 3) := by decide +kernel
theorem dX9_fits_7 : decode cX9_fits 7 = .ok (.iconst (-1), 1) := by decide +kernel
theorem dX9_fits_8 : decode cX9_fits 8 = .ok (.ireturn, 1) := by decide +kernel
theorem dX9_fits_9 : decode cX9_fits 9 = .ok (.iconst 0, 1) := by decide +kernel
theorem dX9_fits_10 : decode cX9_fits 10 = .ok (.istore_n 2, 1) := by decide +kernel
theorem dX9_fits_11 : decode cX9_fits 11 = .ok (.bipush (-5), 2) := by decide +kernel
theorem dX9_fits_13 : decode cX9_fits 13 = .ok (.istore_n 3, 1) := by decide +kernel
theorem dX9_fits_14 : decode cX9_fits 14 = .ok (.iconst 1, 1) := by decide +kernel
theorem dX9_fits_15 : decode cX9_fits 15 = .ok (.aload_n 0, 1) := by decide +kernel
theorem dX9_fits_16 : decode cX9_fits 16 = .ok (.getfield 12, 3) := by decide +kernel
theorem dX9_fits_19 : decode cX9_fits 19 = .ok (.getfield 77, 3) := by decide +kernel
theorem dX9_fits_22 : decode cX9_fits 22 = .ok (.ishl, 1) := by decide +kernel
theorem dX9_fits_23 : decode cX9_fits 23 = .ok (.istore 4, 2) := by decide +kernel
theorem dX9_fits_25 : decode cX9_fits 25 = .ok (.aload_n 0, 1) := by decide +kernel
theorem dX9_fits_26 : decode cX9_fits 26 = .ok (.getfield 12, 3) := by decide +kernel
theorem dX9_fits_29 : decode cX9_fits 29 = .ok (.invokevirtual 266, 3) := by decide +kernel
theorem dX9_fits_32 : decode cX9_fits 32 = .ok (.istore 5, 2) := by decide +kernel
theorem dX9_fits_34 : decode cX9_fits 34 = .ok (.iconst 0, 1) := by decide +kernel
theorem dX9_fits_35 : decode cX9_fits 35 = .ok (.istore 6, 2) := by decide +kernel
theorem dX9_fits_37 : decode cX9_fits 37 = .ok (.iload 5, 2) := by decide +kernel
theorem dX9_fits_39 : decode cX9_fits 39 = .ok (.ifCond .eq 39, 3) := by decide +kernel
theorem dX9_fits_42 : decode cX9_fits 42 = .ok (.iload 6, 2) := by decide +kernel
theorem dX9_fits_44 : decode cX9_fits 44 = .ok (.iload 4, 2) := by decide +kernel
theorem dX9_fits_46 : decode cX9_fits 46 = .ok (.if_icmp .ge 32, 3) := by decide +kernel
theorem dX9_fits_49 : decode cX9_fits 49 = .ok (.aload_n 0, 1) := by decide +kernel
theorem dX9_fits_50 : decode cX9_fits 50 = .ok (.iload 6, 2) := by decide +kernel
theorem dX9_fits_52 : decode cX9_fits 52 = .ok (.invokevirtual 270, 3) := by decide +kernel
theorem dX9_fits_55 : decode cX9_fits 55 = .ok (.ifCond .eq 17, 3) := by decide +kernel
theorem dX9_fits_58 : decode cX9_fits 58 = .ok (.iload_n 2, 1) := by decide +kernel
theorem dX9_fits_59 : decode cX9_fits 59 = .ok (.ifCond .ne 8, 3) := by decide +kernel
theorem dX9_fits_62 : decode cX9_fits 62 = .ok (.iload 6, 2) := by decide +kernel
theorem dX9_fits_64 : decode cX9_fits 64 = .ok (.goto 4, 3) := by decide +kernel
theorem dX9_fits_67 : decode cX9_fits 67 = .ok (.iload_n 3, 1) := by decide +kernel
theorem dX9_fits_68 : decode cX9_fits 68 = .ok (.istore_n 3, 1) := by decide +kernel
theorem dX9_fits_69 : decode cX9_fits 69 = .ok (.iinc 2 1, 3) := by decide +kernel
theorem dX9_fits_72 : decode cX9_fits 72 = .ok (.iinc 6 1, 3) := by decide +kernel
theorem dX9_fits_75 : decode cX9_fits 75 = .ok (.goto (-38), 3) := by decide +kernel
theorem dX9_fits_78 : decode cX9_fits 78 = .ok (.iload_n 1, 1) := by decide +kernel
theorem dX9_fits_79 : decode cX9_fits 79 = .ok (.ifCond .ne 7, 3) := by decide +kernel
theorem dX9_fits_82 : decode cX9_fits 82 = .ok (.iload_n 2, 1) := by decide +kernel
theorem dX9_fits_83 : decode cX9_fits 83 = .ok (.goto 4, 3) := by decide +kernel
theorem dX9_fits_86 : decode cX9_fits 86 = .ok (.iload_n 3, 1) := by decide +kernel
theorem dX9_fits_87 : decode cX9_fits 87 = .ok (.ireturn, 1) := by decide +kernel
theorem dX9_event_0 : decode cX9_event 0 = .ok (.iload_n 1, 1) := by decide +kernel
theorem dX9_event_1 : decode cX9_event 1 = .ok (.iconst (-1), 1) := by decide +kernel
theorem dX9_event_2 : decode cX9_event 2 = .ok (.if_icmp .ne 13, 3) := by decide +kernel
theorem dX9_event_5 : decode cX9_event 5 = .ok (.aload_n 0, 1) := by decide +kernel
theorem dX9_event_6 : decode cX9_event 6 = .ok (.getfield 12, 3) := by decide +kernel
theorem dX9_event_9 : decode cX9_event 9 = .ok (.iconst 0, 1) := by decide +kernel
theorem dX9_event_10 : decode cX9_event 10 = .ok (.putfield 273, 3) := by decide +kernel
theorem dX9_event_13 : decode cX9_event 13 = .ok (.iconst 0, 1) := by decide +kernel
theorem dX9_event_14 : decode cX9_event 14 = .ok (.ireturn, 1) := by decide +kernel
theorem dX9_event_15 : decode cX9_event 15 = .ok (.iload_n 1, 1) := by decide +kernel
theorem dX9_event_16 : decode cX9_event 16 = .ok (.ifCond .lt 8, 3) := by decide +kernel
theorem dX9_event_19 : decode cX9_event 19 = .ok (.iload_n 1, 1) := by decide +kernel
theorem dX9_event_20 : decode cX9_event 20 = .ok (.iconst 2, 1) := by decide +kernel
theorem dX9_event_21 : decode cX9_event 21 = .ok (.if_icmp .le 5, 3) := by decide +kernel
theorem dX9_event_24 : decode cX9_event 24 = .ok (.iconst (-1), 1) := by decide +kernel
theorem dX9_event_25 : decode cX9_event 25 = .ok (.ireturn, 1) := by decide +kernel
theorem dX9_event_26 : decode cX9_event 26 = .ok (.iload_n 1, 1) := by decide +kernel
theorem dX9_event_27 : decode cX9_event 27 = .ok (.ifCond .ne 21, 3) := by decide +kernel
theorem dX9_event_30 : decode cX9_event 30 = .ok (.iload_n 2, 1) := by decide +kernel
theorem dX9_event_31 : decode cX9_event 31 = .ok (.iconst 1, 1) := by decide +kernel
theorem dX9_event_32 : decode cX9_event 32 = .ok (.if_icmp .lt 12, 3) := by decide +kernel
theorem dX9_event_35 : decode cX9_event 35 = .ok (.iload_n 2, 1) := by decide +kernel
theorem dX9_event_36 : decode cX9_event 36 = .ok (.iconst 4, 1) := by decide +kernel
theorem dX9_event_37 : decode cX9_event 37 = .ok (.if_icmp .gt 7, 3) := by decide +kernel
theorem dX9_event_40 : decode cX9_event 40 = .ok (.iconst 1, 1) := by decide +kernel
theorem dX9_event_41 : decode cX9_event 41 = .ok (.goto 21, 3) := by decide +kernel
theorem dX9_event_44 : decode cX9_event 44 = .ok (.iconst 0, 1) := by decide +kernel
theorem dX9_event_45 : decode cX9_event 45 = .ok (.goto 17, 3) := by decide +kernel
theorem dX9_event_48 : decode cX9_event 48 = .ok (.iload_n 2, 1) := by decide +kernel
theorem dX9_event_49 : decode cX9_event 49 = .ok (.ifCond .lt 12, 3) := by decide +kernel
theorem dX9_event_52 : decode cX9_event 52 = .ok (.iload_n 2, 1) := by decide +kernel
theorem dX9_event_53 : decode cX9_event 53 = .ok (.iconst 4, 1) := by decide +kernel
theorem dX9_event_54 : decode cX9_event 54 = .ok (.if_icmp .ge 7, 3) := by decide +kernel
theorem dX9_event_57 : decode cX9_event 57 = .ok (.iconst 1, 1) := by decide +kernel
theorem dX9_event_58 : decode cX9_event 58 = .ok (.goto 4, 3) := by decide +kernel
theorem dX9_event_61 : decode cX9_event 61 = .ok (.iconst 0, 1) := by decide +kernel
theorem dX9_event_62 : decode cX9_event 62 = .ok (.istore_n 3, 1) := by decide +kernel
theorem dX9_event_63 : decode cX9_event 63 = .ok (.iload_n 3, 1) := by decide +kernel
theorem dX9_event_64 : decode cX9_event 64 = .ok (.ifCond .ne 6, 3) := by decide +kernel
theorem dX9_event_67 : decode cX9_event 67 = .ok (.bipush (-2), 2) := by decide +kernel
theorem dX9_event_69 : decode cX9_event 69 = .ok (.ireturn, 1) := by decide +kernel
theorem dX9_event_70 : decode cX9_event 70 = .ok (.aload_n 0, 1) := by decide +kernel
theorem dX9_event_71 : decode cX9_event 71 = .ok (.getfield 12, 3) := by decide +kernel
theorem dX9_event_74 : decode cX9_event 74 = .ok (.iload_n 1, 1) := by decide +kernel
theorem dX9_event_75 : decode cX9_event 75 = .ok (.iload_n 2, 1) := by decide +kernel
theorem dX9_event_76 : decode cX9_event 76 = .ok (.invokevirtual 276, 3) := by decide +kernel
theorem dX9_event_79 : decode cX9_event 79 = .ok (.ifCond .eq 13, 3) := by decide +kernel
theorem dX9_event_82 : decode cX9_event 82 = .ok (.aload_n 0, 1) := by decide +kernel
theorem dX9_event_83 : decode cX9_event 83 = .ok (.getfield 12, 3) := by decide +kernel
theorem dX9_event_86 : decode cX9_event 86 = .ok (.getfield 273, 3) := by decide +kernel
theorem dX9_event_89 : decode cX9_event 89 = .ok (.goto 5, 3) := by decide +kernel
theorem dX9_event_92 : decode cX9_event 92 = .ok (.bipush (-4), 2) := by decide +kernel
theorem dX9_event_94 : decode cX9_event 94 = .ok (.ireturn, 1) := by decide +kernel
theorem dX9_after_0 : decode cX9_after 0 = .ok (.aload_n 0, 1) := by decide +kernel
theorem dX9_after_1 : decode cX9_after 1 = .ok (.getfield 12, 3) := by decide +kernel
theorem dX9_after_4 : decode cX9_after 4 = .ok (.getfield 86, 3) := by decide +kernel
theorem dX9_after_7 : decode cX9_after 7 = .ok (.istore_n 1, 1) := by decide +kernel
theorem dX9_after_8 : decode cX9_after 8 = .ok (.aload_n 0, 1) := by decide +kernel
theorem dX9_after_9 : decode cX9_after 9 = .ok (.getfield 12, 3) := by decide +kernel
theorem dX9_after_12 : decode cX9_after 12 = .ok (.getfield 77, 3) := by decide +kernel
theorem dX9_after_15 : decode cX9_after 15 = .ok (.invokestatic 106, 3) := by decide +kernel
theorem dX9_after_18 : decode cX9_after 18 = .ok (.istore_n 2, 1) := by decide +kernel
theorem dX9_after_19 : decode cX9_after 19 = .ok (.iconst 0, 1) := by decide +kernel
theorem dX9_after_20 : decode cX9_after 20 = .ok (.istore_n 3, 1) := by decide +kernel
theorem dX9_after_21 : decode cX9_after 21 = .ok (.iload_n 3, 1) := by decide +kernel
theorem dX9_after_22 : decode cX9_after 22 = .ok (.aload_n 0, 1) := by decide +kernel
theorem dX9_after_23 : decode cX9_after 23 = .ok (.getfield 12, 3) := by decide +kernel
theorem dX9_after_26 : decode cX9_after 26 = .ok (.getfield 273, 3) := by decide +kernel
theorem dX9_after_29 : decode cX9_after 29 = .ok (.if_icmp .ge 63, 3) := by decide +kernel
theorem dX9_after_32 : decode cX9_after 32 = .ok (.aload_n 0, 1) := by decide +kernel
theorem dX9_after_33 : decode cX9_after 33 = .ok (.getfield 12, 3) := by decide +kernel
theorem dX9_after_36 : decode cX9_after 36 = .ok (.getfield 279, 3) := by decide +kernel
theorem dX9_after_39 : decode cX9_after 39 = .ok (.iload_n 3, 1) := by decide +kernel
theorem dX9_after_40 : decode cX9_after 40 = .ok (.iaload, 1) := by decide +kernel
theorem dX9_after_41 : decode cX9_after 41 = .ok (.ifCond .ne 16, 3) := by decide +kernel
theorem dX9_after_44 : decode cX9_after 44 = .ok (.aload_n 0, 1) := by decide +kernel
theorem dX9_after_45 : decode cX9_after 45 = .ok (.getfield 12, 3) := by decide +kernel
theorem dX9_after_48 : decode cX9_after 48 = .ok (.getfield 282, 3) := by decide +kernel
theorem dX9_after_51 : decode cX9_after 51 = .ok (.iload_n 3, 1) := by decide +kernel
theorem dX9_after_52 : decode cX9_after 52 = .ok (.iaload, 1) := by decide +kernel
theorem dX9_after_53 : decode cX9_after 53 = .ok (.istore_n 1, 1) := by decide +kernel
theorem dX9_after_54 : decode cX9_after 54 = .ok (.goto 32, 3) := by decide +kernel
theorem dX9_after_57 : decode cX9_after 57 = .ok (.aload_n 0, 1) := by decide +kernel
theorem dX9_after_58 : decode cX9_after 58 = .ok (.getfield 12, 3) := by decide +kernel
theorem dX9_after_61 : decode cX9_after 61 = .ok (.getfield 279, 3) := by decide +kernel
theorem dX9_after_64 : decode cX9_after 64 = .ok (.iload_n 3, 1) := by decide +kernel
theorem dX9_after_65 : decode cX9_after 65 = .ok (.iaload, 1) := by decide +kernel
theorem dX9_after_66 : decode cX9_after 66 = .ok (.iconst 1, 1) := by decide +kernel
theorem dX9_after_67 : decode cX9_after 67 = .ok (.if_icmp .ne 19, 3) := by decide +kernel
theorem dX9_after_70 : decode cX9_after 70 = .ok (.iload_n 2, 1) := by decide +kernel
theorem dX9_after_71 : decode cX9_after 71 = .ok (.iconst 1, 1) := by decide +kernel
theorem dX9_after_72 : decode cX9_after 72 = .ok (.aload_n 0, 1) := by decide +kernel
theorem dX9_after_73 : decode cX9_after 73 = .ok (.getfield 12, 3) := by decide +kernel
theorem dX9_after_76 : decode cX9_after 76 = .ok (.getfield 282, 3) := by decide +kernel
theorem dX9_after_79 : decode cX9_after 79 = .ok (.iload_n 3, 1) := by decide +kernel
theorem dX9_after_80 : decode cX9_after 80 = .ok (.iaload, 1) := by decide +kernel
theorem dX9_after_81 : decode cX9_after 81 = .ok (.ishl, 1) := by decide +kernel
theorem dX9_after_82 : decode cX9_after 82 = .ok (.iconst (-1), 1) := by decide +kernel
theorem dX9_after_83 : decode cX9_after 83 = .ok (.ixor, 1) := by decide +kernel
theorem dX9_after_84 : decode cX9_after 84 = .ok (.iand, 1) := by decide +kernel
theorem dX9_after_85 : decode cX9_after 85 = .ok (.istore_n 2, 1) := by decide +kernel
theorem dX9_after_86 : decode cX9_after 86 = .ok (.iinc 3 1, 3) := by decide +kernel
theorem dX9_after_89 : decode cX9_after 89 = .ok (.goto (-68), 3) := by decide +kernel
theorem dX9_after_92 : decode cX9_after 92 = .ok (.aload_n 0, 1) := by decide +kernel
theorem dX9_after_93 : decode cX9_after 93 = .ok (.getfield 28, 3) := by decide +kernel
theorem dX9_after_96 : decode cX9_after 96 = .ok (.aload_n 0, 1) := by decide +kernel
theorem dX9_after_97 : decode cX9_after 97 = .ok (.getfield 12, 3) := by decide +kernel
theorem dX9_after_100 : decode cX9_after 100 = .ok (.getfield 103, 3) := by decide +kernel
theorem dX9_after_103 : decode cX9_after 103 = .ok (.iload_n 2, 1) := by decide +kernel
theorem dX9_after_104 : decode cX9_after 104 = .ok (.aload_n 0, 1) := by decide +kernel
theorem dX9_after_105 : decode cX9_after 105 = .ok (.getfield 12, 3) := by decide +kernel
theorem dX9_after_108 : decode cX9_after 108 = .ok (.getfield 69, 3) := by decide +kernel
theorem dX9_after_111 : decode cX9_after 111 = .ok (.invokevirtual 110, 3) := by decide +kernel
theorem dX9_after_114 : decode cX9_after 114 = .ok (.pop, 1) := by decide +kernel
theorem dX9_after_115 : decode cX9_after 115 = .ok (.aload_n 0, 1) := by decide +kernel
theorem dX9_after_116 : decode cX9_after 116 = .ok (.getfield 34, 3) := by decide +kernel
theorem dX9_after_119 : decode cX9_after 119 = .ok (.aload_n 0, 1) := by decide +kernel
theorem dX9_after_120 : decode cX9_after 120 = .ok (.getfield 28, 3) := by decide +kernel
theorem dX9_after_123 : decode cX9_after 123 = .ok (.iconst 1, 1) := by decide +kernel
theorem dX9_after_124 : decode cX9_after 124 = .ok (.invokevirtual 158, 3) := by decide +kernel
theorem dX9_after_127 : decode cX9_after 127 = .ok (.aload_n 0, 1) := by decide +kernel
theorem dX9_after_128 : decode cX9_after 128 = .ok (.getfield 34, 3) := by decide +kernel
theorem dX9_after_131 : decode cX9_after 131 = .ok (.iload_n 1, 1) := by decide +kernel
theorem dX9_after_132 : decode cX9_after 132 = .ok (.invokevirtual 178, 3) := by decide +kernel
theorem dX9_after_135 : decode cX9_after 135 = .ok (.l2i, 1) := by decide +kernel
theorem dX9_after_136 : decode cX9_after 136 = .ok (.ireturn, 1) := by decide +kernel
theorem dX9_judge_0 : decode cX9_judge 0 = .ok (.iload_n 1, 1) := by decide +kernel
theorem dX9_judge_1 : decode cX9_judge 1 = .ok (.invokestatic 99, 3) := by decide +kernel
theorem dX9_judge_4 : decode cX9_judge 4 = .ok (.ifCond .eq 10, 3) := by decide +kernel
theorem dX9_judge_7 : decode cX9_judge 7 = .ok (.iload_n 2, 1) := by decide +kernel
theorem dX9_judge_8 : decode cX9_judge 8 = .ok (.invokestatic 285, 3) := by decide +kernel
theorem dX9_judge_11 : decode cX9_judge 11 = .ok (.ifCond .ne 5, 3) := by decide +kernel
theorem dX9_judge_14 : decode cX9_judge 14 = .ok (.iconst (-1), 1) := by decide +kernel
theorem dX9_judge_15 : decode cX9_judge 15 = .ok (.ireturn, 1) := by decide +kernel
theorem dX9_judge_16 : decode cX9_judge 16 = .ok (.aload_n 0, 1) := by decide +kernel
theorem dX9_judge_17 : decode cX9_judge 17 = .ok (.getfield 64, 3) := by decide +kernel
theorem dX9_judge_20 : decode cX9_judge 20 = .ok (.iload_n 2, 1) := by decide +kernel
theorem dX9_judge_21 : decode cX9_judge 21 = .ok (.aaload, 1) := by decide +kernel
theorem dX9_judge_22 : decode cX9_judge 22 = .ok (.astore 4, 2) := by decide +kernel
theorem dX9_judge_24 : decode cX9_judge 24 = .ok (.aload 4, 2) := by decide +kernel
theorem dX9_judge_26 : decode cX9_judge 26 = .ok (.invokevirtual 288, 3) := by decide +kernel
theorem dX9_judge_29 : decode cX9_judge 29 = .ok (.ifCond .eq 15, 3) := by decide +kernel
theorem dX9_judge_32 : decode cX9_judge 32 = .ok (.aload 4, 2) := by decide +kernel
theorem dX9_judge_34 : decode cX9_judge 34 = .ok (.getfield 291, 3) := by decide +kernel
theorem dX9_judge_37 : decode cX9_judge 37 = .ok (.iconst 2, 1) := by decide +kernel
theorem dX9_judge_38 : decode cX9_judge 38 = .ok (.if_icmp .eq 6, 3) := by decide +kernel
theorem dX9_judge_41 : decode cX9_judge 41 = .ok (.bipush (-12), 2) := by decide +kernel
theorem dX9_judge_43 : decode cX9_judge 43 = .ok (.ireturn, 1) := by decide +kernel
theorem dX9_judge_44 : decode cX9_judge 44 = .ok (.aload 4, 2) := by decide +kernel
theorem dX9_judge_46 : decode cX9_judge 46 = .ok (.invokevirtual 288, 3) := by decide +kernel
theorem dX9_judge_49 : decode cX9_judge 49 = .ok (.ifCond .eq 7, 3) := by decide +kernel
theorem dX9_judge_52 : decode cX9_judge 52 = .ok (.iload_n 3, 1) := by decide +kernel
theorem dX9_judge_53 : decode cX9_judge 53 = .ok (.ifCond .ge 6, 3) := by decide +kernel
theorem dX9_judge_56 : decode cX9_judge 56 = .ok (.bipush 100, 2) := by decide +kernel
theorem dX9_judge_58 : decode cX9_judge 58 = .ok (.ireturn, 1) := by decide +kernel
theorem dX9_judge_59 : decode cX9_judge 59 = .ok (.aload_n 0, 1) := by decide +kernel
theorem dX9_judge_60 : decode cX9_judge 60 = .ok (.iload_n 1, 1) := by decide +kernel
theorem dX9_judge_61 : decode cX9_judge 61 = .ok (.invokevirtual 195, 3) := by decide +kernel
theorem dX9_judge_64 : decode cX9_judge 64 = .ok (.astore 5, 2) := by decide +kernel
theorem dX9_judge_66 : decode cX9_judge 66 = .ok (.iconst 0, 1) := by decide +kernel
theorem dX9_judge_67 : decode cX9_judge 67 = .ok (.istore 6, 2) := by decide +kernel
theorem dX9_judge_69 : decode cX9_judge 69 = .ok (.iload 6, 2) := by decide +kernel
theorem dX9_judge_71 : decode cX9_judge 71 = .ok (.aload 5, 2) := by decide +kernel
theorem dX9_judge_73 : decode cX9_judge 73 = .ok (.getfield 199, 3) := by decide +kernel
theorem dX9_judge_76 : decode cX9_judge 76 = .ok (.if_icmp .ge 57, 3) := by decide +kernel
theorem dX9_judge_79 : decode cX9_judge 79 = .ok (.iload_n 3, 1) := by decide +kernel
theorem dX9_judge_80 : decode cX9_judge 80 = .ok (.aload 4, 2) := by decide +kernel
theorem dX9_judge_82 : decode cX9_judge 82 = .ok (.getfield 293, 3) := by decide +kernel
theorem dX9_judge_85 : decode cX9_judge 85 = .ok (.iload 6, 2) := by decide +kernel
theorem dX9_judge_87 : decode cX9_judge 87 = .ok (.isub, 1) := by decide +kernel
theorem dX9_judge_88 : decode cX9_judge 88 = .ok (.if_icmp .lt 9, 3) := by decide +kernel
theorem dX9_judge_91 : decode cX9_judge 91 = .ok (.bipush 100, 2) := by decide +kernel
theorem dX9_judge_93 : decode cX9_judge 93 = .ok (.iload 6, 2) := by decide +kernel
theorem dX9_judge_95 : decode cX9_judge 95 = .ok (.iadd, 1) := by decide +kernel
theorem dX9_judge_96 : decode cX9_judge 96 = .ok (.ireturn, 1) := by decide +kernel
theorem dX9_judge_97 : decode cX9_judge 97 = .ok (.aload 4, 2) := by decide +kernel
theorem dX9_judge_99 : decode cX9_judge 99 = .ok (.getfield 294, 3) := by decide +kernel
theorem dX9_judge_102 : decode cX9_judge 102 = .ok (.iload_n 3, 1) := by decide +kernel
theorem dX9_judge_103 : decode cX9_judge 103 = .ok (.iload 6, 2) := by decide +kernel
theorem dX9_judge_105 : decode cX9_judge 105 = .ok (.iadd, 1) := by decide +kernel
theorem dX9_judge_106 : decode cX9_judge 106 = .ok (.laload, 1) := by decide +kernel
theorem dX9_judge_107 : decode cX9_judge 107 = .ok (.aload_n 0, 1) := by decide +kernel
theorem dX9_judge_108 : decode cX9_judge 108 = .ok (.aload 5, 2) := by decide +kernel
theorem dX9_judge_110 : decode cX9_judge 110 = .ok (.getfield 202, 3) := by decide +kernel
theorem dX9_judge_113 : decode cX9_judge 113 = .ok (.iload 6, 2) := by decide +kernel
theorem dX9_judge_115 : decode cX9_judge 115 = .ok (.iaload, 1) := by decide +kernel
theorem dX9_judge_116 : decode cX9_judge 116 = .ok (.invokevirtual 189, 3) := by decide +kernel
theorem dX9_judge_119 : decode cX9_judge 119 = .ok (.i2l, 1) := by decide +kernel
theorem dX9_judge_120 : decode cX9_judge 120 = .ok (.lcmp, 1) := by decide +kernel
theorem dX9_judge_121 : decode cX9_judge 121 = .ok (.ifCond .eq 6, 3) := by decide +kernel
theorem dX9_judge_124 : decode cX9_judge 124 = .ok (.iload 6, 2) := by decide +kernel
theorem dX9_judge_126 : decode cX9_judge 126 = .ok (.ireturn, 1) := by decide +kernel
theorem dX9_judge_127 : decode cX9_judge 127 = .ok (.iinc 6 1, 3) := by decide +kernel
theorem dX9_judge_130 : decode cX9_judge 130 = .ok (.goto (-61), 3) := by decide +kernel
theorem dX9_judge_133 : decode cX9_judge 133 = .ok (.bipush (-5), 2) := by decide +kernel
theorem dX9_judge_135 : decode cX9_judge 135 = .ok (.ireturn, 1) := by decide +kernel
theorem dX9_image_0 : decode cX9_image 0 = .ok (.aload_n 0, 1) := by decide +kernel
theorem dX9_image_1 : decode cX9_image 1 = .ok (.getfield 18, 3) := by decide +kernel
theorem dX9_image_4 : decode cX9_image 4 = .ok (.aload_n 0, 1) := by decide +kernel
theorem dX9_image_5 : decode cX9_image 5 = .ok (.getfield 12, 3) := by decide +kernel
theorem dX9_image_8 : decode cX9_image 8 = .ok (.invokevirtual 298, 3) := by decide +kernel
theorem dX9_image_11 : decode cX9_image 11 = .ok (.aload_n 0, 1) := by decide +kernel
theorem dX9_image_12 : decode cX9_image 12 = .ok (.iconst 1, 1) := by decide +kernel
theorem dX9_image_13 : decode cX9_image 13 = .ok (.putfield 302, 3) := by decide +kernel
theorem dX9_image_16 : decode cX9_image 16 = .ok (.aload_n 0, 1) := by decide +kernel
theorem dX9_image_17 : decode cX9_image 17 = .ok (.getfield 24, 3) := by decide +kernel
theorem dX9_image_20 : decode cX9_image 20 = .ok (.getfield 142, 3) := by decide +kernel
theorem dX9_image_23 : decode cX9_image 23 = .ok (.ireturn, 1) := by decide +kernel
theorem dX9_undo_0 : decode cX9_undo 0 = .ok (.aload_n 0, 1) := by decide +kernel
theorem dX9_undo_1 : decode cX9_undo 1 = .ok (.getfield 302, 3) := by decide +kernel
theorem dX9_undo_4 : decode cX9_undo 4 = .ok (.ifCond .ne 6, 3) := by decide +kernel
theorem dX9_undo_7 : decode cX9_undo 7 = .ok (.bipush (-3), 2) := by decide +kernel
theorem dX9_undo_9 : decode cX9_undo 9 = .ok (.ireturn, 1) := by decide +kernel
theorem dX9_undo_10 : decode cX9_undo 10 = .ok (.aload_n 0, 1) := by decide +kernel
theorem dX9_undo_11 : decode cX9_undo 11 = .ok (.getfield 12, 3) := by decide +kernel
theorem dX9_undo_14 : decode cX9_undo 14 = .ok (.aload_n 0, 1) := by decide +kernel
theorem dX9_undo_15 : decode cX9_undo 15 = .ok (.getfield 18, 3) := by decide +kernel
theorem dX9_undo_18 : decode cX9_undo 18 = .ok (.invokevirtual 298, 3) := by decide +kernel
theorem dX9_undo_21 : decode cX9_undo 21 = .ok (.aload_n 0, 1) := by decide +kernel
theorem dX9_undo_22 : decode cX9_undo 22 = .ok (.invokevirtual 123, 3) := by decide +kernel
theorem dX9_undo_25 : decode cX9_undo 25 = .ok (.aload_n 0, 1) := by decide +kernel
theorem dX9_undo_26 : decode cX9_undo 26 = .ok (.getfield 24, 3) := by decide +kernel
theorem dX9_undo_29 : decode cX9_undo 29 = .ok (.getfield 142, 3) := by decide +kernel
theorem dX9_undo_32 : decode cX9_undo 32 = .ok (.ireturn, 1) := by decide +kernel
theorem dX9_count_0 : decode cX9_count 0 = .ok (.iload_n 1, 1) := by decide +kernel
theorem dX9_count_1 : decode cX9_count 1 = .ok (.tableswitch 51 0 2 #[27, 35, 43], 27) := by decide +kernel
theorem dX9_count_28 : decode cX9_count 28 = .ok (.aload_n 0, 1) := by decide +kernel
theorem dX9_count_29 : decode cX9_count 29 = .ok (.getfield 12, 3) := by decide +kernel
theorem dX9_count_32 : decode cX9_count 32 = .ok (.getfield 260, 3) := by decide +kernel
theorem dX9_count_35 : decode cX9_count 35 = .ok (.ireturn, 1) := by decide +kernel
theorem dX9_count_36 : decode cX9_count 36 = .ok (.aload_n 0, 1) := by decide +kernel
theorem dX9_count_37 : decode cX9_count 37 = .ok (.getfield 12, 3) := by decide +kernel
theorem dX9_count_40 : decode cX9_count 40 = .ok (.getfield 273, 3) := by decide +kernel
theorem dX9_count_43 : decode cX9_count 43 = .ok (.ireturn, 1) := by decide +kernel
theorem dX9_count_44 : decode cX9_count 44 = .ok (.aload_n 0, 1) := by decide +kernel
theorem dX9_count_45 : decode cX9_count 45 = .ok (.getfield 51, 3) := by decide +kernel
theorem dX9_count_48 : decode cX9_count 48 = .ok (.getfield 232, 3) := by decide +kernel
theorem dX9_count_51 : decode cX9_count 51 = .ok (.ireturn, 1) := by decide +kernel
theorem dX9_count_52 : decode cX9_count 52 = .ok (.bipush (-2), 2) := by decide +kernel
theorem dX9_count_54 : decode cX9_count 54 = .ok (.ireturn, 1) := by decide +kernel
theorem dX9_tape_0 : decode cX9_tape 0 = .ok (.iload_n 1, 1) := by decide +kernel
theorem dX9_tape_1 : decode cX9_tape 1 = .ok (.invokestatic 285, 3) := by decide +kernel
theorem dX9_tape_4 : decode cX9_tape 4 = .ok (.ifCond .ne 5, 3) := by decide +kernel
theorem dX9_tape_7 : decode cX9_tape 7 = .ok (.iconst (-1), 1) := by decide +kernel
theorem dX9_tape_8 : decode cX9_tape 8 = .ok (.ireturn, 1) := by decide +kernel
theorem dX9_tape_9 : decode cX9_tape 9 = .ok (.iload_n 2, 1) := by decide +kernel
theorem dX9_tape_10 : decode cX9_tape 10 = .ok (.iconst (-1), 1) := by decide +kernel
theorem dX9_tape_11 : decode cX9_tape 11 = .ok (.if_icmp .ne 16, 3) := by decide +kernel
theorem dX9_tape_14 : decode cX9_tape 14 = .ok (.aload_n 0, 1) := by decide +kernel
theorem dX9_tape_15 : decode cX9_tape 15 = .ok (.getfield 64, 3) := by decide +kernel
theorem dX9_tape_18 : decode cX9_tape 18 = .ok (.iload_n 1, 1) := by decide +kernel
theorem dX9_tape_19 : decode cX9_tape 19 = .ok (.aaload, 1) := by decide +kernel
theorem dX9_tape_20 : decode cX9_tape 20 = .ok (.iload_n 2, 1) := by decide +kernel
theorem dX9_tape_21 : decode cX9_tape 21 = .ok (.iconst 0, 1) := by decide +kernel
theorem dX9_tape_22 : decode cX9_tape 22 = .ok (.invokevirtual 306, 3) := by decide +kernel
theorem dX9_tape_25 : decode cX9_tape 25 = .ok (.iconst 1, 1) := by decide +kernel
theorem dX9_tape_26 : decode cX9_tape 26 = .ok (.ireturn, 1) := by decide +kernel
theorem dX9_tape_27 : decode cX9_tape 27 = .ok (.iload_n 2, 1) := by decide +kernel
theorem dX9_tape_28 : decode cX9_tape 28 = .ok (.ifCond .lt 14, 3) := by decide +kernel
theorem dX9_tape_31 : decode cX9_tape 31 = .ok (.iload_n 2, 1) := by decide +kernel
theorem dX9_tape_32 : decode cX9_tape 32 = .ok (.iconst 4, 1) := by decide +kernel
theorem dX9_tape_33 : decode cX9_tape 33 = .ok (.if_icmp .gt 9, 3) := by decide +kernel
theorem dX9_tape_36 : decode cX9_tape 36 = .ok (.iload_n 3, 1) := by decide +kernel
theorem dX9_tape_37 : decode cX9_tape 37 = .ok (.bipush 60, 2) := by decide +kernel
theorem dX9_tape_39 : decode cX9_tape 39 = .ok (.if_icmp .le 6, 3) := by decide +kernel
theorem dX9_tape_42 : decode cX9_tape 42 = .ok (.bipush (-2), 2) := by decide +kernel
theorem dX9_tape_44 : decode cX9_tape 44 = .ok (.ireturn, 1) := by decide +kernel
theorem dX9_tape_45 : decode cX9_tape 45 = .ok (.iload_n 3, 1) := by decide +kernel
theorem dX9_tape_46 : decode cX9_tape 46 = .ok (.ifCond .ge 6, 3) := by decide +kernel
theorem dX9_tape_49 : decode cX9_tape 49 = .ok (.bipush (-14), 2) := by decide +kernel
theorem dX9_tape_51 : decode cX9_tape 51 = .ok (.ireturn, 1) := by decide +kernel
theorem dX9_tape_52 : decode cX9_tape 52 = .ok (.aload_n 0, 1) := by decide +kernel
theorem dX9_tape_53 : decode cX9_tape 53 = .ok (.getfield 64, 3) := by decide +kernel
theorem dX9_tape_56 : decode cX9_tape 56 = .ok (.iload_n 1, 1) := by decide +kernel
theorem dX9_tape_57 : decode cX9_tape 57 = .ok (.aaload, 1) := by decide +kernel
theorem dX9_tape_58 : decode cX9_tape 58 = .ok (.iload_n 2, 1) := by decide +kernel
theorem dX9_tape_59 : decode cX9_tape 59 = .ok (.iload_n 3, 1) := by decide +kernel
theorem dX9_tape_60 : decode cX9_tape 60 = .ok (.invokevirtual 306, 3) := by decide +kernel
theorem dX9_tape_63 : decode cX9_tape 63 = .ok (.iconst 1, 1) := by decide +kernel
theorem dX9_tape_64 : decode cX9_tape 64 = .ok (.ireturn, 1) := by decide +kernel
theorem dX9_item_0 : decode cX9_item 0 = .ok (.iload_n 1, 1) := by decide +kernel
theorem dX9_item_1 : decode cX9_item 1 = .ok (.invokestatic 285, 3) := by decide +kernel
theorem dX9_item_4 : decode cX9_item 4 = .ok (.ifCond .ne 5, 3) := by decide +kernel
theorem dX9_item_7 : decode cX9_item 7 = .ok (.iconst (-1), 1) := by decide +kernel
theorem dX9_item_8 : decode cX9_item 8 = .ok (.ireturn, 1) := by decide +kernel
theorem dX9_item_9 : decode cX9_item 9 = .ok (.aload_n 0, 1) := by decide +kernel
theorem dX9_item_10 : decode cX9_item 10 = .ok (.getfield 64, 3) := by decide +kernel
theorem dX9_item_13 : decode cX9_item 13 = .ok (.iload_n 1, 1) := by decide +kernel
theorem dX9_item_14 : decode cX9_item 14 = .ok (.aaload, 1) := by decide +kernel
theorem dX9_item_15 : decode cX9_item 15 = .ok (.astore 5, 2) := by decide +kernel
theorem dX9_item_17 : decode cX9_item 17 = .ok (.aload 5, 2) := by decide +kernel
theorem dX9_item_19 : decode cX9_item 19 = .ok (.invokevirtual 288, 3) := by decide +kernel
theorem dX9_item_22 : decode cX9_item 22 = .ok (.ifCond .ne 6, 3) := by decide +kernel
theorem dX9_item_25 : decode cX9_item 25 = .ok (.bipush (-11), 2) := by decide +kernel
theorem dX9_item_27 : decode cX9_item 27 = .ok (.ireturn, 1) := by decide +kernel
theorem dX9_item_28 : decode cX9_item 28 = .ok (.iload_n 2, 1) := by decide +kernel
theorem dX9_item_29 : decode cX9_item 29 = .ok (.ifCond .lt 12, 3) := by decide +kernel
theorem dX9_item_32 : decode cX9_item 32 = .ok (.iload_n 2, 1) := by decide +kernel
theorem dX9_item_33 : decode cX9_item 33 = .ok (.aload 5, 2) := by decide +kernel
theorem dX9_item_35 : decode cX9_item 35 = .ok (.getfield 293, 3) := by decide +kernel
theorem dX9_item_38 : decode cX9_item 38 = .ok (.if_icmp .lt 6, 3) := by decide +kernel
theorem dX9_item_41 : decode cX9_item 41 = .ok (.bipush (-13), 2) := by decide +kernel
theorem dX9_item_43 : decode cX9_item 43 = .ok (.ireturn, 1) := by decide +kernel
theorem dX9_item_44 : decode cX9_item 44 = .ok (.aload 5, 2) := by decide +kernel
theorem dX9_item_46 : decode cX9_item 46 = .ok (.getfield 294, 3) := by decide +kernel
theorem dX9_item_49 : decode cX9_item 49 = .ok (.iload_n 2, 1) := by decide +kernel
theorem dX9_item_50 : decode cX9_item 50 = .ok (.aload 5, 2) := by decide +kernel
theorem dX9_item_52 : decode cX9_item 52 = .ok (.lload_n 3, 1) := by decide +kernel
theorem dX9_item_53 : decode cX9_item 53 = .ok (.invokevirtual 309, 3) := by decide +kernel
theorem dX9_item_56 : decode cX9_item 56 = .ok (.lastore, 1) := by decide +kernel
theorem dX9_item_57 : decode cX9_item 57 = .ok (.iconst 1, 1) := by decide +kernel
theorem dX9_item_58 : decode cX9_item 58 = .ok (.ireturn, 1) := by decide +kernel
theorem dX9_peek_0 : decode cX9_peek 0 = .ok (.iload_n 1, 1) := by decide +kernel
theorem dX9_peek_1 : decode cX9_peek 1 = .ok (.invokestatic 285, 3) := by decide +kernel
theorem dX9_peek_4 : decode cX9_peek 4 = .ok (.ifCond .ne 7, 3) := by decide +kernel
theorem dX9_peek_7 : decode cX9_peek 7 = .ok (.ldc2_w 171, 3) := by decide +kernel
theorem dX9_peek_10 : decode cX9_peek 10 = .ok (.lreturn, 1) := by decide +kernel
theorem dX9_peek_11 : decode cX9_peek 11 = .ok (.aload_n 0, 1) := by decide +kernel
theorem dX9_peek_12 : decode cX9_peek 12 = .ok (.getfield 64, 3) := by decide +kernel
theorem dX9_peek_15 : decode cX9_peek 15 = .ok (.iload_n 1, 1) := by decide +kernel
theorem dX9_peek_16 : decode cX9_peek 16 = .ok (.aaload, 1) := by decide +kernel
theorem dX9_peek_17 : decode cX9_peek 17 = .ok (.astore_n 3, 1) := by decide +kernel
theorem dX9_peek_18 : decode cX9_peek 18 = .ok (.aload_n 3, 1) := by decide +kernel
theorem dX9_peek_19 : decode cX9_peek 19 = .ok (.invokevirtual 288, 3) := by decide +kernel
theorem dX9_peek_22 : decode cX9_peek 22 = .ok (.ifCond .eq 24, 3) := by decide +kernel
theorem dX9_peek_25 : decode cX9_peek 25 = .ok (.iload_n 2, 1) := by decide +kernel
theorem dX9_peek_26 : decode cX9_peek 26 = .ok (.ifCond .lt 20, 3) := by decide +kernel
theorem dX9_peek_29 : decode cX9_peek 29 = .ok (.iload_n 2, 1) := by decide +kernel
theorem dX9_peek_30 : decode cX9_peek 30 = .ok (.aload_n 3, 1) := by decide +kernel
theorem dX9_peek_31 : decode cX9_peek 31 = .ok (.getfield 293, 3) := by decide +kernel
theorem dX9_peek_34 : decode cX9_peek 34 = .ok (.if_icmp .ge 12, 3) := by decide +kernel
theorem dX9_peek_37 : decode cX9_peek 37 = .ok (.aload_n 3, 1) := by decide +kernel
theorem dX9_peek_38 : decode cX9_peek 38 = .ok (.getfield 294, 3) := by decide +kernel
theorem dX9_peek_41 : decode cX9_peek 41 = .ok (.iload_n 2, 1) := by decide +kernel
theorem dX9_peek_42 : decode cX9_peek 42 = .ok (.laload, 1) := by decide +kernel
theorem dX9_peek_43 : decode cX9_peek 43 = .ok (.goto 6, 3) := by decide +kernel
theorem dX9_peek_46 : decode cX9_peek 46 = .ok (.ldc2_w 171, 3) := by decide +kernel
theorem dX9_peek_49 : decode cX9_peek 49 = .ok (.lreturn, 1) := by decide +kernel
theorem dX9_shift_0 : decode cX9_shift 0 = .ok (.iload_n 1, 1) := by decide +kernel
theorem dX9_shift_1 : decode cX9_shift 1 = .ok (.invokestatic 285, 3) := by decide +kernel
theorem dX9_shift_4 : decode cX9_shift 4 = .ok (.ifCond .eq 10, 3) := by decide +kernel
theorem dX9_shift_7 : decode cX9_shift 7 = .ok (.iload_n 3, 1) := by decide +kernel
theorem dX9_shift_8 : decode cX9_shift 8 = .ok (.invokestatic 285, 3) := by decide +kernel
theorem dX9_shift_11 : decode cX9_shift 11 = .ok (.ifCond .ne 5, 3) := by decide +kernel
theorem dX9_shift_14 : decode cX9_shift 14 = .ok (.iconst (-1), 1) := by decide +kernel
theorem dX9_shift_15 : decode cX9_shift 15 = .ok (.ireturn, 1) := by decide +kernel
theorem dX9_shift_16 : decode cX9_shift 16 = .ok (.aload_n 0, 1) := by decide +kernel
theorem dX9_shift_17 : decode cX9_shift 17 = .ok (.getfield 64, 3) := by decide +kernel
theorem dX9_shift_20 : decode cX9_shift 20 = .ok (.iload_n 1, 1) := by decide +kernel
theorem dX9_shift_21 : decode cX9_shift 21 = .ok (.aaload, 1) := by decide +kernel
theorem dX9_shift_22 : decode cX9_shift 22 = .ok (.astore 6, 2) := by decide +kernel
theorem dX9_shift_24 : decode cX9_shift 24 = .ok (.aload_n 0, 1) := by decide +kernel
theorem dX9_shift_25 : decode cX9_shift 25 = .ok (.getfield 64, 3) := by decide +kernel
theorem dX9_shift_28 : decode cX9_shift 28 = .ok (.iload_n 3, 1) := by decide +kernel
theorem dX9_shift_29 : decode cX9_shift 29 = .ok (.aaload, 1) := by decide +kernel
theorem dX9_shift_30 : decode cX9_shift 30 = .ok (.astore 7, 2) := by decide +kernel
theorem dX9_shift_32 : decode cX9_shift 32 = .ok (.aload 6, 2) := by decide +kernel
theorem dX9_shift_34 : decode cX9_shift 34 = .ok (.invokevirtual 288, 3) := by decide +kernel
theorem dX9_shift_37 : decode cX9_shift 37 = .ok (.ifCond .eq 11, 3) := by decide +kernel
theorem dX9_shift_40 : decode cX9_shift 40 = .ok (.aload 7, 2) := by decide +kernel
theorem dX9_shift_42 : decode cX9_shift 42 = .ok (.invokevirtual 288, 3) := by decide +kernel
theorem dX9_shift_45 : decode cX9_shift 45 = .ok (.ifCond .ne 6, 3) := by decide +kernel
theorem dX9_shift_48 : decode cX9_shift 48 = .ok (.bipush (-11), 2) := by decide +kernel
theorem dX9_shift_50 : decode cX9_shift 50 = .ok (.ireturn, 1) := by decide +kernel
theorem dX9_shift_51 : decode cX9_shift 51 = .ok (.aload 6, 2) := by decide +kernel
theorem dX9_shift_53 : decode cX9_shift 53 = .ok (.getfield 291, 3) := by decide +kernel
theorem dX9_shift_56 : decode cX9_shift 56 = .ok (.aload 7, 2) := by decide +kernel
theorem dX9_shift_58 : decode cX9_shift 58 = .ok (.getfield 291, 3) := by decide +kernel
theorem dX9_shift_61 : decode cX9_shift 61 = .ok (.if_icmp .eq 6, 3) := by decide +kernel
theorem dX9_shift_64 : decode cX9_shift 64 = .ok (.bipush (-12), 2) := by decide +kernel
theorem dX9_shift_66 : decode cX9_shift 66 = .ok (.ireturn, 1) := by decide +kernel
theorem dX9_shift_67 : decode cX9_shift 67 = .ok (.iload 5, 2) := by decide +kernel
theorem dX9_shift_69 : decode cX9_shift 69 = .ok (.ifCond .lt 26, 3) := by decide +kernel
theorem dX9_shift_72 : decode cX9_shift 72 = .ok (.aload 6, 2) := by decide +kernel
theorem dX9_shift_74 : decode cX9_shift 74 = .ok (.iload_n 2, 1) := by decide +kernel
theorem dX9_shift_75 : decode cX9_shift 75 = .ok (.iload 5, 2) := by decide +kernel
theorem dX9_shift_77 : decode cX9_shift 77 = .ok (.invokevirtual 313, 3) := by decide +kernel
theorem dX9_shift_80 : decode cX9_shift 80 = .ok (.ifCond .eq 15, 3) := by decide +kernel
theorem dX9_shift_83 : decode cX9_shift 83 = .ok (.aload 7, 2) := by decide +kernel
theorem dX9_shift_85 : decode cX9_shift 85 = .ok (.iload 4, 2) := by decide +kernel
theorem dX9_shift_87 : decode cX9_shift 87 = .ok (.iload 5, 2) := by decide +kernel
theorem dX9_shift_89 : decode cX9_shift 89 = .ok (.invokevirtual 313, 3) := by decide +kernel
theorem dX9_shift_92 : decode cX9_shift 92 = .ok (.ifCond .ne 6, 3) := by decide +kernel
theorem dX9_shift_95 : decode cX9_shift 95 = .ok (.bipush (-13), 2) := by decide +kernel
theorem dX9_shift_97 : decode cX9_shift 97 = .ok (.ireturn, 1) := by decide +kernel
theorem dX9_shift_98 : decode cX9_shift 98 = .ok (.aload 6, 2) := by decide +kernel
theorem dX9_shift_100 : decode cX9_shift 100 = .ok (.getfield 294, 3) := by decide +kernel
theorem dX9_shift_103 : decode cX9_shift 103 = .ok (.iload_n 2, 1) := by decide +kernel
theorem dX9_shift_104 : decode cX9_shift 104 = .ok (.aload 7, 2) := by decide +kernel
theorem dX9_shift_106 : decode cX9_shift 106 = .ok (.getfield 294, 3) := by decide +kernel
theorem dX9_shift_109 : decode cX9_shift 109 = .ok (.iload 4, 2) := by decide +kernel
theorem dX9_shift_111 : decode cX9_shift 111 = .ok (.iload 5, 2) := by decide +kernel
theorem dX9_shift_113 : decode cX9_shift 113 = .ok (.invokestatic 316, 3) := by decide +kernel
theorem dX9_shift_116 : decode cX9_shift 116 = .ok (.iload 5, 2) := by decide +kernel
theorem dX9_shift_118 : decode cX9_shift 118 = .ok (.ireturn, 1) := by decide +kernel
theorem dX9_isFlag_0 : decode cX9_isFlag 0 = .ok (.iload_n 0, 1) := by decide +kernel
theorem dX9_isFlag_1 : decode cX9_isFlag 1 = .ok (.ifCond .eq 8, 3) := by decide +kernel
theorem dX9_isFlag_4 : decode cX9_isFlag 4 = .ok (.iload_n 0, 1) := by decide +kernel
theorem dX9_isFlag_5 : decode cX9_isFlag 5 = .ok (.iconst 1, 1) := by decide +kernel
theorem dX9_isFlag_6 : decode cX9_isFlag 6 = .ok (.if_icmp .ne 7, 3) := by decide +kernel
theorem dX9_isFlag_9 : decode cX9_isFlag 9 = .ok (.iconst 1, 1) := by decide +kernel
theorem dX9_isFlag_10 : decode cX9_isFlag 10 = .ok (.goto 4, 3) := by decide +kernel
theorem dX9_isFlag_13 : decode cX9_isFlag 13 = .ok (.iconst 0, 1) := by decide +kernel
theorem dX9_isFlag_14 : decode cX9_isFlag 14 = .ok (.ireturn, 1) := by decide +kernel
theorem dX9_isTape_0 : decode cX9_isTape 0 = .ok (.iload_n 0, 1) := by decide +kernel
theorem dX9_isTape_1 : decode cX9_isTape 1 = .ok (.ifCond .lt 13, 3) := by decide +kernel
theorem dX9_isTape_4 : decode cX9_isTape 4 = .ok (.iload_n 0, 1) := by decide +kernel
theorem dX9_isTape_5 : decode cX9_isTape 5 = .ok (.bipush 6, 2) := by decide +kernel
theorem dX9_isTape_7 : decode cX9_isTape 7 = .ok (.if_icmp .ge 7, 3) := by decide +kernel
theorem dX9_isTape_10 : decode cX9_isTape 10 = .ok (.iconst 1, 1) := by decide +kernel
theorem dX9_isTape_11 : decode cX9_isTape 11 = .ok (.goto 4, 3) := by decide +kernel
theorem dX9_isTape_14 : decode cX9_isTape 14 = .ok (.iconst 0, 1) := by decide +kernel
theorem dX9_isTape_15 : decode cX9_isTape 15 = .ok (.ireturn, 1) := by decide +kernel
theorem dX9_isGenerator_0 : decode cX9_isGenerator 0 = .ok (.iload_n 1, 1) := by decide +kernel
theorem dX9_isGenerator_1 : decode cX9_isGenerator 1 = .ok (.ifCond .lt 23, 3) := by decide +kernel
theorem dX9_isGenerator_4 : decode cX9_isGenerator 4 = .ok (.iload_n 1, 1) := by decide +kernel
theorem dX9_isGenerator_5 : decode cX9_isGenerator 5 = .ok (.aload_n 0, 1) := by decide +kernel
theorem dX9_isGenerator_6 : decode cX9_isGenerator 6 = .ok (.getfield 12, 3) := by decide +kernel
theorem dX9_isGenerator_9 : decode cX9_isGenerator 9 = .ok (.getfield 77, 3) := by decide +kernel
theorem dX9_isGenerator_12 : decode cX9_isGenerator 12 = .ok (.if_icmp .ge 12, 3) := by decide +kernel
theorem dX9_isGenerator_15 : decode cX9_isGenerator 15 = .ok (.iload_n 1, 1) := by decide +kernel
theorem dX9_isGenerator_16 : decode cX9_isGenerator 16 = .ok (.iconst 4, 1) := by decide +kernel
theorem dX9_isGenerator_17 : decode cX9_isGenerator 17 = .ok (.if_icmp .ge 7, 3) := by decide +kernel
theorem dX9_isGenerator_20 : decode cX9_isGenerator 20 = .ok (.iconst 1, 1) := by decide +kernel
theorem dX9_isGenerator_21 : decode cX9_isGenerator 21 = .ok (.goto 4, 3) := by decide +kernel
theorem dX9_isGenerator_24 : decode cX9_isGenerator 24 = .ok (.iconst 0, 1) := by decide +kernel
theorem dX9_isGenerator_25 : decode cX9_isGenerator 25 = .ok (.ireturn, 1) := by decide +kernel
theorem dX9_takes_0 : decode cX9_takes 0 = .ok (.iload_n 0, 1) := by decide +kernel
theorem dX9_takes_1 : decode cX9_takes 1 = .ok (.ifCond .eq 10, 3) := by decide +kernel
theorem dX9_takes_4 : decode cX9_takes 4 = .ok (.iload_n 0, 1) := by decide +kernel
theorem dX9_takes_5 : decode cX9_takes 5 = .ok (.iload_n 1, 1) := by decide +kernel
theorem dX9_takes_6 : decode cX9_takes 6 = .ok (.iconst 1, 1) := by decide +kernel
theorem dX9_takes_7 : decode cX9_takes 7 = .ok (.iadd, 1) := by decide +kernel
theorem dX9_takes_8 : decode cX9_takes 8 = .ok (.if_icmp .ne 7, 3) := by decide +kernel
theorem dX9_takes_11 : decode cX9_takes 11 = .ok (.iconst 1, 1) := by decide +kernel
theorem dX9_takes_12 : decode cX9_takes 12 = .ok (.goto 4, 3) := by decide +kernel
theorem dX9_takes_15 : decode cX9_takes 15 = .ok (.iconst 0, 1) := by decide +kernel
theorem dX9_takes_16 : decode cX9_takes 16 = .ok (.ireturn, 1) := by decide +kernel
theorem dX9_lowestBits_0 : decode cX9_lowestBits 0 = .ok (.iconst 1, 1) := by decide +kernel
theorem dX9_lowestBits_1 : decode cX9_lowestBits 1 = .ok (.iload_n 0, 1) := by decide +kernel
theorem dX9_lowestBits_2 : decode cX9_lowestBits 2 = .ok (.ishl, 1) := by decide +kernel
theorem dX9_lowestBits_3 : decode cX9_lowestBits 3 = .ok (.iconst 1, 1) := by decide +kernel
theorem dX9_lowestBits_4 : decode cX9_lowestBits 4 = .ok (.isub, 1) := by decide +kernel
theorem dX9_lowestBits_5 : decode cX9_lowestBits 5 = .ok (.ireturn, 1) := by decide +kernel
theorem dX9_packedPainting_0 : decode cX9_packedPainting 0 = .ok (.iload_n 1, 1) := by decide +kernel
theorem dX9_packedPainting_1 : decode cX9_packedPainting 1 = .ok (.aload_n 0, 1) := by decide +kernel
theorem dX9_packedPainting_2 : decode cX9_packedPainting 2 = .ok (.getfield 12, 3) := by decide +kernel
theorem dX9_packedPainting_5 : decode cX9_packedPainting 5 = .ok (.getfield 69, 3) := by decide +kernel
theorem dX9_packedPainting_8 : decode cX9_packedPainting 8 = .ok (.iconst 0, 1) := by decide +kernel
theorem dX9_packedPainting_9 : decode cX9_packedPainting 9 = .ok (.aload_n 0, 1) := by decide +kernel
theorem dX9_packedPainting_10 : decode cX9_packedPainting 10 = .ok (.getfield 12, 3) := by decide +kernel
theorem dX9_packedPainting_13 : decode cX9_packedPainting 13 = .ok (.getfield 86, 3) := by decide +kernel
theorem dX9_packedPainting_16 : decode cX9_packedPainting 16 = .ok (.invokestatic 322, 3) := by decide +kernel
theorem dX9_packedPainting_19 : decode cX9_packedPainting 19 = .ok (.ireturn, 1) := by decide +kernel
theorem dX9_paintingNumber_0 : decode cX9_paintingNumber 0 = .ok (.iload_n 1, 1) := by decide +kernel
theorem dX9_paintingNumber_1 : decode cX9_paintingNumber 1 = .ok (.aload_n 0, 1) := by decide +kernel
theorem dX9_paintingNumber_2 : decode cX9_paintingNumber 2 = .ok (.getfield 12, 3) := by decide +kernel
theorem dX9_paintingNumber_5 : decode cX9_paintingNumber 5 = .ok (.getfield 69, 3) := by decide +kernel
theorem dX9_paintingNumber_8 : decode cX9_paintingNumber 8 = .ok (.iconst 0, 1) := by decide +kernel
theorem dX9_paintingNumber_9 : decode cX9_paintingNumber 9 = .ok (.invokestatic 326, 3) := by decide +kernel
theorem dX9_paintingNumber_12 : decode cX9_paintingNumber 12 = .ok (.ireturn, 1) := by decide +kernel
theorem dX9_paintings_0 : decode cX9_paintings 0 = .ok (.iconst 1, 1) := by decide +kernel
theorem dX9_paintings_1 : decode cX9_paintings 1 = .ok (.istore_n 1, 1) := by decide +kernel
theorem dX9_paintings_2 : decode cX9_paintings 2 = .ok (.iconst 0, 1) := by decide +kernel
theorem dX9_paintings_3 : decode cX9_paintings 3 = .ok (.istore_n 2, 1) := by decide +kernel
theorem dX9_paintings_4 : decode cX9_paintings 4 = .ok (.iload_n 2, 1) := by decide +kernel
theorem dX9_paintings_5 : decode cX9_paintings 5 = .ok (.aload_n 0, 1) := by decide +kernel
theorem dX9_paintings_6 : decode cX9_paintings 6 = .ok (.getfield 12, 3) := by decide +kernel
theorem dX9_paintings_9 : decode cX9_paintings 9 = .ok (.getfield 69, 3) := by decide +kernel
theorem dX9_paintings_12 : decode cX9_paintings 12 = .ok (.if_icmp .ge 19, 3) := by decide +kernel
theorem dX9_paintings_15 : decode cX9_paintings 15 = .ok (.iload_n 1, 1) := by decide +kernel
theorem dX9_paintings_16 : decode cX9_paintings 16 = .ok (.aload_n 0, 1) := by decide +kernel
theorem dX9_paintings_17 : decode cX9_paintings 17 = .ok (.getfield 12, 3) := by decide +kernel
theorem dX9_paintings_20 : decode cX9_paintings 20 = .ok (.getfield 86, 3) := by decide +kernel
theorem dX9_paintings_23 : decode cX9_paintings 23 = .ok (.imul, 1) := by decide +kernel
theorem dX9_paintings_24 : decode cX9_paintings 24 = .ok (.istore_n 1, 1) := by decide +kernel
theorem dX9_paintings_25 : decode cX9_paintings 25 = .ok (.iinc 2 1, 3) := by decide +kernel
theorem dX9_paintings_28 : decode cX9_paintings 28 = .ok (.goto (-24), 3) := by decide +kernel
theorem dX9_paintings_31 : decode cX9_paintings 31 = .ok (.iload_n 1, 1) := by decide +kernel
theorem dX9_paintings_32 : decode cX9_paintings 32 = .ok (.ireturn, 1) := by decide +kernel
theorem dX9_howManyClasses_0 : decode cX9_howManyClasses 0 = .ok (.aload_n 0, 1) := by decide +kernel
theorem dX9_howManyClasses_1 : decode cX9_howManyClasses 1 = .ok (.getfield 34, 3) := by decide +kernel
theorem dX9_howManyClasses_4 : decode cX9_howManyClasses 4 = .ok (.aload_n 0, 1) := by decide +kernel
theorem dX9_howManyClasses_5 : decode cX9_howManyClasses 5 = .ok (.getfield 24, 3) := by decide +kernel
theorem dX9_howManyClasses_8 : decode cX9_howManyClasses 8 = .ok (.iload_n 1, 1) := by decide +kernel
theorem dX9_howManyClasses_9 : decode cX9_howManyClasses 9 = .ok (.invokevirtual 158, 3) := by decide +kernel
theorem dX9_howManyClasses_12 : decode cX9_howManyClasses 12 = .ok (.aload_n 0, 1) := by decide +kernel
theorem dX9_howManyClasses_13 : decode cX9_howManyClasses 13 = .ok (.getfield 34, 3) := by decide +kernel
theorem dX9_howManyClasses_16 : decode cX9_howManyClasses 16 = .ok (.aload_n 0, 1) := by decide +kernel
theorem dX9_howManyClasses_17 : decode cX9_howManyClasses 17 = .ok (.getfield 12, 3) := by decide +kernel
theorem dX9_howManyClasses_20 : decode cX9_howManyClasses 20 = .ok (.getfield 86, 3) := by decide +kernel
theorem dX9_howManyClasses_23 : decode cX9_howManyClasses 23 = .ok (.invokevirtual 178, 3) := by decide +kernel
theorem dX9_howManyClasses_26 : decode cX9_howManyClasses 26 = .ok (.l2i, 1) := by decide +kernel
theorem dX9_howManyClasses_27 : decode cX9_howManyClasses 27 = .ok (.ireturn, 1) := by decide +kernel
theorem dX9_classesBy_0 : decode cX9_classesBy 0 = .ok (.iload_n 1, 1) := by decide +kernel
theorem dX9_classesBy_1 : decode cX9_classesBy 1 = .ok (.ifCond .ne 10, 3) := by decide +kernel
theorem dX9_classesBy_4 : decode cX9_classesBy 4 = .ok (.aload_n 0, 1) := by decide +kernel
theorem dX9_classesBy_5 : decode cX9_classesBy 5 = .ok (.getfield 41, 3) := by decide +kernel
theorem dX9_classesBy_8 : decode cX9_classesBy 8 = .ok (.goto 7, 3) := by decide +kernel
theorem dX9_classesBy_11 : decode cX9_classesBy 11 = .ok (.aload_n 0, 1) := by decide +kernel
theorem dX9_classesBy_12 : decode cX9_classesBy 12 = .ok (.getfield 45, 3) := by decide +kernel
theorem dX9_classesBy_15 : decode cX9_classesBy 15 = .ok (.astore_n 2, 1) := by decide +kernel
theorem dX9_classesBy_16 : decode cX9_classesBy 16 = .ok (.aload_n 2, 1) := by decide +kernel
theorem dX9_classesBy_17 : decode cX9_classesBy 17 = .ok (.getfield 329, 3) := by decide +kernel
theorem dX9_classesBy_20 : decode cX9_classesBy 20 = .ok (.ifCond .ne 23, 3) := by decide +kernel
theorem dX9_classesBy_23 : decode cX9_classesBy 23 = .ok (.aload_n 2, 1) := by decide +kernel
theorem dX9_classesBy_24 : decode cX9_classesBy 24 = .ok (.aload_n 0, 1) := by decide +kernel
theorem dX9_classesBy_25 : decode cX9_classesBy 25 = .ok (.getfield 24, 3) := by decide +kernel
theorem dX9_classesBy_28 : decode cX9_classesBy 28 = .ok (.iload_n 1, 1) := by decide +kernel
theorem dX9_classesBy_29 : decode cX9_classesBy 29 = .ok (.aload_n 0, 1) := by decide +kernel
theorem dX9_classesBy_30 : decode cX9_classesBy 30 = .ok (.getfield 12, 3) := by decide +kernel
theorem dX9_classesBy_33 : decode cX9_classesBy 33 = .ok (.getfield 86, 3) := by decide +kernel
theorem dX9_classesBy_36 : decode cX9_classesBy 36 = .ok (.aload_n 0, 1) := by decide +kernel
theorem dX9_classesBy_37 : decode cX9_classesBy 37 = .ok (.invokevirtual 151, 3) := by decide +kernel
theorem dX9_classesBy_40 : decode cX9_classesBy 40 = .ok (.invokevirtual 332, 3) := by decide +kernel
theorem dX9_classesBy_43 : decode cX9_classesBy 43 = .ok (.aload_n 2, 1) := by decide +kernel
theorem dX9_classesBy_44 : decode cX9_classesBy 44 = .ok (.areturn, 1) := by decide +kernel
theorem dX9_forgetClasses_0 : decode cX9_forgetClasses 0 = .ok (.aload_n 0, 1) := by decide +kernel
theorem dX9_forgetClasses_1 : decode cX9_forgetClasses 1 = .ok (.getfield 41, 3) := by decide +kernel
theorem dX9_forgetClasses_4 : decode cX9_forgetClasses 4 = .ok (.iconst 0, 1) := by decide +kernel
theorem dX9_forgetClasses_5 : decode cX9_forgetClasses 5 = .ok (.putfield 329, 3) := by decide +kernel
theorem dX9_forgetClasses_8 : decode cX9_forgetClasses 8 = .ok (.aload_n 0, 1) := by decide +kernel
theorem dX9_forgetClasses_9 : decode cX9_forgetClasses 9 = .ok (.getfield 45, 3) := by decide +kernel
theorem dX9_forgetClasses_12 : decode cX9_forgetClasses 12 = .ok (.iconst 0, 1) := by decide +kernel
theorem dX9_forgetClasses_13 : decode cX9_forgetClasses 13 = .ok (.putfield 329, 3) := by decide +kernel
theorem dX9_forgetClasses_16 : decode cX9_forgetClasses 16 = .ok (.return_, 1) := by decide +kernel
theorem dX9_growMoves_0 : decode cX9_growMoves 0 = .ok (.aload_n 0, 1) := by decide +kernel
theorem dX9_growMoves_1 : decode cX9_growMoves 1 = .ok (.getfield 24, 3) := by decide +kernel
theorem dX9_growMoves_4 : decode cX9_growMoves 4 = .ok (.aload_n 0, 1) := by decide +kernel
theorem dX9_growMoves_5 : decode cX9_growMoves 5 = .ok (.getfield 12, 3) := by decide +kernel
theorem dX9_growMoves_8 : decode cX9_growMoves 8 = .ok (.getfield 103, 3) := by decide +kernel
theorem dX9_growMoves_11 : decode cX9_growMoves 11 = .ok (.aload_n 0, 1) := by decide +kernel
theorem dX9_growMoves_12 : decode cX9_growMoves 12 = .ok (.getfield 12, 3) := by decide +kernel
theorem dX9_growMoves_15 : decode cX9_growMoves 15 = .ok (.getfield 77, 3) := by decide +kernel
theorem dX9_growMoves_18 : decode cX9_growMoves 18 = .ok (.invokestatic 106, 3) := by decide +kernel
theorem dX9_growMoves_21 : decode cX9_growMoves 21 = .ok (.aload_n 0, 1) := by decide +kernel
theorem dX9_growMoves_22 : decode cX9_growMoves 22 = .ok (.getfield 12, 3) := by decide +kernel
theorem dX9_growMoves_25 : decode cX9_growMoves 25 = .ok (.getfield 69, 3) := by decide +kernel
theorem dX9_growMoves_28 : decode cX9_growMoves 28 = .ok (.invokevirtual 110, 3) := by decide +kernel
theorem dX9_growMoves_31 : decode cX9_growMoves 31 = .ok (.pop, 1) := by decide +kernel
theorem dX9_growMoves_32 : decode cX9_growMoves 32 = .ok (.aload_n 0, 1) := by decide +kernel
theorem dX9_growMoves_33 : decode cX9_growMoves 33 = .ok (.invokevirtual 83, 3) := by decide +kernel
theorem dX9_growMoves_36 : decode cX9_growMoves 36 = .ok (.return_, 1) := by decide +kernel
theorem dX9_tellMove_0 : decode cX9_tellMove 0 = .ok (.iload_n 1, 1) := by decide +kernel
theorem dX9_tellMove_1 : decode cX9_tellMove 1 = .ok (.iconst 1, 1) := by decide +kernel
theorem dX9_tellMove_2 : decode cX9_tellMove 2 = .ok (.ishr, 1) := by decide +kernel
theorem dX9_tellMove_3 : decode cX9_tellMove 3 = .ok (.istore_n 3, 1) := by decide +kernel
theorem dX9_tellMove_4 : decode cX9_tellMove 4 = .ok (.iload_n 2, 1) := by decide +kernel
theorem dX9_tellMove_5 : decode cX9_tellMove 5 = .ok (.tableswitch 56 0 2 #[27, 40, 44], 27) := by decide +kernel
theorem dX9_tellMove_32 : decode cX9_tellMove 32 = .ok (.iload_n 3, 1) := by decide +kernel
theorem dX9_tellMove_33 : decode cX9_tellMove 33 = .ok (.aload_n 0, 1) := by decide +kernel
theorem dX9_tellMove_34 : decode cX9_tellMove 34 = .ok (.getfield 12, 3) := by decide +kernel
theorem dX9_tellMove_37 : decode cX9_tellMove 37 = .ok (.getfield 69, 3) := by decide +kernel
theorem dX9_tellMove_40 : decode cX9_tellMove 40 = .ok (.iconst 1, 1) := by decide +kernel
theorem dX9_tellMove_41 : decode cX9_tellMove 41 = .ok (.invokestatic 326, 3) := by decide +kernel
theorem dX9_tellMove_44 : decode cX9_tellMove 44 = .ok (.ireturn, 1) := by decide +kernel
theorem dX9_tellMove_45 : decode cX9_tellMove 45 = .ok (.iload_n 1, 1) := by decide +kernel
theorem dX9_tellMove_46 : decode cX9_tellMove 46 = .ok (.iconst 1, 1) := by decide +kernel
theorem dX9_tellMove_47 : decode cX9_tellMove 47 = .ok (.iand, 1) := by decide +kernel
theorem dX9_tellMove_48 : decode cX9_tellMove 48 = .ok (.ireturn, 1) := by decide +kernel
theorem dX9_tellMove_49 : decode cX9_tellMove 49 = .ok (.iload_n 3, 1) := by decide +kernel
theorem dX9_tellMove_50 : decode cX9_tellMove 50 = .ok (.aload_n 0, 1) := by decide +kernel
theorem dX9_tellMove_51 : decode cX9_tellMove 51 = .ok (.getfield 12, 3) := by decide +kernel
theorem dX9_tellMove_54 : decode cX9_tellMove 54 = .ok (.getfield 69, 3) := by decide +kernel
theorem dX9_tellMove_57 : decode cX9_tellMove 57 = .ok (.invokestatic 336, 3) := by decide +kernel
theorem dX9_tellMove_60 : decode cX9_tellMove 60 = .ok (.ireturn, 1) := by decide +kernel
theorem dX9_tellMove_61 : decode cX9_tellMove 61 = .ok (.iconst (-1), 1) := by decide +kernel
theorem dX9_tellMove_62 : decode cX9_tellMove 62 = .ok (.ireturn, 1) := by decide +kernel
theorem dX9_productOf_0 : decode cX9_productOf 0 = .ok (.aload_n 0, 1) := by decide +kernel
theorem dX9_productOf_1 : decode cX9_productOf 1 = .ok (.getfield 12, 3) := by decide +kernel
theorem dX9_productOf_4 : decode cX9_productOf 4 = .ok (.getfield 69, 3) := by decide +kernel
theorem dX9_productOf_7 : decode cX9_productOf 7 = .ok (.invokestatic 339, 3) := by decide +kernel
theorem dX9_productOf_10 : decode cX9_productOf 10 = .ok (.iconst 1, 1) := by decide +kernel
theorem dX9_productOf_11 : decode cX9_productOf 11 = .ok (.ishl, 1) := by decide +kernel
theorem dX9_productOf_12 : decode cX9_productOf 12 = .ok (.istore_n 2, 1) := by decide +kernel
theorem dX9_productOf_13 : decode cX9_productOf 13 = .ok (.iconst 0, 1) := by decide +kernel
theorem dX9_productOf_14 : decode cX9_productOf 14 = .ok (.istore_n 3, 1) := by decide +kernel
theorem dX9_productOf_15 : decode cX9_productOf 15 = .ok (.iload_n 3, 1) := by decide +kernel
theorem dX9_productOf_16 : decode cX9_productOf 16 = .ok (.iconst 3, 1) := by decide +kernel
theorem dX9_productOf_17 : decode cX9_productOf 17 = .ok (.if_icmp .ge 55, 3) := by decide +kernel
theorem dX9_productOf_20 : decode cX9_productOf 20 = .ok (.aload_n 0, 1) := by decide +kernel
theorem dX9_productOf_21 : decode cX9_productOf 21 = .ok (.getfield 12, 3) := by decide +kernel
theorem dX9_productOf_24 : decode cX9_productOf 24 = .ok (.getfield 136, 3) := by decide +kernel
theorem dX9_productOf_27 : decode cX9_productOf 27 = .ok (.iload_n 1, 1) := by decide +kernel
theorem dX9_productOf_28 : decode cX9_productOf 28 = .ok (.iconst 3, 1) := by decide +kernel
theorem dX9_productOf_29 : decode cX9_productOf 29 = .ok (.imul, 1) := by decide +kernel
theorem dX9_productOf_30 : decode cX9_productOf 30 = .ok (.iload_n 3, 1) := by decide +kernel
theorem dX9_productOf_31 : decode cX9_productOf 31 = .ok (.iadd, 1) := by decide +kernel
theorem dX9_productOf_32 : decode cX9_productOf 32 = .ok (.iaload, 1) := by decide +kernel
theorem dX9_productOf_33 : decode cX9_productOf 33 = .ok (.istore 4, 2) := by decide +kernel
theorem dX9_productOf_35 : decode cX9_productOf 35 = .ok (.aload_n 0, 1) := by decide +kernel
theorem dX9_productOf_36 : decode cX9_productOf 36 = .ok (.iload 4, 2) := by decide +kernel
theorem dX9_productOf_38 : decode cX9_productOf 38 = .ok (.invokevirtual 126, 3) := by decide +kernel
theorem dX9_productOf_41 : decode cX9_productOf 41 = .ok (.ifCond .eq 25, 3) := by decide +kernel
theorem dX9_productOf_44 : decode cX9_productOf 44 = .ok (.iload_n 2, 1) := by decide +kernel
theorem dX9_productOf_45 : decode cX9_productOf 45 = .ok (.aload_n 0, 1) := by decide +kernel
theorem dX9_productOf_46 : decode cX9_productOf 46 = .ok (.getfield 12, 3) := by decide +kernel
theorem dX9_productOf_49 : decode cX9_productOf 49 = .ok (.getfield 103, 3) := by decide +kernel
theorem dX9_productOf_52 : decode cX9_productOf 52 = .ok (.iload 4, 2) := by decide +kernel
theorem dX9_productOf_54 : decode cX9_productOf 54 = .ok (.iaload, 1) := by decide +kernel
theorem dX9_productOf_55 : decode cX9_productOf 55 = .ok (.aload_n 0, 1) := by decide +kernel
theorem dX9_productOf_56 : decode cX9_productOf 56 = .ok (.getfield 12, 3) := by decide +kernel
theorem dX9_productOf_59 : decode cX9_productOf 59 = .ok (.getfield 69, 3) := by decide +kernel
theorem dX9_productOf_62 : decode cX9_productOf 62 = .ok (.invokestatic 342, 3) := by decide +kernel
theorem dX9_productOf_65 : decode cX9_productOf 65 = .ok (.istore_n 2, 1) := by decide +kernel
theorem dX9_productOf_66 : decode cX9_productOf 66 = .ok (.iinc 3 1, 3) := by decide +kernel
theorem dX9_productOf_69 : decode cX9_productOf 69 = .ok (.goto (-54), 3) := by decide +kernel
theorem dX9_productOf_72 : decode cX9_productOf 72 = .ok (.iload_n 2, 1) := by decide +kernel
theorem dX9_productOf_73 : decode cX9_productOf 73 = .ok (.ireturn, 1) := by decide +kernel
theorem dX9_commonDivisor_0 : decode cX9_commonDivisor 0 = .ok (.iload_n 0, 1) := by decide +kernel
theorem dX9_commonDivisor_1 : decode cX9_commonDivisor 1 = .ok (.istore_n 2, 1) := by decide +kernel
theorem dX9_commonDivisor_2 : decode cX9_commonDivisor 2 = .ok (.iload_n 1, 1) := by decide +kernel
theorem dX9_commonDivisor_3 : decode cX9_commonDivisor 3 = .ok (.istore_n 3, 1) := by decide +kernel
theorem dX9_commonDivisor_4 : decode cX9_commonDivisor 4 = .ok (.iconst 0, 1) := by decide +kernel
theorem dX9_commonDivisor_5 : decode cX9_commonDivisor 5 = .ok (.istore 4, 2) := by decide +kernel
theorem dX9_commonDivisor_7 : decode cX9_commonDivisor 7 = .ok (.iload 4, 2) := by decide +kernel
theorem dX9_commonDivisor_9 : decode cX9_commonDivisor 9 = .ok (.bipush 64, 2) := by decide +kernel
theorem dX9_commonDivisor_11 : decode cX9_commonDivisor 11 = .ok (.if_icmp .ge 23, 3) := by decide +kernel
theorem dX9_commonDivisor_14 : decode cX9_commonDivisor 14 = .ok (.iload_n 3, 1) := by decide +kernel
theorem dX9_commonDivisor_15 : decode cX9_commonDivisor 15 = .ok (.ifCond .le 19, 3) := by decide +kernel
theorem dX9_commonDivisor_18 : decode cX9_commonDivisor 18 = .ok (.iload_n 2, 1) := by decide +kernel
theorem dX9_commonDivisor_19 : decode cX9_commonDivisor 19 = .ok (.iload_n 3, 1) := by decide +kernel
theorem dX9_commonDivisor_20 : decode cX9_commonDivisor 20 = .ok (.irem, 1) := by decide +kernel
theorem dX9_commonDivisor_21 : decode cX9_commonDivisor 21 = .ok (.istore 5, 2) := by decide +kernel
theorem dX9_commonDivisor_23 : decode cX9_commonDivisor 23 = .ok (.iload_n 3, 1) := by decide +kernel
theorem dX9_commonDivisor_24 : decode cX9_commonDivisor 24 = .ok (.istore_n 2, 1) := by decide +kernel
theorem dX9_commonDivisor_25 : decode cX9_commonDivisor 25 = .ok (.iload 5, 2) := by decide +kernel
theorem dX9_commonDivisor_27 : decode cX9_commonDivisor 27 = .ok (.istore_n 3, 1) := by decide +kernel
theorem dX9_commonDivisor_28 : decode cX9_commonDivisor 28 = .ok (.iinc 4 1, 3) := by decide +kernel
theorem dX9_commonDivisor_31 : decode cX9_commonDivisor 31 = .ok (.goto (-24), 3) := by decide +kernel
theorem dX9_commonDivisor_34 : decode cX9_commonDivisor 34 = .ok (.iload_n 2, 1) := by decide +kernel
theorem dX9_commonDivisor_35 : decode cX9_commonDivisor 35 = .ok (.ireturn, 1) := by decide +kernel
theorem dX9_doClause_0 : decode cX9_doClause 0 = .ok (.iload_n 1, 1) := by decide +kernel
theorem dX9_doClause_1 : decode cX9_doClause 1 = .ok (.tableswitch 106 107 119 #[73, 106, 99, 67, 106, 106, 106, 106, 106, 92, 106, 106, 79], 67) := by decide +kernel
theorem dX9_doClause_68 : decode cX9_doClause 68 = .ok (.aload_n 0, 1) := by decide +kernel
theorem dX9_doClause_69 : decode cX9_doClause 69 = .ok (.iload_n 2, 1) := by decide +kernel
theorem dX9_doClause_70 : decode cX9_doClause 70 = .ok (.invokevirtual 345, 3) := by decide +kernel
theorem dX9_doClause_73 : decode cX9_doClause 73 = .ok (.ireturn, 1) := by decide +kernel
theorem dX9_doClause_74 : decode cX9_doClause 74 = .ok (.aload_n 0, 1) := by decide +kernel
theorem dX9_doClause_75 : decode cX9_doClause 75 = .ok (.iload_n 2, 1) := by decide +kernel
theorem dX9_doClause_76 : decode cX9_doClause 76 = .ok (.invokevirtual 347, 3) := by decide +kernel
theorem dX9_doClause_79 : decode cX9_doClause 79 = .ok (.ireturn, 1) := by decide +kernel
theorem dX9_doClause_80 : decode cX9_doClause 80 = .ok (.aload_n 0, 1) := by decide +kernel
theorem dX9_doClause_81 : decode cX9_doClause 81 = .ok (.iload_n 2, 1) := by decide +kernel
theorem dX9_doClause_82 : decode cX9_doClause 82 = .ok (.bipush 10, 2) := by decide +kernel
theorem dX9_doClause_84 : decode cX9_doClause 84 = .ok (.idiv, 1) := by decide +kernel
theorem dX9_doClause_85 : decode cX9_doClause 85 = .ok (.iload_n 2, 1) := by decide +kernel
theorem dX9_doClause_86 : decode cX9_doClause 86 = .ok (.bipush 10, 2) := by decide +kernel
theorem dX9_doClause_88 : decode cX9_doClause 88 = .ok (.irem, 1) := by decide +kernel
theorem dX9_doClause_89 : decode cX9_doClause 89 = .ok (.invokevirtual 349, 3) := by decide +kernel
theorem dX9_doClause_92 : decode cX9_doClause 92 = .ok (.ireturn, 1) := by decide +kernel
theorem dX9_doClause_93 : decode cX9_doClause 93 = .ok (.aload_n 0, 1) := by decide +kernel
theorem dX9_doClause_94 : decode cX9_doClause 94 = .ok (.iload_n 2, 1) := by decide +kernel
theorem dX9_doClause_95 : decode cX9_doClause 95 = .ok (.iconst 0, 1) := by decide +kernel
theorem dX9_doClause_96 : decode cX9_doClause 96 = .ok (.invokevirtual 352, 3) := by decide +kernel
theorem dX9_doClause_99 : decode cX9_doClause 99 = .ok (.ireturn, 1) := by decide +kernel
theorem dX9_doClause_100 : decode cX9_doClause 100 = .ok (.aload_n 0, 1) := by decide +kernel
theorem dX9_doClause_101 : decode cX9_doClause 101 = .ok (.iload_n 2, 1) := by decide +kernel
theorem dX9_doClause_102 : decode cX9_doClause 102 = .ok (.iconst 1, 1) := by decide +kernel
theorem dX9_doClause_103 : decode cX9_doClause 103 = .ok (.invokevirtual 352, 3) := by decide +kernel
theorem dX9_doClause_106 : decode cX9_doClause 106 = .ok (.ireturn, 1) := by decide +kernel
theorem dX9_doClause_107 : decode cX9_doClause 107 = .ok (.iconst (-1), 1) := by decide +kernel
theorem dX9_doClause_108 : decode cX9_doClause 108 = .ok (.ireturn, 1) := by decide +kernel
theorem dX9_allIsAsSeen_0 : decode cX9_allIsAsSeen 0 = .ok (.aload_n 0, 1) := by decide +kernel
theorem dX9_allIsAsSeen_1 : decode cX9_allIsAsSeen 1 = .ok (.getfield 28, 3) := by decide +kernel
theorem dX9_allIsAsSeen_4 : decode cX9_allIsAsSeen 4 = .ok (.aload_n 0, 1) := by decide +kernel
theorem dX9_allIsAsSeen_5 : decode cX9_allIsAsSeen 5 = .ok (.getfield 12, 3) := by decide +kernel
theorem dX9_allIsAsSeen_8 : decode cX9_allIsAsSeen 8 = .ok (.getfield 103, 3) := by decide +kernel
theorem dX9_allIsAsSeen_11 : decode cX9_allIsAsSeen 11 = .ok (.iload_n 1, 1) := by decide +kernel
theorem dX9_allIsAsSeen_12 : decode cX9_allIsAsSeen 12 = .ok (.aload_n 0, 1) := by decide +kernel
theorem dX9_allIsAsSeen_13 : decode cX9_allIsAsSeen 13 = .ok (.getfield 12, 3) := by decide +kernel
theorem dX9_allIsAsSeen_16 : decode cX9_allIsAsSeen 16 = .ok (.getfield 69, 3) := by decide +kernel
theorem dX9_allIsAsSeen_19 : decode cX9_allIsAsSeen 19 = .ok (.invokevirtual 110, 3) := by decide +kernel
theorem dX9_allIsAsSeen_22 : decode cX9_allIsAsSeen 22 = .ok (.pop, 1) := by decide +kernel
theorem dX9_allIsAsSeen_23 : decode cX9_allIsAsSeen 23 = .ok (.iconst 0, 1) := by decide +kernel
theorem dX9_allIsAsSeen_24 : decode cX9_allIsAsSeen 24 = .ok (.istore_n 2, 1) := by decide +kernel
theorem dX9_allIsAsSeen_25 : decode cX9_allIsAsSeen 25 = .ok (.iload_n 2, 1) := by decide +kernel
theorem dX9_allIsAsSeen_26 : decode cX9_allIsAsSeen 26 = .ok (.aload_n 0, 1) := by decide +kernel
theorem dX9_allIsAsSeen_27 : decode cX9_allIsAsSeen 27 = .ok (.getfield 12, 3) := by decide +kernel
theorem dX9_allIsAsSeen_30 : decode cX9_allIsAsSeen 30 = .ok (.getfield 260, 3) := by decide +kernel
theorem dX9_allIsAsSeen_33 : decode cX9_allIsAsSeen 33 = .ok (.if_icmp .ge 60, 3) := by decide +kernel
theorem dX9_allIsAsSeen_36 : decode cX9_allIsAsSeen 36 = .ok (.aload_n 0, 1) := by decide +kernel
theorem dX9_allIsAsSeen_37 : decode cX9_allIsAsSeen 37 = .ok (.getfield 28, 3) := by decide +kernel
theorem dX9_allIsAsSeen_40 : decode cX9_allIsAsSeen 40 = .ok (.aload_n 0, 1) := by decide +kernel
theorem dX9_allIsAsSeen_41 : decode cX9_allIsAsSeen 41 = .ok (.getfield 12, 3) := by decide +kernel
theorem dX9_allIsAsSeen_44 : decode cX9_allIsAsSeen 44 = .ok (.getfield 355, 3) := by decide +kernel
theorem dX9_allIsAsSeen_47 : decode cX9_allIsAsSeen 47 = .ok (.iload_n 2, 1) := by decide +kernel
theorem dX9_allIsAsSeen_48 : decode cX9_allIsAsSeen 48 = .ok (.iaload, 1) := by decide +kernel
theorem dX9_allIsAsSeen_49 : decode cX9_allIsAsSeen 49 = .ok (.aload_n 0, 1) := by decide +kernel
theorem dX9_allIsAsSeen_50 : decode cX9_allIsAsSeen 50 = .ok (.getfield 12, 3) := by decide +kernel
theorem dX9_allIsAsSeen_53 : decode cX9_allIsAsSeen 53 = .ok (.getfield 358, 3) := by decide +kernel
theorem dX9_allIsAsSeen_56 : decode cX9_allIsAsSeen 56 = .ok (.iload_n 2, 1) := by decide +kernel
theorem dX9_allIsAsSeen_57 : decode cX9_allIsAsSeen 57 = .ok (.iaload, 1) := by decide +kernel
theorem dX9_allIsAsSeen_58 : decode cX9_allIsAsSeen 58 = .ok (.iconst 1, 1) := by decide +kernel
theorem dX9_allIsAsSeen_59 : decode cX9_allIsAsSeen 59 = .ok (.invokevirtual 211, 3) := by decide +kernel
theorem dX9_allIsAsSeen_62 : decode cX9_allIsAsSeen 62 = .ok (.istore_n 3, 1) := by decide +kernel
theorem dX9_allIsAsSeen_63 : decode cX9_allIsAsSeen 63 = .ok (.iload_n 3, 1) := by decide +kernel
theorem dX9_allIsAsSeen_64 : decode cX9_allIsAsSeen 64 = .ok (.aload_n 0, 1) := by decide +kernel
theorem dX9_allIsAsSeen_65 : decode cX9_allIsAsSeen 65 = .ok (.getfield 12, 3) := by decide +kernel
theorem dX9_allIsAsSeen_68 : decode cX9_allIsAsSeen 68 = .ok (.getfield 361, 3) := by decide +kernel
theorem dX9_allIsAsSeen_71 : decode cX9_allIsAsSeen 71 = .ok (.iload_n 2, 1) := by decide +kernel
theorem dX9_allIsAsSeen_72 : decode cX9_allIsAsSeen 72 = .ok (.iaload, 1) := by decide +kernel
theorem dX9_allIsAsSeen_73 : decode cX9_allIsAsSeen 73 = .ok (.iconst 1, 1) := by decide +kernel
theorem dX9_allIsAsSeen_74 : decode cX9_allIsAsSeen 74 = .ok (.if_icmp .ne 7, 3) := by decide +kernel
theorem dX9_allIsAsSeen_77 : decode cX9_allIsAsSeen 77 = .ok (.iconst 1, 1) := by decide +kernel
theorem dX9_allIsAsSeen_78 : decode cX9_allIsAsSeen 78 = .ok (.goto 4, 3) := by decide +kernel
theorem dX9_allIsAsSeen_81 : decode cX9_allIsAsSeen 81 = .ok (.iconst 0, 1) := by decide +kernel
theorem dX9_allIsAsSeen_82 : decode cX9_allIsAsSeen 82 = .ok (.if_icmp .eq 5, 3) := by decide +kernel
theorem dX9_allIsAsSeen_85 : decode cX9_allIsAsSeen 85 = .ok (.iconst 0, 1) := by decide +kernel
theorem dX9_allIsAsSeen_86 : decode cX9_allIsAsSeen 86 = .ok (.ireturn, 1) := by decide +kernel
theorem dX9_allIsAsSeen_87 : decode cX9_allIsAsSeen 87 = .ok (.iinc 2 1, 3) := by decide +kernel
theorem dX9_allIsAsSeen_90 : decode cX9_allIsAsSeen 90 = .ok (.goto (-65), 3) := by decide +kernel
theorem dX9_allIsAsSeen_93 : decode cX9_allIsAsSeen 93 = .ok (.iconst 1, 1) := by decide +kernel
theorem dX9_allIsAsSeen_94 : decode cX9_allIsAsSeen 94 = .ok (.ireturn, 1) := by decide +kernel
theorem dX10_in_0 : decode cX10_in 0 = .ok (.lload_n 0, 1) := by decide +kernel
theorem dX10_in_1 : decode cX10_in 1 = .ok (.lload_n 2, 1) := by decide +kernel
theorem dX10_in_2 : decode cX10_in 2 = .ok (.lcmp, 1) := by decide +kernel
theorem dX10_in_3 : decode cX10_in 3 = .ok (.ifCond .lt 14, 3) := by decide +kernel
theorem dX10_in_6 : decode cX10_in 6 = .ok (.lload_n 0, 1) := by decide +kernel
theorem dX10_in_7 : decode cX10_in 7 = .ok (.lload 4, 2) := by decide +kernel
theorem dX10_in_9 : decode cX10_in 9 = .ok (.lcmp, 1) := by decide +kernel
theorem dX10_in_10 : decode cX10_in 10 = .ok (.ifCond .gt 7, 3) := by decide +kernel
theorem dX10_in_13 : decode cX10_in 13 = .ok (.iconst 1, 1) := by decide +kernel
theorem dX10_in_14 : decode cX10_in 14 = .ok (.goto 4, 3) := by decide +kernel
theorem dX10_in_17 : decode cX10_in 17 = .ok (.iconst 0, 1) := by decide +kernel
theorem dX10_in_18 : decode cX10_in 18 = .ok (.ireturn, 1) := by decide +kernel
theorem dX10_has_0 : decode cX10_has 0 = .ok (.iload_n 0, 1) := by decide +kernel
theorem dX10_has_1 : decode cX10_has 1 = .ok (.iload_n 1, 1) := by decide +kernel
theorem dX10_has_2 : decode cX10_has 2 = .ok (.ishr, 1) := by decide +kernel
theorem dX10_has_3 : decode cX10_has 3 = .ok (.iconst 1, 1) := by decide +kernel
theorem dX10_has_4 : decode cX10_has 4 = .ok (.iand, 1) := by decide +kernel
theorem dX10_has_5 : decode cX10_has 5 = .ok (.iconst 1, 1) := by decide +kernel
theorem dX10_has_6 : decode cX10_has 6 = .ok (.if_icmp .ne 7, 3) := by decide +kernel
theorem dX10_has_9 : decode cX10_has 9 = .ok (.iconst 1, 1) := by decide +kernel
theorem dX10_has_10 : decode cX10_has 10 = .ok (.goto 4, 3) := by decide +kernel
theorem dX10_has_13 : decode cX10_has 13 = .ok (.iconst 0, 1) := by decide +kernel
theorem dX10_has_14 : decode cX10_has 14 = .ok (.ireturn, 1) := by decide +kernel
theorem dX10_init_0 : decode cX10_init 0 = .ok (.aload_n 0, 1) := by decide +kernel
theorem dX10_init_1 : decode cX10_init 1 = .ok (.invokespecial 9, 3) := by decide +kernel
theorem dX10_init_4 : decode cX10_init 4 = .ok (.aload_n 0, 1) := by decide +kernel
theorem dX10_init_5 : decode cX10_init 5 = .ok (.bipush 82, 2) := by decide +kernel
theorem dX10_init_7 : decode cX10_init 7 = .ok (.newarray .int, 2) := by decide +kernel
theorem dX10_init_9 : decode cX10_init 9 = .ok (.putfield 15, 3) := by decide +kernel
theorem dX10_init_12 : decode cX10_init 12 = .ok (.aload_n 0, 1) := by decide +kernel
theorem dX10_init_13 : decode cX10_init 13 = .ok (.bipush 82, 2) := by decide +kernel
theorem dX10_init_15 : decode cX10_init 15 = .ok (.newarray .int, 2) := by decide +kernel
theorem dX10_init_17 : decode cX10_init 17 = .ok (.putfield 19, 3) := by decide +kernel
theorem dX10_init_20 : decode cX10_init 20 = .ok (.aload_n 0, 1) := by decide +kernel
theorem dX10_init_21 : decode cX10_init 21 = .ok (.sipush 726, 3) := by decide +kernel
theorem dX10_init_24 : decode cX10_init 24 = .ok (.newarray .int, 2) := by decide +kernel
theorem dX10_init_26 : decode cX10_init 26 = .ok (.putfield 22, 3) := by decide +kernel
theorem dX10_init_29 : decode cX10_init 29 = .ok (.aload_n 0, 1) := by decide +kernel
theorem dX10_init_30 : decode cX10_init 30 = .ok (.bipush 121, 2) := by decide +kernel
theorem dX10_init_32 : decode cX10_init 32 = .ok (.newarray .int, 2) := by decide +kernel
theorem dX10_init_34 : decode cX10_init 34 = .ok (.putfield 25, 3) := by decide +kernel
theorem dX10_init_37 : decode cX10_init 37 = .ok (.aload_n 0, 1) := by decide +kernel
theorem dX10_init_38 : decode cX10_init 38 = .ok (.iconst 3, 1) := by decide +kernel
theorem dX10_init_39 : decode cX10_init 39 = .ok (.newarray .int, 2) := by decide +kernel
theorem dX10_init_41 : decode cX10_init 41 = .ok (.putfield 28, 3) := by decide +kernel
theorem dX10_init_44 : decode cX10_init 44 = .ok (.aload_n 0, 1) := by decide +kernel
theorem dX10_init_45 : decode cX10_init 45 = .ok (.iconst 3, 1) := by decide +kernel
theorem dX10_init_46 : decode cX10_init 46 = .ok (.newarray .int, 2) := by decide +kernel
theorem dX10_init_48 : decode cX10_init 48 = .ok (.putfield 31, 3) := by decide +kernel
theorem dX10_init_51 : decode cX10_init 51 = .ok (.aload_n 0, 1) := by decide +kernel
theorem dX10_init_52 : decode cX10_init 52 = .ok (.bipush 6, 2) := by decide +kernel
theorem dX10_init_54 : decode cX10_init 54 = .ok (.newarray .int, 2) := by decide +kernel
theorem dX10_init_56 : decode cX10_init 56 = .ok (.putfield 34, 3) := by decide +kernel
theorem dX10_init_59 : decode cX10_init 59 = .ok (.aload_n 0, 1) := by decide +kernel
theorem dX10_init_60 : decode cX10_init 60 = .ok (.bipush 6, 2) := by decide +kernel
theorem dX10_init_62 : decode cX10_init 62 = .ok (.newarray .int, 2) := by decide +kernel
theorem dX10_init_64 : decode cX10_init 64 = .ok (.putfield 37, 3) := by decide +kernel
theorem dX10_init_67 : decode cX10_init 67 = .ok (.aload_n 0, 1) := by decide +kernel
theorem dX10_init_68 : decode cX10_init 68 = .ok (.sipush 4096, 3) := by decide +kernel
theorem dX10_init_71 : decode cX10_init 71 = .ok (.newarray .int, 2) := by decide +kernel
theorem dX10_init_73 : decode cX10_init 73 = .ok (.putfield 40, 3) := by decide +kernel
theorem dX10_init_76 : decode cX10_init 76 = .ok (.aload_n 0, 1) := by decide +kernel
theorem dX10_init_77 : decode cX10_init 77 = .ok (.sipush 4096, 3) := by decide +kernel
theorem dX10_init_80 : decode cX10_init 80 = .ok (.newarray .boolean, 2) := by decide +kernel
theorem dX10_init_82 : decode cX10_init 82 = .ok (.putfield 43, 3) := by decide +kernel
theorem dX10_init_85 : decode cX10_init 85 = .ok (.aload_n 0, 1) := by decide +kernel
theorem dX10_init_86 : decode cX10_init 86 = .ok (.bipush 120, 2) := by decide +kernel
theorem dX10_init_88 : decode cX10_init 88 = .ok (.newarray .int, 2) := by decide +kernel
theorem dX10_init_90 : decode cX10_init 90 = .ok (.putfield 47, 3) := by decide +kernel
theorem dX10_init_93 : decode cX10_init 93 = .ok (.aload_n 0, 1) := by decide +kernel
theorem dX10_init_94 : decode cX10_init 94 = .ok (.bipush 120, 2) := by decide +kernel
theorem dX10_init_96 : decode cX10_init 96 = .ok (.newarray .int, 2) := by decide +kernel
theorem dX10_init_98 : decode cX10_init 98 = .ok (.putfield 50, 3) := by decide +kernel
theorem dX10_init_101 : decode cX10_init 101 = .ok (.aload_n 0, 1) := by decide +kernel
theorem dX10_init_102 : decode cX10_init 102 = .ok (.bipush 100, 2) := by decide +kernel
theorem dX10_init_104 : decode cX10_init 104 = .ok (.newarray .int, 2) := by decide +kernel
theorem dX10_init_106 : decode cX10_init 106 = .ok (.putfield 53, 3) := by decide +kernel
theorem dX10_init_109 : decode cX10_init 109 = .ok (.aload_n 0, 1) := by decide +kernel
theorem dX10_init_110 : decode cX10_init 110 = .ok (.bipush 12, 2) := by decide +kernel
theorem dX10_init_112 : decode cX10_init 112 = .ok (.newarray .int, 2) := by decide +kernel
theorem dX10_init_114 : decode cX10_init 114 = .ok (.putfield 56, 3) := by decide +kernel
theorem dX10_init_117 : decode cX10_init 117 = .ok (.aload_n 0, 1) := by decide +kernel
theorem dX10_init_118 : decode cX10_init 118 = .ok (.bipush 12, 2) := by decide +kernel
theorem dX10_init_120 : decode cX10_init 120 = .ok (.newarray .int, 2) := by decide +kernel
theorem dX10_init_122 : decode cX10_init 122 = .ok (.putfield 59, 3) := by decide +kernel
theorem dX10_init_125 : decode cX10_init 125 = .ok (.aload_n 0, 1) := by decide +kernel
theorem dX10_init_126 : decode cX10_init 126 = .ok (.bipush 12, 2) := by decide +kernel
theorem dX10_init_128 : decode cX10_init 128 = .ok (.newarray .int, 2) := by decide +kernel
theorem dX10_init_130 : decode cX10_init 130 = .ok (.putfield 62, 3) := by decide +kernel
theorem dX10_init_133 : decode cX10_init 133 = .ok (.aload_n 0, 1) := by decide +kernel
theorem dX10_init_134 : decode cX10_init 134 = .ok (.bipush 82, 2) := by decide +kernel
theorem dX10_init_136 : decode cX10_init 136 = .ok (.newarray .int, 2) := by decide +kernel
theorem dX10_init_138 : decode cX10_init 138 = .ok (.putfield 65, 3) := by decide +kernel
theorem dX10_init_141 : decode cX10_init 141 = .ok (.aload_n 0, 1) := by decide +kernel
theorem dX10_init_142 : decode cX10_init 142 = .ok (.bipush 6, 2) := by decide +kernel
theorem dX10_init_144 : decode cX10_init 144 = .ok (.newarray .int, 2) := by decide +kernel
theorem dX10_init_146 : decode cX10_init 146 = .ok (.dup, 1) := by decide +kernel
theorem dX10_init_147 : decode cX10_init 147 = .ok (.iconst 0, 1) := by decide +kernel
theorem dX10_init_148 : decode cX10_init 148 = .ok (.iconst (-1), 1) := by decide +kernel
theorem dX10_init_149 : decode cX10_init 149 = .ok (.iastore, 1) := by decide +kernel
theorem dX10_init_150 : decode cX10_init 150 = .ok (.dup, 1) := by decide +kernel
theorem dX10_init_151 : decode cX10_init 151 = .ok (.iconst 1, 1) := by decide +kernel
theorem dX10_init_152 : decode cX10_init 152 = .ok (.iconst (-1), 1) := by decide +kernel
theorem dX10_init_153 : decode cX10_init 153 = .ok (.iastore, 1) := by decide +kernel
theorem dX10_init_154 : decode cX10_init 154 = .ok (.dup, 1) := by decide +kernel
theorem dX10_init_155 : decode cX10_init 155 = .ok (.iconst 2, 1) := by decide +kernel
theorem dX10_init_156 : decode cX10_init 156 = .ok (.iconst (-1), 1) := by decide +kernel
theorem dX10_init_157 : decode cX10_init 157 = .ok (.iastore, 1) := by decide +kernel
theorem dX10_init_158 : decode cX10_init 158 = .ok (.dup, 1) := by decide +kernel
theorem dX10_init_159 : decode cX10_init 159 = .ok (.iconst 3, 1) := by decide +kernel
theorem dX10_init_160 : decode cX10_init 160 = .ok (.iconst (-1), 1) := by decide +kernel
theorem dX10_init_161 : decode cX10_init 161 = .ok (.iastore, 1) := by decide +kernel
theorem dX10_init_162 : decode cX10_init 162 = .ok (.dup, 1) := by decide +kernel
theorem dX10_init_163 : decode cX10_init 163 = .ok (.iconst 4, 1) := by decide +kernel
theorem dX10_init_164 : decode cX10_init 164 = .ok (.iconst (-1), 1) := by decide +kernel
theorem dX10_init_165 : decode cX10_init 165 = .ok (.iastore, 1) := by decide +kernel
theorem dX10_init_166 : decode cX10_init 166 = .ok (.dup, 1) := by decide +kernel
theorem dX10_init_167 : decode cX10_init 167 = .ok (.iconst 5, 1) := by decide +kernel
theorem dX10_init_168 : decode cX10_init 168 = .ok (.iconst (-1), 1) := by decide +kernel
theorem dX10_init_169 : decode cX10_init 169 = .ok (.iastore, 1) := by decide +kernel
theorem dX10_init_170 : decode cX10_init 170 = .ok (.putfield 68, 3) := by decide +kernel
theorem dX10_init_173 : decode cX10_init 173 = .ok (.aload_n 0, 1) := by decide +kernel
theorem dX10_init_174 : decode cX10_init 174 = .ok (.bipush 6, 2) := by decide +kernel
theorem dX10_init_176 : decode cX10_init 176 = .ok (.newarray .int, 2) := by decide +kernel
theorem dX10_init_178 : decode cX10_init 178 = .ok (.putfield 71, 3) := by decide +kernel
theorem dX10_init_181 : decode cX10_init 181 = .ok (.aload_n 0, 1) := by decide +kernel
theorem dX10_init_182 : decode cX10_init 182 = .ok (.sipush 360, 3) := by decide +kernel
theorem dX10_init_185 : decode cX10_init 185 = .ok (.newarray .long, 2) := by decide +kernel
theorem dX10_init_187 : decode cX10_init 187 = .ok (.putfield 74, 3) := by decide +kernel
theorem dX10_init_190 : decode cX10_init 190 = .ok (.aload_n 0, 1) := by decide +kernel
theorem dX10_init_191 : decode cX10_init 191 = .ok (.getfield 15, 3) := by decide +kernel
theorem dX10_init_194 : decode cX10_init 194 = .ok (.iconst 0, 1) := by decide +kernel
theorem dX10_init_195 : decode cX10_init 195 = .ok (.iconst 4, 1) := by decide +kernel
theorem dX10_init_196 : decode cX10_init 196 = .ok (.iastore, 1) := by decide +kernel
theorem dX10_init_197 : decode cX10_init 197 = .ok (.aload_n 0, 1) := by decide +kernel
theorem dX10_init_198 : decode cX10_init 198 = .ok (.getfield 15, 3) := by decide +kernel
theorem dX10_init_201 : decode cX10_init 201 = .ok (.iconst 1, 1) := by decide +kernel
theorem dX10_init_202 : decode cX10_init 202 = .ok (.iconst 2, 1) := by decide +kernel
theorem dX10_init_203 : decode cX10_init 203 = .ok (.iastore, 1) := by decide +kernel
theorem dX10_init_204 : decode cX10_init 204 = .ok (.iconst 0, 1) := by decide +kernel
theorem dX10_init_205 : decode cX10_init 205 = .ok (.istore_n 1, 1) := by decide +kernel
theorem dX10_init_206 : decode cX10_init 206 = .ok (.iload_n 1, 1) := by decide +kernel
theorem dX10_init_207 : decode cX10_init 207 = .ok (.iconst 4, 1) := by decide +kernel
theorem dX10_init_208 : decode cX10_init 208 = .ok (.if_icmp .ge 18, 3) := by decide +kernel
theorem dX10_init_211 : decode cX10_init 211 = .ok (.aload_n 0, 1) := by decide +kernel
theorem dX10_init_212 : decode cX10_init 212 = .ok (.getfield 15, 3) := by decide +kernel
theorem dX10_init_215 : decode cX10_init 215 = .ok (.iconst 5, 1) := by decide +kernel
theorem dX10_init_216 : decode cX10_init 216 = .ok (.iload_n 1, 1) := by decide +kernel
theorem dX10_init_217 : decode cX10_init 217 = .ok (.iadd, 1) := by decide +kernel
theorem dX10_init_218 : decode cX10_init 218 = .ok (.iload_n 1, 1) := by decide +kernel
theorem dX10_init_219 : decode cX10_init 219 = .ok (.iastore, 1) := by decide +kernel
theorem dX10_init_220 : decode cX10_init 220 = .ok (.iinc 1 1, 3) := by decide +kernel
theorem dX10_init_223 : decode cX10_init 223 = .ok (.goto (-17), 3) := by decide +kernel
theorem dX10_init_226 : decode cX10_init 226 = .ok (.aload_n 0, 1) := by decide +kernel
theorem dX10_init_227 : decode cX10_init 227 = .ok (.invokevirtual 78, 3) := by decide +kernel
theorem dX10_init_230 : decode cX10_init 230 = .ok (.return_, 1) := by decide +kernel
theorem dX10_emptiesRacks_0 : decode cX10_emptiesRacks 0 = .ok (.iconst 0, 1) := by decide +kernel
theorem dX10_emptiesRacks_1 : decode cX10_emptiesRacks 1 = .ok (.istore_n 1, 1) := by decide +kernel
theorem dX10_emptiesRacks_2 : decode cX10_emptiesRacks 2 = .ok (.iload_n 1, 1) := by decide +kernel
theorem dX10_emptiesRacks_3 : decode cX10_emptiesRacks 3 = .ok (.bipush 9, 2) := by decide +kernel
theorem dX10_emptiesRacks_5 : decode cX10_emptiesRacks 5 = .ok (.if_icmp .ge 20, 3) := by decide +kernel
theorem dX10_emptiesRacks_8 : decode cX10_emptiesRacks 8 = .ok (.aload_n 0, 1) := by decide +kernel
theorem dX10_emptiesRacks_9 : decode cX10_emptiesRacks 9 = .ok (.getfield 15, 3) := by decide +kernel
theorem dX10_emptiesRacks_12 : decode cX10_emptiesRacks 12 = .ok (.bipush 37, 2) := by decide +kernel
theorem dX10_emptiesRacks_14 : decode cX10_emptiesRacks 14 = .ok (.iload_n 1, 1) := by decide +kernel
theorem dX10_emptiesRacks_15 : decode cX10_emptiesRacks 15 = .ok (.iadd, 1) := by decide +kernel
theorem dX10_emptiesRacks_16 : decode cX10_emptiesRacks 16 = .ok (.bipush (-5), 2) := by decide +kernel
theorem dX10_emptiesRacks_18 : decode cX10_emptiesRacks 18 = .ok (.iastore, 1) := by decide +kernel
theorem dX10_emptiesRacks_19 : decode cX10_emptiesRacks 19 = .ok (.iinc 1 1, 3) := by decide +kernel
theorem dX10_emptiesRacks_22 : decode cX10_emptiesRacks 22 = .ok (.goto (-20), 3) := by decide +kernel
theorem dX10_emptiesRacks_25 : decode cX10_emptiesRacks 25 = .ok (.return_, 1) := by decide +kernel
theorem dX10_copies_0 : decode cX10_copies 0 = .ok (.iconst 0, 1) := by decide +kernel
theorem dX10_copies_1 : decode cX10_copies 1 = .ok (.istore_n 2, 1) := by decide +kernel
theorem dX10_copies_2 : decode cX10_copies 2 = .ok (.iload_n 2, 1) := by decide +kernel
theorem dX10_copies_3 : decode cX10_copies 3 = .ok (.bipush 82, 2) := by decide +kernel
theorem dX10_copies_5 : decode cX10_copies 5 = .ok (.if_icmp .ge 15, 3) := by decide +kernel
theorem dX10_copies_8 : decode cX10_copies 8 = .ok (.aload_n 1, 1) := by decide +kernel
theorem dX10_copies_9 : decode cX10_copies 9 = .ok (.iload_n 2, 1) := by decide +kernel
theorem dX10_copies_10 : decode cX10_copies 10 = .ok (.aload_n 0, 1) := by decide +kernel
theorem dX10_copies_11 : decode cX10_copies 11 = .ok (.iload_n 2, 1) := by decide +kernel
theorem dX10_copies_12 : decode cX10_copies 12 = .ok (.iaload, 1) := by decide +kernel
theorem dX10_copies_13 : decode cX10_copies 13 = .ok (.iastore, 1) := by decide +kernel
theorem dX10_copies_14 : decode cX10_copies 14 = .ok (.iinc 2 1, 3) := by decide +kernel
theorem dX10_copies_17 : decode cX10_copies 17 = .ok (.goto (-15), 3) := by decide +kernel
theorem dX10_copies_20 : decode cX10_copies 20 = .ok (.return_, 1) := by decide +kernel
theorem dX10_places_0 : decode cX10_places 0 = .ok (.iload_n 1, 1) := by decide +kernel
theorem dX10_places_1 : decode cX10_places 1 = .ok (.i2l, 1) := by decide +kernel
theorem dX10_places_2 : decode cX10_places 2 = .ok (.ldc2_w 81, 3) := by decide +kernel
theorem dX10_places_5 : decode cX10_places 5 = .ok (.ldc2_w 83, 3) := by decide +kernel
theorem dX10_places_8 : decode cX10_places 8 = .ok (.invokestatic 85, 3) := by decide +kernel
theorem dX10_places_11 : decode cX10_places 11 = .ok (.ifCond .ne 6, 3) := by decide +kernel
theorem dX10_places_14 : decode cX10_places 14 = .ok (.bipush (-2), 2) := by decide +kernel
theorem dX10_places_16 : decode cX10_places 16 = .ok (.ireturn, 1) := by decide +kernel
theorem dX10_places_17 : decode cX10_places 17 = .ok (.aload_n 0, 1) := by decide +kernel
theorem dX10_places_18 : decode cX10_places 18 = .ok (.getfield 15, 3) := by decide +kernel
theorem dX10_places_21 : decode cX10_places 21 = .ok (.iconst 0, 1) := by decide +kernel
theorem dX10_places_22 : decode cX10_places 22 = .ok (.iaload, 1) := by decide +kernel
theorem dX10_places_23 : decode cX10_places 23 = .ok (.istore_n 2, 1) := by decide +kernel
theorem dX10_places_24 : decode cX10_places 24 = .ok (.aload_n 0, 1) := by decide +kernel
theorem dX10_places_25 : decode cX10_places 25 = .ok (.getfield 15, 3) := by decide +kernel
theorem dX10_places_28 : decode cX10_places 28 = .ok (.iconst 0, 1) := by decide +kernel
theorem dX10_places_29 : decode cX10_places 29 = .ok (.iload_n 1, 1) := by decide +kernel
theorem dX10_places_30 : decode cX10_places 30 = .ok (.iastore, 1) := by decide +kernel
theorem dX10_places_31 : decode cX10_places 31 = .ok (.aload_n 0, 1) := by decide +kernel
theorem dX10_places_32 : decode cX10_places 32 = .ok (.getfield 15, 3) := by decide +kernel
theorem dX10_places_35 : decode cX10_places 35 = .ok (.iconst 2, 1) := by decide +kernel
theorem dX10_places_36 : decode cX10_places 36 = .ok (.iconst 0, 1) := by decide +kernel
theorem dX10_places_37 : decode cX10_places 37 = .ok (.iastore, 1) := by decide +kernel
theorem dX10_places_38 : decode cX10_places 38 = .ok (.aload_n 0, 1) := by decide +kernel
theorem dX10_places_39 : decode cX10_places 39 = .ok (.invokevirtual 78, 3) := by decide +kernel
theorem dX10_places_42 : decode cX10_places 42 = .ok (.iload_n 2, 1) := by decide +kernel
theorem dX10_places_43 : decode cX10_places 43 = .ok (.ireturn, 1) := by decide +kernel
theorem dX10_kinds_0 : decode cX10_kinds 0 = .ok (.iload_n 1, 1) := by decide +kernel
theorem dX10_kinds_1 : decode cX10_kinds 1 = .ok (.i2l, 1) := by decide +kernel
theorem dX10_kinds_2 : decode cX10_kinds 2 = .ok (.lconst 1, 1) := by decide +kernel
theorem dX10_kinds_3 : decode cX10_kinds 3 = .ok (.ldc2_w 89, 3) := by decide +kernel
theorem dX10_kinds_6 : decode cX10_kinds 6 = .ok (.invokestatic 85, 3) := by decide +kernel
theorem dX10_kinds_9 : decode cX10_kinds 9 = .ok (.ifCond .ne 6, 3) := by decide +kernel
theorem dX10_kinds_12 : decode cX10_kinds 12 = .ok (.bipush (-2), 2) := by decide +kernel
theorem dX10_kinds_14 : decode cX10_kinds 14 = .ok (.ireturn, 1) := by decide +kernel
theorem dX10_kinds_15 : decode cX10_kinds 15 = .ok (.aload_n 0, 1) := by decide +kernel
theorem dX10_kinds_16 : decode cX10_kinds 16 = .ok (.getfield 15, 3) := by decide +kernel
theorem dX10_kinds_19 : decode cX10_kinds 19 = .ok (.iconst 1, 1) := by decide +kernel
theorem dX10_kinds_20 : decode cX10_kinds 20 = .ok (.iaload, 1) := by decide +kernel
theorem dX10_kinds_21 : decode cX10_kinds 21 = .ok (.istore_n 2, 1) := by decide +kernel
theorem dX10_kinds_22 : decode cX10_kinds 22 = .ok (.aload_n 0, 1) := by decide +kernel
theorem dX10_kinds_23 : decode cX10_kinds 23 = .ok (.getfield 15, 3) := by decide +kernel
theorem dX10_kinds_26 : decode cX10_kinds 26 = .ok (.iconst 1, 1) := by decide +kernel
theorem dX10_kinds_27 : decode cX10_kinds 27 = .ok (.iload_n 1, 1) := by decide +kernel
theorem dX10_kinds_28 : decode cX10_kinds 28 = .ok (.iastore, 1) := by decide +kernel
theorem dX10_kinds_29 : decode cX10_kinds 29 = .ok (.iload_n 2, 1) := by decide +kernel
theorem dX10_kinds_30 : decode cX10_kinds 30 = .ok (.ireturn, 1) := by decide +kernel
theorem dX10_weight_0 : decode cX10_weight 0 = .ok (.iload_n 1, 1) := by decide +kernel
theorem dX10_weight_1 : decode cX10_weight 1 = .ok (.i2l, 1) := by decide +kernel
theorem dX10_weight_2 : decode cX10_weight 2 = .ok (.lconst 0, 1) := by decide +kernel
theorem dX10_weight_3 : decode cX10_weight 3 = .ok (.ldc2_w 91, 3) := by decide +kernel
theorem dX10_weight_6 : decode cX10_weight 6 = .ok (.invokestatic 85, 3) := by decide +kernel
theorem dX10_weight_9 : decode cX10_weight 9 = .ok (.ifCond .ne 5, 3) := by decide +kernel
theorem dX10_weight_12 : decode cX10_weight 12 = .ok (.iconst (-1), 1) := by decide +kernel
theorem dX10_weight_13 : decode cX10_weight 13 = .ok (.ireturn, 1) := by decide +kernel
theorem dX10_weight_14 : decode cX10_weight 14 = .ok (.iload_n 2, 1) := by decide +kernel
theorem dX10_weight_15 : decode cX10_weight 15 = .ok (.i2l, 1) := by decide +kernel
theorem dX10_weight_16 : decode cX10_weight 16 = .ok (.lconst 0, 1) := by decide +kernel
theorem dX10_weight_17 : decode cX10_weight 17 = .ok (.ldc2_w 93, 3) := by decide +kernel
theorem dX10_weight_20 : decode cX10_weight 20 = .ok (.invokestatic 85, 3) := by decide +kernel
theorem dX10_weight_23 : decode cX10_weight 23 = .ok (.ifCond .ne 6, 3) := by decide +kernel
theorem dX10_weight_26 : decode cX10_weight 26 = .ok (.bipush (-2), 2) := by decide +kernel
theorem dX10_weight_28 : decode cX10_weight 28 = .ok (.ireturn, 1) := by decide +kernel
theorem dX10_weight_29 : decode cX10_weight 29 = .ok (.aload_n 0, 1) := by decide +kernel
theorem dX10_weight_30 : decode cX10_weight 30 = .ok (.getfield 15, 3) := by decide +kernel
theorem dX10_weight_33 : decode cX10_weight 33 = .ok (.iconst 5, 1) := by decide +kernel
theorem dX10_weight_34 : decode cX10_weight 34 = .ok (.iload_n 1, 1) := by decide +kernel
theorem dX10_weight_35 : decode cX10_weight 35 = .ok (.iadd, 1) := by decide +kernel
theorem dX10_weight_36 : decode cX10_weight 36 = .ok (.iaload, 1) := by decide +kernel
theorem dX10_weight_37 : decode cX10_weight 37 = .ok (.istore_n 3, 1) := by decide +kernel
theorem dX10_weight_38 : decode cX10_weight 38 = .ok (.aload_n 0, 1) := by decide +kernel
theorem dX10_weight_39 : decode cX10_weight 39 = .ok (.getfield 15, 3) := by decide +kernel
theorem dX10_weight_42 : decode cX10_weight 42 = .ok (.iconst 5, 1) := by decide +kernel
theorem dX10_weight_43 : decode cX10_weight 43 = .ok (.iload_n 1, 1) := by decide +kernel
theorem dX10_weight_44 : decode cX10_weight 44 = .ok (.iadd, 1) := by decide +kernel
theorem dX10_weight_45 : decode cX10_weight 45 = .ok (.iload_n 2, 1) := by decide +kernel
theorem dX10_weight_46 : decode cX10_weight 46 = .ok (.iastore, 1) := by decide +kernel
theorem dX10_weight_47 : decode cX10_weight 47 = .ok (.iload_n 3, 1) := by decide +kernel
theorem dX10_weight_48 : decode cX10_weight 48 = .ok (.ireturn, 1) := by decide +kernel
theorem dX10_isGenerator_0 : decode cX10_isGenerator 0 = .ok (.iload_n 1, 1) := by decide +kernel
theorem dX10_isGenerator_1 : decode cX10_isGenerator 1 = .ok (.i2l, 1) := by decide +kernel
theorem dX10_isGenerator_2 : decode cX10_isGenerator 2 = .ok (.lconst 0, 1) := by decide +kernel
theorem dX10_isGenerator_3 : decode cX10_isGenerator 3 = .ok (.aload_n 0, 1) := by decide +kernel
theorem dX10_isGenerator_4 : decode cX10_isGenerator 4 = .ok (.getfield 15, 3) := by decide +kernel
theorem dX10_isGenerator_7 : decode cX10_isGenerator 7 = .ok (.iconst 2, 1) := by decide +kernel
theorem dX10_isGenerator_8 : decode cX10_isGenerator 8 = .ok (.iaload, 1) := by decide +kernel
theorem dX10_isGenerator_9 : decode cX10_isGenerator 9 = .ok (.iconst 1, 1) := by decide +kernel
theorem dX10_isGenerator_10 : decode cX10_isGenerator 10 = .ok (.isub, 1) := by decide +kernel
theorem dX10_isGenerator_11 : decode cX10_isGenerator 11 = .ok (.i2l, 1) := by decide +kernel
theorem dX10_isGenerator_12 : decode cX10_isGenerator 12 = .ok (.invokestatic 85, 3) := by decide +kernel
theorem dX10_isGenerator_15 : decode cX10_isGenerator 15 = .ok (.ireturn, 1) := by decide +kernel
theorem dX10_digit_0 : decode cX10_digit 0 = .ok (.aload_n 0, 1) := by decide +kernel
theorem dX10_digit_1 : decode cX10_digit 1 = .ok (.getfield 22, 3) := by decide +kernel
theorem dX10_digit_4 : decode cX10_digit 4 = .ok (.bipush 6, 2) := by decide +kernel
theorem dX10_digit_6 : decode cX10_digit 6 = .ok (.iload_n 1, 1) := by decide +kernel
theorem dX10_digit_7 : decode cX10_digit 7 = .ok (.imul, 1) := by decide +kernel
theorem dX10_digit_8 : decode cX10_digit 8 = .ok (.iload_n 2, 1) := by decide +kernel
theorem dX10_digit_9 : decode cX10_digit 9 = .ok (.iadd, 1) := by decide +kernel
theorem dX10_digit_10 : decode cX10_digit 10 = .ok (.iaload, 1) := by decide +kernel
theorem dX10_digit_11 : decode cX10_digit 11 = .ok (.ireturn, 1) := by decide +kernel
theorem dX10_numberOf_0 : decode cX10_numberOf 0 = .ok (.iconst 0, 1) := by decide +kernel
theorem dX10_numberOf_1 : decode cX10_numberOf 1 = .ok (.istore_n 2, 1) := by decide +kernel
theorem dX10_numberOf_2 : decode cX10_numberOf 2 = .ok (.iconst 0, 1) := by decide +kernel
theorem dX10_numberOf_3 : decode cX10_numberOf 3 = .ok (.istore_n 3, 1) := by decide +kernel
theorem dX10_numberOf_4 : decode cX10_numberOf 4 = .ok (.iload_n 3, 1) := by decide +kernel
theorem dX10_numberOf_5 : decode cX10_numberOf 5 = .ok (.aload_n 0, 1) := by decide +kernel
theorem dX10_numberOf_6 : decode cX10_numberOf 6 = .ok (.getfield 15, 3) := by decide +kernel
theorem dX10_numberOf_9 : decode cX10_numberOf 9 = .ok (.iconst 0, 1) := by decide +kernel
theorem dX10_numberOf_10 : decode cX10_numberOf 10 = .ok (.iaload, 1) := by decide +kernel
theorem dX10_numberOf_11 : decode cX10_numberOf 11 = .ok (.if_icmp .ge 23, 3) := by decide +kernel
theorem dX10_numberOf_14 : decode cX10_numberOf 14 = .ok (.bipush 10, 2) := by decide +kernel
theorem dX10_numberOf_16 : decode cX10_numberOf 16 = .ok (.iload_n 2, 1) := by decide +kernel
theorem dX10_numberOf_17 : decode cX10_numberOf 17 = .ok (.imul, 1) := by decide +kernel
theorem dX10_numberOf_18 : decode cX10_numberOf 18 = .ok (.aload_n 0, 1) := by decide +kernel
theorem dX10_numberOf_19 : decode cX10_numberOf 19 = .ok (.iload_n 1, 1) := by decide +kernel
theorem dX10_numberOf_20 : decode cX10_numberOf 20 = .ok (.iload_n 3, 1) := by decide +kernel
theorem dX10_numberOf_21 : decode cX10_numberOf 21 = .ok (.invokevirtual 95, 3) := by decide +kernel
theorem dX10_numberOf_24 : decode cX10_numberOf 24 = .ok (.iadd, 1) := by decide +kernel
theorem dX10_numberOf_25 : decode cX10_numberOf 25 = .ok (.iconst 1, 1) := by decide +kernel
theorem dX10_numberOf_26 : decode cX10_numberOf 26 = .ok (.iadd, 1) := by decide +kernel
theorem dX10_numberOf_27 : decode cX10_numberOf 27 = .ok (.istore_n 2, 1) := by decide +kernel
theorem dX10_numberOf_28 : decode cX10_numberOf 28 = .ok (.iinc 3 1, 3) := by decide +kernel
theorem dX10_numberOf_31 : decode cX10_numberOf 31 = .ok (.goto (-27), 3) := by decide +kernel
theorem dX10_numberOf_34 : decode cX10_numberOf 34 = .ok (.iload_n 2, 1) := by decide +kernel
theorem dX10_numberOf_35 : decode cX10_numberOf 35 = .ok (.ireturn, 1) := by decide +kernel
theorem dX10_areAlike_0 : decode cX10_areAlike 0 = .ok (.aload_n 0, 1) := by decide +kernel
theorem dX10_areAlike_1 : decode cX10_areAlike 1 = .ok (.iload_n 1, 1) := by decide +kernel
theorem dX10_areAlike_2 : decode cX10_areAlike 2 = .ok (.invokevirtual 99, 3) := by decide +kernel
theorem dX10_areAlike_5 : decode cX10_areAlike 5 = .ok (.aload_n 0, 1) := by decide +kernel
theorem dX10_areAlike_6 : decode cX10_areAlike 6 = .ok (.iload_n 2, 1) := by decide +kernel
theorem dX10_areAlike_7 : decode cX10_areAlike 7 = .ok (.invokevirtual 99, 3) := by decide +kernel
theorem dX10_areAlike_10 : decode cX10_areAlike 10 = .ok (.if_icmp .ne 22, 3) := by decide +kernel
theorem dX10_areAlike_13 : decode cX10_areAlike 13 = .ok (.aload_n 0, 1) := by decide +kernel
theorem dX10_areAlike_14 : decode cX10_areAlike 14 = .ok (.getfield 25, 3) := by decide +kernel
theorem dX10_areAlike_17 : decode cX10_areAlike 17 = .ok (.iload_n 1, 1) := by decide +kernel
theorem dX10_areAlike_18 : decode cX10_areAlike 18 = .ok (.iaload, 1) := by decide +kernel
theorem dX10_areAlike_19 : decode cX10_areAlike 19 = .ok (.aload_n 0, 1) := by decide +kernel
theorem dX10_areAlike_20 : decode cX10_areAlike 20 = .ok (.getfield 25, 3) := by decide +kernel
theorem dX10_areAlike_23 : decode cX10_areAlike 23 = .ok (.iload_n 2, 1) := by decide +kernel
theorem dX10_areAlike_24 : decode cX10_areAlike 24 = .ok (.iaload, 1) := by decide +kernel
theorem dX10_areAlike_25 : decode cX10_areAlike 25 = .ok (.if_icmp .ne 7, 3) := by decide +kernel
theorem dX10_areAlike_28 : decode cX10_areAlike 28 = .ok (.iconst 1, 1) := by decide +kernel
theorem dX10_areAlike_29 : decode cX10_areAlike 29 = .ok (.goto 4, 3) := by decide +kernel
theorem dX10_areAlike_32 : decode cX10_areAlike 32 = .ok (.iconst 0, 1) := by decide +kernel
theorem dX10_areAlike_33 : decode cX10_areAlike 33 = .ok (.ireturn, 1) := by decide +kernel
theorem dX10_isKnown_0 : decode cX10_isKnown 0 = .ok (.iconst 0, 1) := by decide +kernel
theorem dX10_isKnown_1 : decode cX10_isKnown 1 = .ok (.istore_n 2, 1) := by decide +kernel
theorem dX10_isKnown_2 : decode cX10_isKnown 2 = .ok (.iload_n 2, 1) := by decide +kernel
theorem dX10_isKnown_3 : decode cX10_isKnown 3 = .ok (.iload_n 1, 1) := by decide +kernel
theorem dX10_isKnown_4 : decode cX10_isKnown 4 = .ok (.if_icmp .ge 20, 3) := by decide +kernel
theorem dX10_isKnown_7 : decode cX10_isKnown 7 = .ok (.aload_n 0, 1) := by decide +kernel
theorem dX10_isKnown_8 : decode cX10_isKnown 8 = .ok (.iload_n 2, 1) := by decide +kernel
theorem dX10_isKnown_9 : decode cX10_isKnown 9 = .ok (.iload_n 1, 1) := by decide +kernel
theorem dX10_isKnown_10 : decode cX10_isKnown 10 = .ok (.invokevirtual 103, 3) := by decide +kernel
theorem dX10_isKnown_13 : decode cX10_isKnown 13 = .ok (.ifCond .eq 5, 3) := by decide +kernel
theorem dX10_isKnown_16 : decode cX10_isKnown 16 = .ok (.iconst 1, 1) := by decide +kernel
theorem dX10_isKnown_17 : decode cX10_isKnown 17 = .ok (.ireturn, 1) := by decide +kernel
theorem dX10_isKnown_18 : decode cX10_isKnown 18 = .ok (.iinc 2 1, 3) := by decide +kernel
theorem dX10_isKnown_21 : decode cX10_isKnown 21 = .ok (.goto (-19), 3) := by decide +kernel
theorem dX10_isKnown_24 : decode cX10_isKnown 24 = .ok (.iconst 0, 1) := by decide +kernel
theorem dX10_isKnown_25 : decode cX10_isKnown 25 = .ok (.ireturn, 1) := by decide +kernel
theorem dX10_goesBehind_0 : decode cX10_goesBehind 0 = .ok (.iconst 0, 1) := by decide +kernel
theorem dX10_goesBehind_1 : decode cX10_goesBehind 1 = .ok (.istore_n 3, 1) := by decide +kernel
theorem dX10_goesBehind_2 : decode cX10_goesBehind 2 = .ok (.iload_n 3, 1) := by decide +kernel
theorem dX10_goesBehind_3 : decode cX10_goesBehind 3 = .ok (.aload_n 0, 1) := by decide +kernel
theorem dX10_goesBehind_4 : decode cX10_goesBehind 4 = .ok (.getfield 15, 3) := by decide +kernel
theorem dX10_goesBehind_7 : decode cX10_goesBehind 7 = .ok (.iconst 0, 1) := by decide +kernel
theorem dX10_goesBehind_8 : decode cX10_goesBehind 8 = .ok (.iaload, 1) := by decide +kernel
theorem dX10_goesBehind_9 : decode cX10_goesBehind 9 = .ok (.if_icmp .ge 42, 3) := by decide +kernel
theorem dX10_goesBehind_12 : decode cX10_goesBehind 12 = .ok (.aload_n 0, 1) := by decide +kernel
theorem dX10_goesBehind_13 : decode cX10_goesBehind 13 = .ok (.getfield 22, 3) := by decide +kernel
theorem dX10_goesBehind_16 : decode cX10_goesBehind 16 = .ok (.bipush 6, 2) := by decide +kernel
theorem dX10_goesBehind_18 : decode cX10_goesBehind 18 = .ok (.aload_n 0, 1) := by decide +kernel
theorem dX10_goesBehind_19 : decode cX10_goesBehind 19 = .ok (.getfield 107, 3) := by decide +kernel
theorem dX10_goesBehind_22 : decode cX10_goesBehind 22 = .ok (.imul, 1) := by decide +kernel
theorem dX10_goesBehind_23 : decode cX10_goesBehind 23 = .ok (.iload_n 3, 1) := by decide +kernel
theorem dX10_goesBehind_24 : decode cX10_goesBehind 24 = .ok (.iadd, 1) := by decide +kernel
theorem dX10_goesBehind_25 : decode cX10_goesBehind 25 = .ok (.aload_n 0, 1) := by decide +kernel
theorem dX10_goesBehind_26 : decode cX10_goesBehind 26 = .ok (.iload_n 1, 1) := by decide +kernel
theorem dX10_goesBehind_27 : decode cX10_goesBehind 27 = .ok (.aload_n 0, 1) := by decide +kernel
theorem dX10_goesBehind_28 : decode cX10_goesBehind 28 = .ok (.getfield 15, 3) := by decide +kernel
theorem dX10_goesBehind_31 : decode cX10_goesBehind 31 = .ok (.bipush 9, 2) := by decide +kernel
theorem dX10_goesBehind_33 : decode cX10_goesBehind 33 = .ok (.bipush 6, 2) := by decide +kernel
theorem dX10_goesBehind_35 : decode cX10_goesBehind 35 = .ok (.iload_n 2, 1) := by decide +kernel
theorem dX10_goesBehind_36 : decode cX10_goesBehind 36 = .ok (.imul, 1) := by decide +kernel
theorem dX10_goesBehind_37 : decode cX10_goesBehind 37 = .ok (.iadd, 1) := by decide +kernel
theorem dX10_goesBehind_38 : decode cX10_goesBehind 38 = .ok (.iload_n 3, 1) := by decide +kernel
theorem dX10_goesBehind_39 : decode cX10_goesBehind 39 = .ok (.iadd, 1) := by decide +kernel
theorem dX10_goesBehind_40 : decode cX10_goesBehind 40 = .ok (.iaload, 1) := by decide +kernel
theorem dX10_goesBehind_41 : decode cX10_goesBehind 41 = .ok (.invokevirtual 95, 3) := by decide +kernel
theorem dX10_goesBehind_44 : decode cX10_goesBehind 44 = .ok (.iastore, 1) := by decide +kernel
theorem dX10_goesBehind_45 : decode cX10_goesBehind 45 = .ok (.iinc 3 1, 3) := by decide +kernel
theorem dX10_goesBehind_48 : decode cX10_goesBehind 48 = .ok (.goto (-46), 3) := by decide +kernel
theorem dX10_goesBehind_51 : decode cX10_goesBehind 51 = .ok (.aload_n 0, 1) := by decide +kernel
theorem dX10_goesBehind_52 : decode cX10_goesBehind 52 = .ok (.getfield 25, 3) := by decide +kernel
theorem dX10_goesBehind_55 : decode cX10_goesBehind 55 = .ok (.aload_n 0, 1) := by decide +kernel
theorem dX10_goesBehind_56 : decode cX10_goesBehind 56 = .ok (.getfield 107, 3) := by decide +kernel
theorem dX10_goesBehind_59 : decode cX10_goesBehind 59 = .ok (.aload_n 0, 1) := by decide +kernel
theorem dX10_goesBehind_60 : decode cX10_goesBehind 60 = .ok (.getfield 25, 3) := by decide +kernel
theorem dX10_goesBehind_63 : decode cX10_goesBehind 63 = .ok (.iload_n 1, 1) := by decide +kernel
theorem dX10_goesBehind_64 : decode cX10_goesBehind 64 = .ok (.iaload, 1) := by decide +kernel
theorem dX10_goesBehind_65 : decode cX10_goesBehind 65 = .ok (.aload_n 0, 1) := by decide +kernel
theorem dX10_goesBehind_66 : decode cX10_goesBehind 66 = .ok (.getfield 15, 3) := by decide +kernel
theorem dX10_goesBehind_69 : decode cX10_goesBehind 69 = .ok (.bipush 33, 2) := by decide +kernel
theorem dX10_goesBehind_71 : decode cX10_goesBehind 71 = .ok (.iload_n 2, 1) := by decide +kernel
theorem dX10_goesBehind_72 : decode cX10_goesBehind 72 = .ok (.iadd, 1) := by decide +kernel
theorem dX10_goesBehind_73 : decode cX10_goesBehind 73 = .ok (.iaload, 1) := by decide +kernel
theorem dX10_goesBehind_74 : decode cX10_goesBehind 74 = .ok (.ixor, 1) := by decide +kernel
theorem dX10_goesBehind_75 : decode cX10_goesBehind 75 = .ok (.iastore, 1) := by decide +kernel
theorem dX10_goesBehind_76 : decode cX10_goesBehind 76 = .ok (.return_, 1) := by decide +kernel
theorem dX10_moves_0 : decode cX10_moves 0 = .ok (.iconst 0, 1) := by decide +kernel
theorem dX10_moves_1 : decode cX10_moves 1 = .ok (.istore_n 2, 1) := by decide +kernel
theorem dX10_moves_2 : decode cX10_moves 2 = .ok (.iload_n 2, 1) := by decide +kernel
theorem dX10_moves_3 : decode cX10_moves 3 = .ok (.bipush 6, 2) := by decide +kernel
theorem dX10_moves_5 : decode cX10_moves 5 = .ok (.if_icmp .ge 16, 3) := by decide +kernel
theorem dX10_moves_8 : decode cX10_moves 8 = .ok (.aload_n 0, 1) := by decide +kernel
theorem dX10_moves_9 : decode cX10_moves 9 = .ok (.getfield 22, 3) := by decide +kernel
theorem dX10_moves_12 : decode cX10_moves 12 = .ok (.iload_n 2, 1) := by decide +kernel
theorem dX10_moves_13 : decode cX10_moves 13 = .ok (.iload_n 2, 1) := by decide +kernel
theorem dX10_moves_14 : decode cX10_moves 14 = .ok (.iastore, 1) := by decide +kernel
theorem dX10_moves_15 : decode cX10_moves 15 = .ok (.iinc 2 1, 3) := by decide +kernel
theorem dX10_moves_18 : decode cX10_moves 18 = .ok (.goto (-16), 3) := by decide +kernel
theorem dX10_moves_21 : decode cX10_moves 21 = .ok (.aload_n 0, 1) := by decide +kernel
theorem dX10_moves_22 : decode cX10_moves 22 = .ok (.getfield 25, 3) := by decide +kernel
theorem dX10_moves_25 : decode cX10_moves 25 = .ok (.iconst 0, 1) := by decide +kernel
theorem dX10_moves_26 : decode cX10_moves 26 = .ok (.iconst 0, 1) := by decide +kernel
theorem dX10_moves_27 : decode cX10_moves 27 = .ok (.iastore, 1) := by decide +kernel
theorem dX10_moves_28 : decode cX10_moves 28 = .ok (.aload_n 0, 1) := by decide +kernel
theorem dX10_moves_29 : decode cX10_moves 29 = .ok (.iconst 1, 1) := by decide +kernel
theorem dX10_moves_30 : decode cX10_moves 30 = .ok (.putfield 107, 3) := by decide +kernel
theorem dX10_moves_33 : decode cX10_moves 33 = .ok (.iconst 0, 1) := by decide +kernel
theorem dX10_moves_34 : decode cX10_moves 34 = .ok (.istore_n 2, 1) := by decide +kernel
theorem dX10_moves_35 : decode cX10_moves 35 = .ok (.iload_n 2, 1) := by decide +kernel
theorem dX10_moves_36 : decode cX10_moves 36 = .ok (.aload_n 0, 1) := by decide +kernel
theorem dX10_moves_37 : decode cX10_moves 37 = .ok (.getfield 107, 3) := by decide +kernel
theorem dX10_moves_40 : decode cX10_moves 40 = .ok (.if_icmp .ge 79, 3) := by decide +kernel
theorem dX10_moves_43 : decode cX10_moves 43 = .ok (.iconst 0, 1) := by decide +kernel
theorem dX10_moves_44 : decode cX10_moves 44 = .ok (.istore_n 3, 1) := by decide +kernel
theorem dX10_moves_45 : decode cX10_moves 45 = .ok (.iload_n 3, 1) := by decide +kernel
theorem dX10_moves_46 : decode cX10_moves 46 = .ok (.aload_n 0, 1) := by decide +kernel
theorem dX10_moves_47 : decode cX10_moves 47 = .ok (.getfield 15, 3) := by decide +kernel
theorem dX10_moves_50 : decode cX10_moves 50 = .ok (.iconst 2, 1) := by decide +kernel
theorem dX10_moves_51 : decode cX10_moves 51 = .ok (.iaload, 1) := by decide +kernel
theorem dX10_moves_52 : decode cX10_moves 52 = .ok (.if_icmp .ge 61, 3) := by decide +kernel
theorem dX10_moves_55 : decode cX10_moves 55 = .ok (.iload_n 1, 1) := by decide +kernel
theorem dX10_moves_56 : decode cX10_moves 56 = .ok (.iload_n 3, 1) := by decide +kernel
theorem dX10_moves_57 : decode cX10_moves 57 = .ok (.invokestatic 110, 3) := by decide +kernel
theorem dX10_moves_60 : decode cX10_moves 60 = .ok (.ifCond .ne 6, 3) := by decide +kernel
theorem dX10_moves_63 : decode cX10_moves 63 = .ok (.goto 44, 3) := by decide +kernel
theorem dX10_moves_66 : decode cX10_moves 66 = .ok (.aload_n 0, 1) := by decide +kernel
theorem dX10_moves_67 : decode cX10_moves 67 = .ok (.iload_n 2, 1) := by decide +kernel
theorem dX10_moves_68 : decode cX10_moves 68 = .ok (.iload_n 3, 1) := by decide +kernel
theorem dX10_moves_69 : decode cX10_moves 69 = .ok (.invokevirtual 113, 3) := by decide +kernel
theorem dX10_moves_72 : decode cX10_moves 72 = .ok (.aload_n 0, 1) := by decide +kernel
theorem dX10_moves_73 : decode cX10_moves 73 = .ok (.aload_n 0, 1) := by decide +kernel
theorem dX10_moves_74 : decode cX10_moves 74 = .ok (.getfield 107, 3) := by decide +kernel
theorem dX10_moves_77 : decode cX10_moves 77 = .ok (.invokevirtual 117, 3) := by decide +kernel
theorem dX10_moves_80 : decode cX10_moves 80 = .ok (.ifCond .eq 6, 3) := by decide +kernel
theorem dX10_moves_83 : decode cX10_moves 83 = .ok (.goto 24, 3) := by decide +kernel
theorem dX10_moves_86 : decode cX10_moves 86 = .ok (.aload_n 0, 1) := by decide +kernel
theorem dX10_moves_87 : decode cX10_moves 87 = .ok (.getfield 107, 3) := by decide +kernel
theorem dX10_moves_90 : decode cX10_moves 90 = .ok (.bipush 120, 2) := by decide +kernel
theorem dX10_moves_92 : decode cX10_moves 92 = .ok (.if_icmp .ne 5, 3) := by decide +kernel
theorem dX10_moves_95 : decode cX10_moves 95 = .ok (.iconst 0, 1) := by decide +kernel
theorem dX10_moves_96 : decode cX10_moves 96 = .ok (.ireturn, 1) := by decide +kernel
theorem dX10_moves_97 : decode cX10_moves 97 = .ok (.aload_n 0, 1) := by decide +kernel
theorem dX10_moves_98 : decode cX10_moves 98 = .ok (.dup, 1) := by decide +kernel
theorem dX10_moves_99 : decode cX10_moves 99 = .ok (.getfield 107, 3) := by decide +kernel
theorem dX10_moves_102 : decode cX10_moves 102 = .ok (.iconst 1, 1) := by decide +kernel
theorem dX10_moves_103 : decode cX10_moves 103 = .ok (.iadd, 1) := by decide +kernel
theorem dX10_moves_104 : decode cX10_moves 104 = .ok (.putfield 107, 3) := by decide +kernel
theorem dX10_moves_107 : decode cX10_moves 107 = .ok (.iinc 3 1, 3) := by decide +kernel
theorem dX10_moves_110 : decode cX10_moves 110 = .ok (.goto (-65), 3) := by decide +kernel
theorem dX10_moves_113 : decode cX10_moves 113 = .ok (.iinc 2 1, 3) := by decide +kernel
theorem dX10_moves_116 : decode cX10_moves 116 = .ok (.goto (-81), 3) := by decide +kernel
theorem dX10_moves_119 : decode cX10_moves 119 = .ok (.aload_n 0, 1) := by decide +kernel
theorem dX10_moves_120 : decode cX10_moves 120 = .ok (.invokevirtual 121, 3) := by decide +kernel
theorem dX10_moves_123 : decode cX10_moves 123 = .ok (.iconst 1, 1) := by decide +kernel
theorem dX10_moves_124 : decode cX10_moves 124 = .ok (.ireturn, 1) := by decide +kernel
theorem dX10_changePlaces_0 : decode cX10_changePlaces 0 = .ok (.iconst 0, 1) := by decide +kernel
theorem dX10_changePlaces_1 : decode cX10_changePlaces 1 = .ok (.istore_n 3, 1) := by decide +kernel
theorem dX10_changePlaces_2 : decode cX10_changePlaces 2 = .ok (.iload_n 3, 1) := by decide +kernel
theorem dX10_changePlaces_3 : decode cX10_changePlaces 3 = .ok (.bipush 6, 2) := by decide +kernel
theorem dX10_changePlaces_5 : decode cX10_changePlaces 5 = .ok (.if_icmp .ge 57, 3) := by decide +kernel
theorem dX10_changePlaces_8 : decode cX10_changePlaces 8 = .ok (.aload_n 0, 1) := by decide +kernel
theorem dX10_changePlaces_9 : decode cX10_changePlaces 9 = .ok (.getfield 22, 3) := by decide +kernel
theorem dX10_changePlaces_12 : decode cX10_changePlaces 12 = .ok (.bipush 6, 2) := by decide +kernel
theorem dX10_changePlaces_14 : decode cX10_changePlaces 14 = .ok (.iload_n 1, 1) := by decide +kernel
theorem dX10_changePlaces_15 : decode cX10_changePlaces 15 = .ok (.imul, 1) := by decide +kernel
theorem dX10_changePlaces_16 : decode cX10_changePlaces 16 = .ok (.iload_n 3, 1) := by decide +kernel
theorem dX10_changePlaces_17 : decode cX10_changePlaces 17 = .ok (.iadd, 1) := by decide +kernel
theorem dX10_changePlaces_18 : decode cX10_changePlaces 18 = .ok (.iaload, 1) := by decide +kernel
theorem dX10_changePlaces_19 : decode cX10_changePlaces 19 = .ok (.istore 4, 2) := by decide +kernel
theorem dX10_changePlaces_21 : decode cX10_changePlaces 21 = .ok (.aload_n 0, 1) := by decide +kernel
theorem dX10_changePlaces_22 : decode cX10_changePlaces 22 = .ok (.getfield 22, 3) := by decide +kernel
theorem dX10_changePlaces_25 : decode cX10_changePlaces 25 = .ok (.bipush 6, 2) := by decide +kernel
theorem dX10_changePlaces_27 : decode cX10_changePlaces 27 = .ok (.iload_n 1, 1) := by decide +kernel
theorem dX10_changePlaces_28 : decode cX10_changePlaces 28 = .ok (.imul, 1) := by decide +kernel
theorem dX10_changePlaces_29 : decode cX10_changePlaces 29 = .ok (.iload_n 3, 1) := by decide +kernel
theorem dX10_changePlaces_30 : decode cX10_changePlaces 30 = .ok (.iadd, 1) := by decide +kernel
theorem dX10_changePlaces_31 : decode cX10_changePlaces 31 = .ok (.aload_n 0, 1) := by decide +kernel
theorem dX10_changePlaces_32 : decode cX10_changePlaces 32 = .ok (.getfield 22, 3) := by decide +kernel
theorem dX10_changePlaces_35 : decode cX10_changePlaces 35 = .ok (.bipush 6, 2) := by decide +kernel
theorem dX10_changePlaces_37 : decode cX10_changePlaces 37 = .ok (.iload_n 2, 1) := by decide +kernel
theorem dX10_changePlaces_38 : decode cX10_changePlaces 38 = .ok (.imul, 1) := by decide +kernel
theorem dX10_changePlaces_39 : decode cX10_changePlaces 39 = .ok (.iload_n 3, 1) := by decide +kernel
theorem dX10_changePlaces_40 : decode cX10_changePlaces 40 = .ok (.iadd, 1) := by decide +kernel
theorem dX10_changePlaces_41 : decode cX10_changePlaces 41 = .ok (.iaload, 1) := by decide +kernel
theorem dX10_changePlaces_42 : decode cX10_changePlaces 42 = .ok (.iastore, 1) := by decide +kernel
theorem dX10_changePlaces_43 : decode cX10_changePlaces 43 = .ok (.aload_n 0, 1) := by decide +kernel
theorem dX10_changePlaces_44 : decode cX10_changePlaces 44 = .ok (.getfield 22, 3) := by decide +kernel
theorem dX10_changePlaces_47 : decode cX10_changePlaces 47 = .ok (.bipush 6, 2) := by decide +kernel
theorem dX10_changePlaces_49 : decode cX10_changePlaces 49 = .ok (.iload_n 2, 1) := by decide +kernel
theorem dX10_changePlaces_50 : decode cX10_changePlaces 50 = .ok (.imul, 1) := by decide +kernel
theorem dX10_changePlaces_51 : decode cX10_changePlaces 51 = .ok (.iload_n 3, 1) := by decide +kernel
theorem dX10_changePlaces_52 : decode cX10_changePlaces 52 = .ok (.iadd, 1) := by decide +kernel
theorem dX10_changePlaces_53 : decode cX10_changePlaces 53 = .ok (.iload 4, 2) := by decide +kernel
theorem dX10_changePlaces_55 : decode cX10_changePlaces 55 = .ok (.iastore, 1) := by decide +kernel
theorem dX10_changePlaces_56 : decode cX10_changePlaces 56 = .ok (.iinc 3 1, 3) := by decide +kernel
theorem dX10_changePlaces_59 : decode cX10_changePlaces 59 = .ok (.goto (-57), 3) := by decide +kernel
theorem dX10_changePlaces_62 : decode cX10_changePlaces 62 = .ok (.aload_n 0, 1) := by decide +kernel
theorem dX10_changePlaces_63 : decode cX10_changePlaces 63 = .ok (.getfield 25, 3) := by decide +kernel
theorem dX10_changePlaces_66 : decode cX10_changePlaces 66 = .ok (.iload_n 1, 1) := by decide +kernel
theorem dX10_changePlaces_67 : decode cX10_changePlaces 67 = .ok (.iaload, 1) := by decide +kernel
theorem dX10_changePlaces_68 : decode cX10_changePlaces 68 = .ok (.istore_n 3, 1) := by decide +kernel
theorem dX10_changePlaces_69 : decode cX10_changePlaces 69 = .ok (.aload_n 0, 1) := by decide +kernel
theorem dX10_changePlaces_70 : decode cX10_changePlaces 70 = .ok (.getfield 25, 3) := by decide +kernel
theorem dX10_changePlaces_73 : decode cX10_changePlaces 73 = .ok (.iload_n 1, 1) := by decide +kernel
theorem dX10_changePlaces_74 : decode cX10_changePlaces 74 = .ok (.aload_n 0, 1) := by decide +kernel
theorem dX10_changePlaces_75 : decode cX10_changePlaces 75 = .ok (.getfield 25, 3) := by decide +kernel
theorem dX10_changePlaces_78 : decode cX10_changePlaces 78 = .ok (.iload_n 2, 1) := by decide +kernel
theorem dX10_changePlaces_79 : decode cX10_changePlaces 79 = .ok (.iaload, 1) := by decide +kernel
theorem dX10_changePlaces_80 : decode cX10_changePlaces 80 = .ok (.iastore, 1) := by decide +kernel
theorem dX10_changePlaces_81 : decode cX10_changePlaces 81 = .ok (.aload_n 0, 1) := by decide +kernel
theorem dX10_changePlaces_82 : decode cX10_changePlaces 82 = .ok (.getfield 25, 3) := by decide +kernel
theorem dX10_changePlaces_85 : decode cX10_changePlaces 85 = .ok (.iload_n 2, 1) := by decide +kernel
theorem dX10_changePlaces_86 : decode cX10_changePlaces 86 = .ok (.iload_n 3, 1) := by decide +kernel
theorem dX10_changePlaces_87 : decode cX10_changePlaces 87 = .ok (.iastore, 1) := by decide +kernel
theorem dX10_changePlaces_88 : decode cX10_changePlaces 88 = .ok (.return_, 1) := by decide +kernel
theorem dX10_sorts_0 : decode cX10_sorts 0 = .ok (.iconst 0, 1) := by decide +kernel
theorem dX10_sorts_1 : decode cX10_sorts 1 = .ok (.istore_n 1, 1) := by decide +kernel
theorem dX10_sorts_2 : decode cX10_sorts 2 = .ok (.iload_n 1, 1) := by decide +kernel
theorem dX10_sorts_3 : decode cX10_sorts 3 = .ok (.aload_n 0, 1) := by decide +kernel
theorem dX10_sorts_4 : decode cX10_sorts 4 = .ok (.getfield 107, 3) := by decide +kernel
theorem dX10_sorts_7 : decode cX10_sorts 7 = .ok (.if_icmp .ge 75, 3) := by decide +kernel
theorem dX10_sorts_10 : decode cX10_sorts 10 = .ok (.iload_n 1, 1) := by decide +kernel
theorem dX10_sorts_11 : decode cX10_sorts 11 = .ok (.istore_n 2, 1) := by decide +kernel
theorem dX10_sorts_12 : decode cX10_sorts 12 = .ok (.iload_n 1, 1) := by decide +kernel
theorem dX10_sorts_13 : decode cX10_sorts 13 = .ok (.iconst 1, 1) := by decide +kernel
theorem dX10_sorts_14 : decode cX10_sorts 14 = .ok (.iadd, 1) := by decide +kernel
theorem dX10_sorts_15 : decode cX10_sorts 15 = .ok (.istore_n 3, 1) := by decide +kernel
theorem dX10_sorts_16 : decode cX10_sorts 16 = .ok (.iload_n 3, 1) := by decide +kernel
theorem dX10_sorts_17 : decode cX10_sorts 17 = .ok (.aload_n 0, 1) := by decide +kernel
theorem dX10_sorts_18 : decode cX10_sorts 18 = .ok (.getfield 107, 3) := by decide +kernel
theorem dX10_sorts_21 : decode cX10_sorts 21 = .ok (.if_icmp .ge 49, 3) := by decide +kernel
theorem dX10_sorts_24 : decode cX10_sorts 24 = .ok (.aload_n 0, 1) := by decide +kernel
theorem dX10_sorts_25 : decode cX10_sorts 25 = .ok (.iload_n 3, 1) := by decide +kernel
theorem dX10_sorts_26 : decode cX10_sorts 26 = .ok (.invokevirtual 99, 3) := by decide +kernel
theorem dX10_sorts_29 : decode cX10_sorts 29 = .ok (.aload_n 0, 1) := by decide +kernel
theorem dX10_sorts_30 : decode cX10_sorts 30 = .ok (.iload_n 2, 1) := by decide +kernel
theorem dX10_sorts_31 : decode cX10_sorts 31 = .ok (.invokevirtual 99, 3) := by decide +kernel
theorem dX10_sorts_34 : decode cX10_sorts 34 = .ok (.isub, 1) := by decide +kernel
theorem dX10_sorts_35 : decode cX10_sorts 35 = .ok (.istore 4, 2) := by decide +kernel
theorem dX10_sorts_37 : decode cX10_sorts 37 = .ok (.iload 4, 2) := by decide +kernel
theorem dX10_sorts_39 : decode cX10_sorts 39 = .ok (.ifCond .lt 23, 3) := by decide +kernel
theorem dX10_sorts_42 : decode cX10_sorts 42 = .ok (.iload 4, 2) := by decide +kernel
theorem dX10_sorts_44 : decode cX10_sorts 44 = .ok (.ifCond .ne 20, 3) := by decide +kernel
theorem dX10_sorts_47 : decode cX10_sorts 47 = .ok (.aload_n 0, 1) := by decide +kernel
theorem dX10_sorts_48 : decode cX10_sorts 48 = .ok (.getfield 25, 3) := by decide +kernel
theorem dX10_sorts_51 : decode cX10_sorts 51 = .ok (.iload_n 3, 1) := by decide +kernel
theorem dX10_sorts_52 : decode cX10_sorts 52 = .ok (.iaload, 1) := by decide +kernel
theorem dX10_sorts_53 : decode cX10_sorts 53 = .ok (.aload_n 0, 1) := by decide +kernel
theorem dX10_sorts_54 : decode cX10_sorts 54 = .ok (.getfield 25, 3) := by decide +kernel
theorem dX10_sorts_57 : decode cX10_sorts 57 = .ok (.iload_n 2, 1) := by decide +kernel
theorem dX10_sorts_58 : decode cX10_sorts 58 = .ok (.iaload, 1) := by decide +kernel
theorem dX10_sorts_59 : decode cX10_sorts 59 = .ok (.if_icmp .ge 5, 3) := by decide +kernel
theorem dX10_sorts_62 : decode cX10_sorts 62 = .ok (.iload_n 3, 1) := by decide +kernel
theorem dX10_sorts_63 : decode cX10_sorts 63 = .ok (.istore_n 2, 1) := by decide +kernel
theorem dX10_sorts_64 : decode cX10_sorts 64 = .ok (.iinc 3 1, 3) := by decide +kernel
theorem dX10_sorts_67 : decode cX10_sorts 67 = .ok (.goto (-51), 3) := by decide +kernel
theorem dX10_sorts_70 : decode cX10_sorts 70 = .ok (.aload_n 0, 1) := by decide +kernel
theorem dX10_sorts_71 : decode cX10_sorts 71 = .ok (.iload_n 1, 1) := by decide +kernel
theorem dX10_sorts_72 : decode cX10_sorts 72 = .ok (.iload_n 2, 1) := by decide +kernel
theorem dX10_sorts_73 : decode cX10_sorts 73 = .ok (.invokevirtual 123, 3) := by decide +kernel
theorem dX10_sorts_76 : decode cX10_sorts 76 = .ok (.iinc 1 1, 3) := by decide +kernel
theorem dX10_sorts_79 : decode cX10_sorts 79 = .ok (.goto (-77), 3) := by decide +kernel
theorem dX10_sorts_82 : decode cX10_sorts 82 = .ok (.return_, 1) := by decide +kernel
theorem dX10_allGenerators_0 : decode cX10_allGenerators 0 = .ok (.iconst 1, 1) := by decide +kernel
theorem dX10_allGenerators_1 : decode cX10_allGenerators 1 = .ok (.aload_n 0, 1) := by decide +kernel
theorem dX10_allGenerators_2 : decode cX10_allGenerators 2 = .ok (.getfield 15, 3) := by decide +kernel
theorem dX10_allGenerators_5 : decode cX10_allGenerators 5 = .ok (.iconst 2, 1) := by decide +kernel
theorem dX10_allGenerators_6 : decode cX10_allGenerators 6 = .ok (.iaload, 1) := by decide +kernel
theorem dX10_allGenerators_7 : decode cX10_allGenerators 7 = .ok (.ishl, 1) := by decide +kernel
theorem dX10_allGenerators_8 : decode cX10_allGenerators 8 = .ok (.iconst 1, 1) := by decide +kernel
theorem dX10_allGenerators_9 : decode cX10_allGenerators 9 = .ok (.isub, 1) := by decide +kernel
theorem dX10_allGenerators_10 : decode cX10_allGenerators 10 = .ok (.ireturn, 1) := by decide +kernel
theorem dX10_moves__0 : decode cX10_moves_ 0 = .ok (.aload_n 0, 1) := by decide +kernel
theorem dX10_moves__1 : decode cX10_moves_ 1 = .ok (.aload_n 0, 1) := by decide +kernel
theorem dX10_moves__2 : decode cX10_moves_ 2 = .ok (.invokevirtual 126, 3) := by decide +kernel
theorem dX10_moves__5 : decode cX10_moves_ 5 = .ok (.invokevirtual 130, 3) := by decide +kernel
theorem dX10_moves__8 : decode cX10_moves_ 8 = .ok (.pop, 1) := by decide +kernel
theorem dX10_moves__9 : decode cX10_moves_ 9 = .ok (.return_, 1) := by decide +kernel
theorem dX10_counts_0 : decode cX10_counts 0 = .ok (.iload_n 2, 1) := by decide +kernel
theorem dX10_counts_1 : decode cX10_counts 1 = .ok (.iconst 1, 1) := by decide +kernel
theorem dX10_counts_2 : decode cX10_counts 2 = .ok (.if_icmp .eq 12, 3) := by decide +kernel
theorem dX10_counts_5 : decode cX10_counts 5 = .ok (.aload_n 0, 1) := by decide +kernel
theorem dX10_counts_6 : decode cX10_counts 6 = .ok (.getfield 25, 3) := by decide +kernel
theorem dX10_counts_9 : decode cX10_counts 9 = .ok (.iload_n 1, 1) := by decide +kernel
theorem dX10_counts_10 : decode cX10_counts 10 = .ok (.iaload, 1) := by decide +kernel
theorem dX10_counts_11 : decode cX10_counts 11 = .ok (.ifCond .ne 7, 3) := by decide +kernel
theorem dX10_counts_14 : decode cX10_counts 14 = .ok (.iconst 1, 1) := by decide +kernel
theorem dX10_counts_15 : decode cX10_counts 15 = .ok (.goto 4, 3) := by decide +kernel
theorem dX10_counts_18 : decode cX10_counts 18 = .ok (.iconst 0, 1) := by decide +kernel
theorem dX10_counts_19 : decode cX10_counts 19 = .ok (.ireturn, 1) := by decide +kernel
theorem dX10_manyOf_0 : decode cX10_manyOf 0 = .ok (.iconst 0, 1) := by decide +kernel
theorem dX10_manyOf_1 : decode cX10_manyOf 1 = .ok (.istore_n 2, 1) := by decide +kernel
theorem dX10_manyOf_2 : decode cX10_manyOf 2 = .ok (.iconst 0, 1) := by decide +kernel
theorem dX10_manyOf_3 : decode cX10_manyOf 3 = .ok (.istore_n 3, 1) := by decide +kernel
theorem dX10_manyOf_4 : decode cX10_manyOf 4 = .ok (.iload_n 3, 1) := by decide +kernel
theorem dX10_manyOf_5 : decode cX10_manyOf 5 = .ok (.aload_n 0, 1) := by decide +kernel
theorem dX10_manyOf_6 : decode cX10_manyOf 6 = .ok (.getfield 107, 3) := by decide +kernel
theorem dX10_manyOf_9 : decode cX10_manyOf 9 = .ok (.if_icmp .ge 26, 3) := by decide +kernel
theorem dX10_manyOf_12 : decode cX10_manyOf 12 = .ok (.iload_n 2, 1) := by decide +kernel
theorem dX10_manyOf_13 : decode cX10_manyOf 13 = .ok (.aload_n 0, 1) := by decide +kernel
theorem dX10_manyOf_14 : decode cX10_manyOf 14 = .ok (.iload_n 3, 1) := by decide +kernel
theorem dX10_manyOf_15 : decode cX10_manyOf 15 = .ok (.iload_n 1, 1) := by decide +kernel
theorem dX10_manyOf_16 : decode cX10_manyOf 16 = .ok (.invokevirtual 132, 3) := by decide +kernel
theorem dX10_manyOf_19 : decode cX10_manyOf 19 = .ok (.ifCond .eq 7, 3) := by decide +kernel
theorem dX10_manyOf_22 : decode cX10_manyOf 22 = .ok (.iconst 1, 1) := by decide +kernel
theorem dX10_manyOf_23 : decode cX10_manyOf 23 = .ok (.goto 4, 3) := by decide +kernel
theorem dX10_manyOf_26 : decode cX10_manyOf 26 = .ok (.iconst 0, 1) := by decide +kernel
theorem dX10_manyOf_27 : decode cX10_manyOf 27 = .ok (.iadd, 1) := by decide +kernel
theorem dX10_manyOf_28 : decode cX10_manyOf 28 = .ok (.istore_n 2, 1) := by decide +kernel
theorem dX10_manyOf_29 : decode cX10_manyOf 29 = .ok (.iinc 3 1, 3) := by decide +kernel
theorem dX10_manyOf_32 : decode cX10_manyOf 32 = .ok (.goto (-28), 3) := by decide +kernel
theorem dX10_manyOf_35 : decode cX10_manyOf 35 = .ok (.iload_n 2, 1) := by decide +kernel
theorem dX10_manyOf_36 : decode cX10_manyOf 36 = .ok (.ireturn, 1) := by decide +kernel
theorem dX10_isRow_0 : decode cX10_isRow 0 = .ok (.iload_n 1, 1) := by decide +kernel
theorem dX10_isRow_1 : decode cX10_isRow 1 = .ok (.istore_n 2, 1) := by decide +kernel
theorem dX10_isRow_2 : decode cX10_isRow 2 = .ok (.iconst 0, 1) := by decide +kernel
theorem dX10_isRow_3 : decode cX10_isRow 3 = .ok (.istore_n 3, 1) := by decide +kernel
theorem dX10_isRow_4 : decode cX10_isRow 4 = .ok (.aload_n 0, 1) := by decide +kernel
theorem dX10_isRow_5 : decode cX10_isRow 5 = .ok (.getfield 15, 3) := by decide +kernel
theorem dX10_isRow_8 : decode cX10_isRow 8 = .ok (.iconst 0, 1) := by decide +kernel
theorem dX10_isRow_9 : decode cX10_isRow 9 = .ok (.iaload, 1) := by decide +kernel
theorem dX10_isRow_10 : decode cX10_isRow 10 = .ok (.iconst 1, 1) := by decide +kernel
theorem dX10_isRow_11 : decode cX10_isRow 11 = .ok (.isub, 1) := by decide +kernel
theorem dX10_isRow_12 : decode cX10_isRow 12 = .ok (.istore 4, 2) := by decide +kernel
theorem dX10_isRow_14 : decode cX10_isRow 14 = .ok (.iload 4, 2) := by decide +kernel
theorem dX10_isRow_16 : decode cX10_isRow 16 = .ok (.ifCond .lt 63, 3) := by decide +kernel
theorem dX10_isRow_19 : decode cX10_isRow 19 = .ok (.iload_n 2, 1) := by decide +kernel
theorem dX10_isRow_20 : decode cX10_isRow 20 = .ok (.bipush 10, 2) := by decide +kernel
theorem dX10_isRow_22 : decode cX10_isRow 22 = .ok (.irem, 1) := by decide +kernel
theorem dX10_isRow_23 : decode cX10_isRow 23 = .ok (.iconst 1, 1) := by decide +kernel
theorem dX10_isRow_24 : decode cX10_isRow 24 = .ok (.isub, 1) := by decide +kernel
theorem dX10_isRow_25 : decode cX10_isRow 25 = .ok (.istore 5, 2) := by decide +kernel
theorem dX10_isRow_27 : decode cX10_isRow 27 = .ok (.iload_n 2, 1) := by decide +kernel
theorem dX10_isRow_28 : decode cX10_isRow 28 = .ok (.ifCond .le 31, 3) := by decide +kernel
theorem dX10_isRow_31 : decode cX10_isRow 31 = .ok (.iload 5, 2) := by decide +kernel
theorem dX10_isRow_33 : decode cX10_isRow 33 = .ok (.i2l, 1) := by decide +kernel
theorem dX10_isRow_34 : decode cX10_isRow 34 = .ok (.lconst 0, 1) := by decide +kernel
theorem dX10_isRow_35 : decode cX10_isRow 35 = .ok (.aload_n 0, 1) := by decide +kernel
theorem dX10_isRow_36 : decode cX10_isRow 36 = .ok (.getfield 15, 3) := by decide +kernel
theorem dX10_isRow_39 : decode cX10_isRow 39 = .ok (.iconst 0, 1) := by decide +kernel
theorem dX10_isRow_40 : decode cX10_isRow 40 = .ok (.iaload, 1) := by decide +kernel
theorem dX10_isRow_41 : decode cX10_isRow 41 = .ok (.iconst 1, 1) := by decide +kernel
theorem dX10_isRow_42 : decode cX10_isRow 42 = .ok (.isub, 1) := by decide +kernel
theorem dX10_isRow_43 : decode cX10_isRow 43 = .ok (.i2l, 1) := by decide +kernel
theorem dX10_isRow_44 : decode cX10_isRow 44 = .ok (.invokestatic 85, 3) := by decide +kernel
theorem dX10_isRow_47 : decode cX10_isRow 47 = .ok (.ifCond .eq 12, 3) := by decide +kernel
theorem dX10_isRow_50 : decode cX10_isRow 50 = .ok (.iload_n 3, 1) := by decide +kernel
theorem dX10_isRow_51 : decode cX10_isRow 51 = .ok (.iload 5, 2) := by decide +kernel
theorem dX10_isRow_53 : decode cX10_isRow 53 = .ok (.invokestatic 110, 3) := by decide +kernel
theorem dX10_isRow_56 : decode cX10_isRow 56 = .ok (.ifCond .eq 5, 3) := by decide +kernel
theorem dX10_isRow_59 : decode cX10_isRow 59 = .ok (.iconst 0, 1) := by decide +kernel
theorem dX10_isRow_60 : decode cX10_isRow 60 = .ok (.ireturn, 1) := by decide +kernel
theorem dX10_isRow_61 : decode cX10_isRow 61 = .ok (.iload_n 3, 1) := by decide +kernel
theorem dX10_isRow_62 : decode cX10_isRow 62 = .ok (.iconst 1, 1) := by decide +kernel
theorem dX10_isRow_63 : decode cX10_isRow 63 = .ok (.iload 5, 2) := by decide +kernel
theorem dX10_isRow_65 : decode cX10_isRow 65 = .ok (.ishl, 1) := by decide +kernel
theorem dX10_isRow_66 : decode cX10_isRow 66 = .ok (.ior, 1) := by decide +kernel
theorem dX10_isRow_67 : decode cX10_isRow 67 = .ok (.istore_n 3, 1) := by decide +kernel
theorem dX10_isRow_68 : decode cX10_isRow 68 = .ok (.iload_n 2, 1) := by decide +kernel
theorem dX10_isRow_69 : decode cX10_isRow 69 = .ok (.bipush 10, 2) := by decide +kernel
theorem dX10_isRow_71 : decode cX10_isRow 71 = .ok (.idiv, 1) := by decide +kernel
theorem dX10_isRow_72 : decode cX10_isRow 72 = .ok (.istore_n 2, 1) := by decide +kernel
theorem dX10_isRow_73 : decode cX10_isRow 73 = .ok (.iinc 4 (-1), 3) := by decide +kernel
theorem dX10_isRow_76 : decode cX10_isRow 76 = .ok (.goto (-62), 3) := by decide +kernel
theorem dX10_isRow_79 : decode cX10_isRow 79 = .ok (.iload_n 2, 1) := by decide +kernel
theorem dX10_isRow_80 : decode cX10_isRow 80 = .ok (.ifCond .ne 7, 3) := by decide +kernel
theorem dX10_isRow_83 : decode cX10_isRow 83 = .ok (.iconst 1, 1) := by decide +kernel
theorem dX10_isRow_84 : decode cX10_isRow 84 = .ok (.goto 4, 3) := by decide +kernel
theorem dX10_isRow_87 : decode cX10_isRow 87 = .ok (.iconst 0, 1) := by decide +kernel
theorem dX10_isRow_88 : decode cX10_isRow 88 = .ok (.ireturn, 1) := by decide +kernel
theorem dX10_tells_0 : decode cX10_tells 0 = .ok (.aload_n 0, 1) := by decide +kernel
theorem dX10_tells_1 : decode cX10_tells 1 = .ok (.getfield 28, 3) := by decide +kernel
theorem dX10_tells_4 : decode cX10_tells 4 = .ok (.aload_n 0, 1) := by decide +kernel
theorem dX10_tells_5 : decode cX10_tells 5 = .ok (.getfield 135, 3) := by decide +kernel
theorem dX10_tells_8 : decode cX10_tells 8 = .ok (.iload_n 1, 1) := by decide +kernel
theorem dX10_tells_9 : decode cX10_tells 9 = .ok (.iastore, 1) := by decide +kernel
theorem dX10_tells_10 : decode cX10_tells 10 = .ok (.aload_n 0, 1) := by decide +kernel
theorem dX10_tells_11 : decode cX10_tells 11 = .ok (.getfield 31, 3) := by decide +kernel
theorem dX10_tells_14 : decode cX10_tells 14 = .ok (.aload_n 0, 1) := by decide +kernel
theorem dX10_tells_15 : decode cX10_tells 15 = .ok (.getfield 135, 3) := by decide +kernel
theorem dX10_tells_18 : decode cX10_tells 18 = .ok (.iload_n 2, 1) := by decide +kernel
theorem dX10_tells_19 : decode cX10_tells 19 = .ok (.iastore, 1) := by decide +kernel
theorem dX10_tells_20 : decode cX10_tells 20 = .ok (.aload_n 0, 1) := by decide +kernel
theorem dX10_tells_21 : decode cX10_tells 21 = .ok (.dup, 1) := by decide +kernel
theorem dX10_tells_22 : decode cX10_tells 22 = .ok (.getfield 135, 3) := by decide +kernel
theorem dX10_tells_25 : decode cX10_tells 25 = .ok (.iconst 1, 1) := by decide +kernel
theorem dX10_tells_26 : decode cX10_tells 26 = .ok (.iadd, 1) := by decide +kernel
theorem dX10_tells_27 : decode cX10_tells 27 = .ok (.putfield 135, 3) := by decide +kernel
theorem dX10_tells_30 : decode cX10_tells 30 = .ok (.return_, 1) := by decide +kernel
theorem dX10_generator_0 : decode cX10_generator 0 = .ok (.aload_n 0, 1) := by decide +kernel
theorem dX10_generator_1 : decode cX10_generator 1 = .ok (.iload_n 1, 1) := by decide +kernel
theorem dX10_generator_2 : decode cX10_generator 2 = .ok (.invokevirtual 138, 3) := by decide +kernel
theorem dX10_generator_5 : decode cX10_generator 5 = .ok (.ifCond .eq 13, 3) := by decide +kernel
theorem dX10_generator_8 : decode cX10_generator 8 = .ok (.iload_n 2, 1) := by decide +kernel
theorem dX10_generator_9 : decode cX10_generator 9 = .ok (.i2l, 1) := by decide +kernel
theorem dX10_generator_10 : decode cX10_generator 10 = .ok (.lconst 0, 1) := by decide +kernel
theorem dX10_generator_11 : decode cX10_generator 11 = .ok (.lconst 1, 1) := by decide +kernel
theorem dX10_generator_12 : decode cX10_generator 12 = .ok (.invokestatic 85, 3) := by decide +kernel
theorem dX10_generator_15 : decode cX10_generator 15 = .ok (.ifCond .ne 6, 3) := by decide +kernel
theorem dX10_generator_18 : decode cX10_generator 18 = .ok (.bipush (-2), 2) := by decide +kernel
theorem dX10_generator_20 : decode cX10_generator 20 = .ok (.ireturn, 1) := by decide +kernel
theorem dX10_generator_21 : decode cX10_generator 21 = .ok (.aload_n 0, 1) := by decide +kernel
theorem dX10_generator_22 : decode cX10_generator 22 = .ok (.getfield 15, 3) := by decide +kernel
theorem dX10_generator_25 : decode cX10_generator 25 = .ok (.iconst 2, 1) := by decide +kernel
theorem dX10_generator_26 : decode cX10_generator 26 = .ok (.iaload, 1) := by decide +kernel
theorem dX10_generator_27 : decode cX10_generator 27 = .ok (.iconst 4, 1) := by decide +kernel
theorem dX10_generator_28 : decode cX10_generator 28 = .ok (.if_icmp .ne 6, 3) := by decide +kernel
theorem dX10_generator_31 : decode cX10_generator 31 = .ok (.bipush (-4), 2) := by decide +kernel
theorem dX10_generator_33 : decode cX10_generator 33 = .ok (.ireturn, 1) := by decide +kernel
theorem dX10_generator_34 : decode cX10_generator 34 = .ok (.aload_n 0, 1) := by decide +kernel
theorem dX10_generator_35 : decode cX10_generator 35 = .ok (.getfield 15, 3) := by decide +kernel
theorem dX10_generator_38 : decode cX10_generator 38 = .ok (.iconst 2, 1) := by decide +kernel
theorem dX10_generator_39 : decode cX10_generator 39 = .ok (.iaload, 1) := by decide +kernel
theorem dX10_generator_40 : decode cX10_generator 40 = .ok (.istore_n 3, 1) := by decide +kernel
theorem dX10_generator_41 : decode cX10_generator 41 = .ok (.iload_n 1, 1) := by decide +kernel
theorem dX10_generator_42 : decode cX10_generator 42 = .ok (.istore 4, 2) := by decide +kernel
theorem dX10_generator_44 : decode cX10_generator 44 = .ok (.aload_n 0, 1) := by decide +kernel
theorem dX10_generator_45 : decode cX10_generator 45 = .ok (.getfield 15, 3) := by decide +kernel
theorem dX10_generator_48 : decode cX10_generator 48 = .ok (.iconst 0, 1) := by decide +kernel
theorem dX10_generator_49 : decode cX10_generator 49 = .ok (.iaload, 1) := by decide +kernel
theorem dX10_generator_50 : decode cX10_generator 50 = .ok (.iconst 1, 1) := by decide +kernel
theorem dX10_generator_51 : decode cX10_generator 51 = .ok (.isub, 1) := by decide +kernel
theorem dX10_generator_52 : decode cX10_generator 52 = .ok (.istore 5, 2) := by decide +kernel
theorem dX10_generator_54 : decode cX10_generator 54 = .ok (.iload 5, 2) := by decide +kernel
theorem dX10_generator_56 : decode cX10_generator 56 = .ok (.ifCond .lt 38, 3) := by decide +kernel
theorem dX10_generator_59 : decode cX10_generator 59 = .ok (.aload_n 0, 1) := by decide +kernel
theorem dX10_generator_60 : decode cX10_generator 60 = .ok (.getfield 15, 3) := by decide +kernel
theorem dX10_generator_63 : decode cX10_generator 63 = .ok (.bipush 9, 2) := by decide +kernel
theorem dX10_generator_65 : decode cX10_generator 65 = .ok (.bipush 6, 2) := by decide +kernel
theorem dX10_generator_67 : decode cX10_generator 67 = .ok (.iload_n 3, 1) := by decide +kernel
theorem dX10_generator_68 : decode cX10_generator 68 = .ok (.imul, 1) := by decide +kernel
theorem dX10_generator_69 : decode cX10_generator 69 = .ok (.iadd, 1) := by decide +kernel
theorem dX10_generator_70 : decode cX10_generator 70 = .ok (.iload 5, 2) := by decide +kernel
theorem dX10_generator_72 : decode cX10_generator 72 = .ok (.iadd, 1) := by decide +kernel
theorem dX10_generator_73 : decode cX10_generator 73 = .ok (.iload 4, 2) := by decide +kernel
theorem dX10_generator_75 : decode cX10_generator 75 = .ok (.bipush 10, 2) := by decide +kernel
theorem dX10_generator_77 : decode cX10_generator 77 = .ok (.irem, 1) := by decide +kernel
theorem dX10_generator_78 : decode cX10_generator 78 = .ok (.iconst 1, 1) := by decide +kernel
theorem dX10_generator_79 : decode cX10_generator 79 = .ok (.isub, 1) := by decide +kernel
theorem dX10_generator_80 : decode cX10_generator 80 = .ok (.iastore, 1) := by decide +kernel
theorem dX10_generator_81 : decode cX10_generator 81 = .ok (.iload 4, 2) := by decide +kernel
theorem dX10_generator_83 : decode cX10_generator 83 = .ok (.bipush 10, 2) := by decide +kernel
theorem dX10_generator_85 : decode cX10_generator 85 = .ok (.idiv, 1) := by decide +kernel
theorem dX10_generator_86 : decode cX10_generator 86 = .ok (.istore 4, 2) := by decide +kernel
theorem dX10_generator_88 : decode cX10_generator 88 = .ok (.iinc 5 (-1), 3) := by decide +kernel
theorem dX10_generator_91 : decode cX10_generator 91 = .ok (.goto (-37), 3) := by decide +kernel
theorem dX10_generator_94 : decode cX10_generator 94 = .ok (.aload_n 0, 1) := by decide +kernel
theorem dX10_generator_95 : decode cX10_generator 95 = .ok (.getfield 15, 3) := by decide +kernel
theorem dX10_generator_98 : decode cX10_generator 98 = .ok (.bipush 33, 2) := by decide +kernel
theorem dX10_generator_100 : decode cX10_generator 100 = .ok (.iload_n 3, 1) := by decide +kernel
theorem dX10_generator_101 : decode cX10_generator 101 = .ok (.iadd, 1) := by decide +kernel
theorem dX10_generator_102 : decode cX10_generator 102 = .ok (.iload_n 2, 1) := by decide +kernel
theorem dX10_generator_103 : decode cX10_generator 103 = .ok (.iastore, 1) := by decide +kernel
theorem dX10_generator_104 : decode cX10_generator 104 = .ok (.aload_n 0, 1) := by decide +kernel
theorem dX10_generator_105 : decode cX10_generator 105 = .ok (.getfield 15, 3) := by decide +kernel
theorem dX10_generator_108 : decode cX10_generator 108 = .ok (.iconst 2, 1) := by decide +kernel
theorem dX10_generator_109 : decode cX10_generator 109 = .ok (.dup2, 1) := by decide +kernel
theorem dX10_generator_110 : decode cX10_generator 110 = .ok (.iaload, 1) := by decide +kernel
theorem dX10_generator_111 : decode cX10_generator 111 = .ok (.iconst 1, 1) := by decide +kernel
theorem dX10_generator_112 : decode cX10_generator 112 = .ok (.iadd, 1) := by decide +kernel
theorem dX10_generator_113 : decode cX10_generator 113 = .ok (.iastore, 1) := by decide +kernel
theorem dX10_generator_114 : decode cX10_generator 114 = .ok (.aload_n 0, 1) := by decide +kernel
theorem dX10_generator_115 : decode cX10_generator 115 = .ok (.aload_n 0, 1) := by decide +kernel
theorem dX10_generator_116 : decode cX10_generator 116 = .ok (.invokevirtual 126, 3) := by decide +kernel
theorem dX10_generator_119 : decode cX10_generator 119 = .ok (.invokevirtual 130, 3) := by decide +kernel
theorem dX10_generator_122 : decode cX10_generator 122 = .ok (.ifCond .ne 40, 3) := by decide +kernel
theorem dX10_generator_125 : decode cX10_generator 125 = .ok (.aload_n 0, 1) := by decide +kernel
theorem dX10_generator_126 : decode cX10_generator 126 = .ok (.getfield 15, 3) := by decide +kernel
theorem dX10_generator_129 : decode cX10_generator 129 = .ok (.iconst 2, 1) := by decide +kernel
theorem dX10_generator_130 : decode cX10_generator 130 = .ok (.dup2, 1) := by decide +kernel
theorem dX10_generator_131 : decode cX10_generator 131 = .ok (.iaload, 1) := by decide +kernel
theorem dX10_generator_132 : decode cX10_generator 132 = .ok (.iconst 1, 1) := by decide +kernel
theorem dX10_generator_133 : decode cX10_generator 133 = .ok (.isub, 1) := by decide +kernel
theorem dX10_generator_134 : decode cX10_generator 134 = .ok (.iastore, 1) := by decide +kernel
theorem dX10_generator_135 : decode cX10_generator 135 = .ok (.aload_n 0, 1) := by decide +kernel
theorem dX10_generator_136 : decode cX10_generator 136 = .ok (.iconst 0, 1) := by decide +kernel
theorem dX10_generator_137 : decode cX10_generator 137 = .ok (.putfield 135, 3) := by decide +kernel
theorem dX10_generator_140 : decode cX10_generator 140 = .ok (.aload_n 0, 1) := by decide +kernel
theorem dX10_generator_141 : decode cX10_generator 141 = .ok (.iconst 5, 1) := by decide +kernel
theorem dX10_generator_142 : decode cX10_generator 142 = .ok (.aload_n 0, 1) := by decide +kernel
theorem dX10_generator_143 : decode cX10_generator 143 = .ok (.getfield 15, 3) := by decide +kernel
theorem dX10_generator_146 : decode cX10_generator 146 = .ok (.iconst 2, 1) := by decide +kernel
theorem dX10_generator_147 : decode cX10_generator 147 = .ok (.iaload, 1) := by decide +kernel
theorem dX10_generator_148 : decode cX10_generator 148 = .ok (.invokevirtual 141, 3) := by decide +kernel
theorem dX10_generator_151 : decode cX10_generator 151 = .ok (.aload_n 0, 1) := by decide +kernel
theorem dX10_generator_152 : decode cX10_generator 152 = .ok (.bipush 6, 2) := by decide +kernel
theorem dX10_generator_154 : decode cX10_generator 154 = .ok (.bipush 120, 2) := by decide +kernel
theorem dX10_generator_156 : decode cX10_generator 156 = .ok (.invokevirtual 141, 3) := by decide +kernel
theorem dX10_generator_159 : decode cX10_generator 159 = .ok (.bipush (-15), 2) := by decide +kernel
theorem dX10_generator_161 : decode cX10_generator 161 = .ok (.ireturn, 1) := by decide +kernel
theorem dX10_generator_162 : decode cX10_generator 162 = .ok (.iload_n 3, 1) := by decide +kernel
theorem dX10_generator_163 : decode cX10_generator 163 = .ok (.ireturn, 1) := by decide +kernel
theorem dX10_drop_0 : decode cX10_drop 0 = .ok (.aload_n 0, 1) := by decide +kernel
theorem dX10_drop_1 : decode cX10_drop 1 = .ok (.getfield 15, 3) := by decide +kernel
theorem dX10_drop_4 : decode cX10_drop 4 = .ok (.iconst 2, 1) := by decide +kernel
theorem dX10_drop_5 : decode cX10_drop 5 = .ok (.iaload, 1) := by decide +kernel
theorem dX10_drop_6 : decode cX10_drop 6 = .ok (.ifCond .ne 6, 3) := by decide +kernel
theorem dX10_drop_9 : decode cX10_drop 9 = .ok (.bipush (-3), 2) := by decide +kernel
theorem dX10_drop_11 : decode cX10_drop 11 = .ok (.ireturn, 1) := by decide +kernel
theorem dX10_drop_12 : decode cX10_drop 12 = .ok (.aload_n 0, 1) := by decide +kernel
theorem dX10_drop_13 : decode cX10_drop 13 = .ok (.getfield 15, 3) := by decide +kernel
theorem dX10_drop_16 : decode cX10_drop 16 = .ok (.iconst 2, 1) := by decide +kernel
theorem dX10_drop_17 : decode cX10_drop 17 = .ok (.dup2, 1) := by decide +kernel
theorem dX10_drop_18 : decode cX10_drop 18 = .ok (.iaload, 1) := by decide +kernel
theorem dX10_drop_19 : decode cX10_drop 19 = .ok (.iconst 1, 1) := by decide +kernel
theorem dX10_drop_20 : decode cX10_drop 20 = .ok (.isub, 1) := by decide +kernel
theorem dX10_drop_21 : decode cX10_drop 21 = .ok (.iastore, 1) := by decide +kernel
theorem dX10_drop_22 : decode cX10_drop 22 = .ok (.iconst 0, 1) := by decide +kernel
theorem dX10_drop_23 : decode cX10_drop 23 = .ok (.istore_n 1, 1) := by decide +kernel
theorem dX10_drop_24 : decode cX10_drop 24 = .ok (.iload_n 1, 1) := by decide +kernel
theorem dX10_drop_25 : decode cX10_drop 25 = .ok (.bipush 9, 2) := by decide +kernel
theorem dX10_drop_27 : decode cX10_drop 27 = .ok (.if_icmp .ge 50, 3) := by decide +kernel
theorem dX10_drop_30 : decode cX10_drop 30 = .ok (.aload_n 0, 1) := by decide +kernel
theorem dX10_drop_31 : decode cX10_drop 31 = .ok (.getfield 15, 3) := by decide +kernel
theorem dX10_drop_34 : decode cX10_drop 34 = .ok (.bipush 37, 2) := by decide +kernel
theorem dX10_drop_36 : decode cX10_drop 36 = .ok (.iload_n 1, 1) := by decide +kernel
theorem dX10_drop_37 : decode cX10_drop 37 = .ok (.iadd, 1) := by decide +kernel
theorem dX10_drop_38 : decode cX10_drop 38 = .ok (.aload_n 0, 1) := by decide +kernel
theorem dX10_drop_39 : decode cX10_drop 39 = .ok (.getfield 15, 3) := by decide +kernel
theorem dX10_drop_42 : decode cX10_drop 42 = .ok (.bipush 37, 2) := by decide +kernel
theorem dX10_drop_44 : decode cX10_drop 44 = .ok (.iload_n 1, 1) := by decide +kernel
theorem dX10_drop_45 : decode cX10_drop 45 = .ok (.iadd, 1) := by decide +kernel
theorem dX10_drop_46 : decode cX10_drop 46 = .ok (.iaload, 1) := by decide +kernel
theorem dX10_drop_47 : decode cX10_drop 47 = .ok (.aload_n 0, 1) := by decide +kernel
theorem dX10_drop_48 : decode cX10_drop 48 = .ok (.getfield 15, 3) := by decide +kernel
theorem dX10_drop_51 : decode cX10_drop 51 = .ok (.iconst 2, 1) := by decide +kernel
theorem dX10_drop_52 : decode cX10_drop 52 = .ok (.iaload, 1) := by decide +kernel
theorem dX10_drop_53 : decode cX10_drop 53 = .ok (.if_icmp .ne 8, 3) := by decide +kernel
theorem dX10_drop_56 : decode cX10_drop 56 = .ok (.bipush (-5), 2) := by decide +kernel
theorem dX10_drop_58 : decode cX10_drop 58 = .ok (.goto 12, 3) := by decide +kernel
theorem dX10_drop_61 : decode cX10_drop 61 = .ok (.aload_n 0, 1) := by decide +kernel
theorem dX10_drop_62 : decode cX10_drop 62 = .ok (.getfield 15, 3) := by decide +kernel
theorem dX10_drop_65 : decode cX10_drop 65 = .ok (.bipush 37, 2) := by decide +kernel
theorem dX10_drop_67 : decode cX10_drop 67 = .ok (.iload_n 1, 1) := by decide +kernel
theorem dX10_drop_68 : decode cX10_drop 68 = .ok (.iadd, 1) := by decide +kernel
theorem dX10_drop_69 : decode cX10_drop 69 = .ok (.iaload, 1) := by decide +kernel
theorem dX10_drop_70 : decode cX10_drop 70 = .ok (.iastore, 1) := by decide +kernel
theorem dX10_drop_71 : decode cX10_drop 71 = .ok (.iinc 1 1, 3) := by decide +kernel
theorem dX10_drop_74 : decode cX10_drop 74 = .ok (.goto (-50), 3) := by decide +kernel
theorem dX10_drop_77 : decode cX10_drop 77 = .ok (.aload_n 0, 1) := by decide +kernel
theorem dX10_drop_78 : decode cX10_drop 78 = .ok (.getfield 15, 3) := by decide +kernel
theorem dX10_drop_81 : decode cX10_drop 81 = .ok (.iconst 2, 1) := by decide +kernel
theorem dX10_drop_82 : decode cX10_drop 82 = .ok (.iaload, 1) := by decide +kernel
theorem dX10_drop_83 : decode cX10_drop 83 = .ok (.ireturn, 1) := by decide +kernel
theorem dX10_rowOf_0 : decode cX10_rowOf 0 = .ok (.iconst 0, 1) := by decide +kernel
theorem dX10_rowOf_1 : decode cX10_rowOf 1 = .ok (.istore_n 2, 1) := by decide +kernel
theorem dX10_rowOf_2 : decode cX10_rowOf 2 = .ok (.iconst 0, 1) := by decide +kernel
theorem dX10_rowOf_3 : decode cX10_rowOf 3 = .ok (.istore_n 3, 1) := by decide +kernel
theorem dX10_rowOf_4 : decode cX10_rowOf 4 = .ok (.iload_n 3, 1) := by decide +kernel
theorem dX10_rowOf_5 : decode cX10_rowOf 5 = .ok (.aload_n 0, 1) := by decide +kernel
theorem dX10_rowOf_6 : decode cX10_rowOf 6 = .ok (.getfield 15, 3) := by decide +kernel
theorem dX10_rowOf_9 : decode cX10_rowOf 9 = .ok (.iconst 0, 1) := by decide +kernel
theorem dX10_rowOf_10 : decode cX10_rowOf 10 = .ok (.iaload, 1) := by decide +kernel
theorem dX10_rowOf_11 : decode cX10_rowOf 11 = .ok (.if_icmp .ge 31, 3) := by decide +kernel
theorem dX10_rowOf_14 : decode cX10_rowOf 14 = .ok (.bipush 10, 2) := by decide +kernel
theorem dX10_rowOf_16 : decode cX10_rowOf 16 = .ok (.iload_n 2, 1) := by decide +kernel
theorem dX10_rowOf_17 : decode cX10_rowOf 17 = .ok (.imul, 1) := by decide +kernel
theorem dX10_rowOf_18 : decode cX10_rowOf 18 = .ok (.aload_n 0, 1) := by decide +kernel
theorem dX10_rowOf_19 : decode cX10_rowOf 19 = .ok (.getfield 15, 3) := by decide +kernel
theorem dX10_rowOf_22 : decode cX10_rowOf 22 = .ok (.bipush 9, 2) := by decide +kernel
theorem dX10_rowOf_24 : decode cX10_rowOf 24 = .ok (.bipush 6, 2) := by decide +kernel
theorem dX10_rowOf_26 : decode cX10_rowOf 26 = .ok (.iload_n 1, 1) := by decide +kernel
theorem dX10_rowOf_27 : decode cX10_rowOf 27 = .ok (.imul, 1) := by decide +kernel
theorem dX10_rowOf_28 : decode cX10_rowOf 28 = .ok (.iadd, 1) := by decide +kernel
theorem dX10_rowOf_29 : decode cX10_rowOf 29 = .ok (.iload_n 3, 1) := by decide +kernel
theorem dX10_rowOf_30 : decode cX10_rowOf 30 = .ok (.iadd, 1) := by decide +kernel
theorem dX10_rowOf_31 : decode cX10_rowOf 31 = .ok (.iaload, 1) := by decide +kernel
theorem dX10_rowOf_32 : decode cX10_rowOf 32 = .ok (.iadd, 1) := by decide +kernel
theorem dX10_rowOf_33 : decode cX10_rowOf 33 = .ok (.iconst 1, 1) := by decide +kernel
theorem dX10_rowOf_34 : decode cX10_rowOf 34 = .ok (.iadd, 1) := by decide +kernel
theorem dX10_rowOf_35 : decode cX10_rowOf 35 = .ok (.istore_n 2, 1) := by decide +kernel
theorem dX10_rowOf_36 : decode cX10_rowOf 36 = .ok (.iinc 3 1, 3) := by decide +kernel
theorem dX10_rowOf_39 : decode cX10_rowOf 39 = .ok (.goto (-35), 3) := by decide +kernel
theorem dX10_rowOf_42 : decode cX10_rowOf 42 = .ok (.iload_n 2, 1) := by decide +kernel
theorem dX10_rowOf_43 : decode cX10_rowOf 43 = .ok (.ireturn, 1) := by decide +kernel
theorem dX10_cycles_0 : decode cX10_cycles 0 = .ok (.iconst 0, 1) := by decide +kernel
theorem dX10_cycles_1 : decode cX10_cycles 1 = .ok (.istore_n 2, 1) := by decide +kernel
theorem dX10_cycles_2 : decode cX10_cycles 2 = .ok (.iconst 0, 1) := by decide +kernel
theorem dX10_cycles_3 : decode cX10_cycles 3 = .ok (.istore_n 3, 1) := by decide +kernel
theorem dX10_cycles_4 : decode cX10_cycles 4 = .ok (.iconst 0, 1) := by decide +kernel
theorem dX10_cycles_5 : decode cX10_cycles 5 = .ok (.istore 4, 2) := by decide +kernel
theorem dX10_cycles_7 : decode cX10_cycles 7 = .ok (.iload 4, 2) := by decide +kernel
theorem dX10_cycles_9 : decode cX10_cycles 9 = .ok (.aload_n 0, 1) := by decide +kernel
theorem dX10_cycles_10 : decode cX10_cycles 10 = .ok (.getfield 15, 3) := by decide +kernel
theorem dX10_cycles_13 : decode cX10_cycles 13 = .ok (.iconst 0, 1) := by decide +kernel
theorem dX10_cycles_14 : decode cX10_cycles 14 = .ok (.iaload, 1) := by decide +kernel
theorem dX10_cycles_15 : decode cX10_cycles 15 = .ok (.if_icmp .ge 70, 3) := by decide +kernel
theorem dX10_cycles_18 : decode cX10_cycles 18 = .ok (.iconst 0, 1) := by decide +kernel
theorem dX10_cycles_19 : decode cX10_cycles 19 = .ok (.istore 5, 2) := by decide +kernel
theorem dX10_cycles_21 : decode cX10_cycles 21 = .ok (.iload 4, 2) := by decide +kernel
theorem dX10_cycles_23 : decode cX10_cycles 23 = .ok (.istore 6, 2) := by decide +kernel
theorem dX10_cycles_25 : decode cX10_cycles 25 = .ok (.iload_n 2, 1) := by decide +kernel
theorem dX10_cycles_26 : decode cX10_cycles 26 = .ok (.iload 6, 2) := by decide +kernel
theorem dX10_cycles_28 : decode cX10_cycles 28 = .ok (.invokestatic 110, 3) := by decide +kernel
theorem dX10_cycles_31 : decode cX10_cycles 31 = .ok (.ifCond .ne 25, 3) := by decide +kernel
theorem dX10_cycles_34 : decode cX10_cycles 34 = .ok (.iload_n 2, 1) := by decide +kernel
theorem dX10_cycles_35 : decode cX10_cycles 35 = .ok (.iconst 1, 1) := by decide +kernel
theorem dX10_cycles_36 : decode cX10_cycles 36 = .ok (.iload 6, 2) := by decide +kernel
theorem dX10_cycles_38 : decode cX10_cycles 38 = .ok (.ishl, 1) := by decide +kernel
theorem dX10_cycles_39 : decode cX10_cycles 39 = .ok (.ior, 1) := by decide +kernel
theorem dX10_cycles_40 : decode cX10_cycles 40 = .ok (.istore_n 2, 1) := by decide +kernel
theorem dX10_cycles_41 : decode cX10_cycles 41 = .ok (.iinc 5 1, 3) := by decide +kernel
theorem dX10_cycles_44 : decode cX10_cycles 44 = .ok (.aload_n 0, 1) := by decide +kernel
theorem dX10_cycles_45 : decode cX10_cycles 45 = .ok (.getfield 34, 3) := by decide +kernel
theorem dX10_cycles_48 : decode cX10_cycles 48 = .ok (.iload 6, 2) := by decide +kernel
theorem dX10_cycles_50 : decode cX10_cycles 50 = .ok (.iaload, 1) := by decide +kernel
theorem dX10_cycles_51 : decode cX10_cycles 51 = .ok (.istore 6, 2) := by decide +kernel
theorem dX10_cycles_53 : decode cX10_cycles 53 = .ok (.goto (-28), 3) := by decide +kernel
theorem dX10_cycles_56 : decode cX10_cycles 56 = .ok (.iload_n 3, 1) := by decide +kernel
theorem dX10_cycles_57 : decode cX10_cycles 57 = .ok (.iload 5, 2) := by decide +kernel
theorem dX10_cycles_59 : decode cX10_cycles 59 = .ok (.ifCond .le 17, 3) := by decide +kernel
theorem dX10_cycles_62 : decode cX10_cycles 62 = .ok (.iload_n 1, 1) := by decide +kernel
theorem dX10_cycles_63 : decode cX10_cycles 63 = .ok (.ifCond .eq 9, 3) := by decide +kernel
theorem dX10_cycles_66 : decode cX10_cycles 66 = .ok (.iload 5, 2) := by decide +kernel
theorem dX10_cycles_68 : decode cX10_cycles 68 = .ok (.iload_n 1, 1) := by decide +kernel
theorem dX10_cycles_69 : decode cX10_cycles 69 = .ok (.if_icmp .ne 7, 3) := by decide +kernel
theorem dX10_cycles_72 : decode cX10_cycles 72 = .ok (.iconst 1, 1) := by decide +kernel
theorem dX10_cycles_73 : decode cX10_cycles 73 = .ok (.goto 4, 3) := by decide +kernel
theorem dX10_cycles_76 : decode cX10_cycles 76 = .ok (.iconst 0, 1) := by decide +kernel
theorem dX10_cycles_77 : decode cX10_cycles 77 = .ok (.iadd, 1) := by decide +kernel
theorem dX10_cycles_78 : decode cX10_cycles 78 = .ok (.istore_n 3, 1) := by decide +kernel
theorem dX10_cycles_79 : decode cX10_cycles 79 = .ok (.iinc 4 1, 3) := by decide +kernel
theorem dX10_cycles_82 : decode cX10_cycles 82 = .ok (.goto (-75), 3) := by decide +kernel
theorem dX10_cycles_85 : decode cX10_cycles 85 = .ok (.iload_n 3, 1) := by decide +kernel
theorem dX10_cycles_86 : decode cX10_cycles 86 = .ok (.ireturn, 1) := by decide +kernel
theorem dX10_typeAsked_0 : decode cX10_typeAsked 0 = .ok (.iconst 0, 1) := by decide +kernel
theorem dX10_typeAsked_1 : decode cX10_typeAsked 1 = .ok (.istore_n 1, 1) := by decide +kernel
theorem dX10_typeAsked_2 : decode cX10_typeAsked 2 = .ok (.iconst 1, 1) := by decide +kernel
theorem dX10_typeAsked_3 : decode cX10_typeAsked 3 = .ok (.istore_n 2, 1) := by decide +kernel
theorem dX10_typeAsked_4 : decode cX10_typeAsked 4 = .ok (.iload_n 2, 1) := by decide +kernel
theorem dX10_typeAsked_5 : decode cX10_typeAsked 5 = .ok (.bipush 6, 2) := by decide +kernel
theorem dX10_typeAsked_7 : decode cX10_typeAsked 7 = .ok (.if_icmp .gt 20, 3) := by decide +kernel
theorem dX10_typeAsked_10 : decode cX10_typeAsked 10 = .ok (.bipush 10, 2) := by decide +kernel
theorem dX10_typeAsked_12 : decode cX10_typeAsked 12 = .ok (.iload_n 1, 1) := by decide +kernel
theorem dX10_typeAsked_13 : decode cX10_typeAsked 13 = .ok (.imul, 1) := by decide +kernel
theorem dX10_typeAsked_14 : decode cX10_typeAsked 14 = .ok (.aload_n 0, 1) := by decide +kernel
theorem dX10_typeAsked_15 : decode cX10_typeAsked 15 = .ok (.iload_n 2, 1) := by decide +kernel
theorem dX10_typeAsked_16 : decode cX10_typeAsked 16 = .ok (.invokevirtual 144, 3) := by decide +kernel
theorem dX10_typeAsked_19 : decode cX10_typeAsked 19 = .ok (.iadd, 1) := by decide +kernel
theorem dX10_typeAsked_20 : decode cX10_typeAsked 20 = .ok (.istore_n 1, 1) := by decide +kernel
theorem dX10_typeAsked_21 : decode cX10_typeAsked 21 = .ok (.iinc 2 1, 3) := by decide +kernel
theorem dX10_typeAsked_24 : decode cX10_typeAsked 24 = .ok (.goto (-20), 3) := by decide +kernel
theorem dX10_typeAsked_27 : decode cX10_typeAsked 27 = .ok (.iload_n 1, 1) := by decide +kernel
theorem dX10_typeAsked_28 : decode cX10_typeAsked 28 = .ok (.ireturn, 1) := by decide +kernel
theorem dX10_typeOf_0 : decode cX10_typeOf 0 = .ok (.iconst 0, 1) := by decide +kernel
theorem dX10_typeOf_1 : decode cX10_typeOf 1 = .ok (.istore_n 2, 1) := by decide +kernel
theorem dX10_typeOf_2 : decode cX10_typeOf 2 = .ok (.iload_n 2, 1) := by decide +kernel
theorem dX10_typeOf_3 : decode cX10_typeOf 3 = .ok (.aload_n 0, 1) := by decide +kernel
theorem dX10_typeOf_4 : decode cX10_typeOf 4 = .ok (.getfield 15, 3) := by decide +kernel
theorem dX10_typeOf_7 : decode cX10_typeOf 7 = .ok (.iconst 0, 1) := by decide +kernel
theorem dX10_typeOf_8 : decode cX10_typeOf 8 = .ok (.iaload, 1) := by decide +kernel
theorem dX10_typeOf_9 : decode cX10_typeOf 9 = .ok (.if_icmp .ge 21, 3) := by decide +kernel
theorem dX10_typeOf_12 : decode cX10_typeOf 12 = .ok (.aload_n 0, 1) := by decide +kernel
theorem dX10_typeOf_13 : decode cX10_typeOf 13 = .ok (.getfield 34, 3) := by decide +kernel
theorem dX10_typeOf_16 : decode cX10_typeOf 16 = .ok (.iload_n 2, 1) := by decide +kernel
theorem dX10_typeOf_17 : decode cX10_typeOf 17 = .ok (.aload_n 0, 1) := by decide +kernel
theorem dX10_typeOf_18 : decode cX10_typeOf 18 = .ok (.iload_n 1, 1) := by decide +kernel
theorem dX10_typeOf_19 : decode cX10_typeOf 19 = .ok (.iload_n 2, 1) := by decide +kernel
theorem dX10_typeOf_20 : decode cX10_typeOf 20 = .ok (.invokevirtual 95, 3) := by decide +kernel
theorem dX10_typeOf_23 : decode cX10_typeOf 23 = .ok (.iastore, 1) := by decide +kernel
theorem dX10_typeOf_24 : decode cX10_typeOf 24 = .ok (.iinc 2 1, 3) := by decide +kernel
theorem dX10_typeOf_27 : decode cX10_typeOf 27 = .ok (.goto (-25), 3) := by decide +kernel
theorem dX10_typeOf_30 : decode cX10_typeOf 30 = .ok (.aload_n 0, 1) := by decide +kernel
theorem dX10_typeOf_31 : decode cX10_typeOf 31 = .ok (.invokevirtual 147, 3) := by decide +kernel
theorem dX10_typeOf_34 : decode cX10_typeOf 34 = .ok (.ireturn, 1) := by decide +kernel
theorem dX10_of_0 : decode cX10_of 0 = .ok (.aload_n 0, 1) := by decide +kernel
theorem dX10_of_1 : decode cX10_of 1 = .ok (.iload_n 1, 1) := by decide +kernel
theorem dX10_of_2 : decode cX10_of 2 = .ok (.invokevirtual 150, 3) := by decide +kernel
theorem dX10_of_5 : decode cX10_of 5 = .ok (.ifCond .eq 15, 3) := by decide +kernel
theorem dX10_of_8 : decode cX10_of 8 = .ok (.iload_n 2, 1) := by decide +kernel
theorem dX10_of_9 : decode cX10_of 9 = .ok (.i2l, 1) := by decide +kernel
theorem dX10_of_10 : decode cX10_of 10 = .ok (.lconst 0, 1) := by decide +kernel
theorem dX10_of_11 : decode cX10_of 11 = .ok (.ldc2_w 81, 3) := by decide +kernel
theorem dX10_of_14 : decode cX10_of 14 = .ok (.invokestatic 85, 3) := by decide +kernel
theorem dX10_of_17 : decode cX10_of 17 = .ok (.ifCond .ne 5, 3) := by decide +kernel
theorem dX10_of_20 : decode cX10_of 20 = .ok (.iconst (-1), 1) := by decide +kernel
theorem dX10_of_21 : decode cX10_of 21 = .ok (.ireturn, 1) := by decide +kernel
theorem dX10_of_22 : decode cX10_of 22 = .ok (.iload_n 2, 1) := by decide +kernel
theorem dX10_of_23 : decode cX10_of 23 = .ok (.iconst 2, 1) := by decide +kernel
theorem dX10_of_24 : decode cX10_of 24 = .ok (.if_icmp .ge 25, 3) := by decide +kernel
theorem dX10_of_27 : decode cX10_of 27 = .ok (.iload_n 2, 1) := by decide +kernel
theorem dX10_of_28 : decode cX10_of 28 = .ok (.ifCond .ne 11, 3) := by decide +kernel
theorem dX10_of_31 : decode cX10_of 31 = .ok (.aload_n 0, 1) := by decide +kernel
theorem dX10_of_32 : decode cX10_of 32 = .ok (.iload_n 1, 1) := by decide +kernel
theorem dX10_of_33 : decode cX10_of 33 = .ok (.invokevirtual 153, 3) := by decide +kernel
theorem dX10_of_36 : decode cX10_of 36 = .ok (.goto 12, 3) := by decide +kernel
theorem dX10_of_39 : decode cX10_of 39 = .ok (.aload_n 0, 1) := by decide +kernel
theorem dX10_of_40 : decode cX10_of 40 = .ok (.getfield 15, 3) := by decide +kernel
theorem dX10_of_43 : decode cX10_of 43 = .ok (.bipush 33, 2) := by decide +kernel
theorem dX10_of_45 : decode cX10_of 45 = .ok (.iload_n 1, 1) := by decide +kernel
theorem dX10_of_46 : decode cX10_of 46 = .ok (.iadd, 1) := by decide +kernel
theorem dX10_of_47 : decode cX10_of 47 = .ok (.iaload, 1) := by decide +kernel
theorem dX10_of_48 : decode cX10_of 48 = .ok (.ireturn, 1) := by decide +kernel
theorem dX10_of_49 : decode cX10_of 49 = .ok (.iconst 0, 1) := by decide +kernel
theorem dX10_of_50 : decode cX10_of 50 = .ok (.istore_n 3, 1) := by decide +kernel
theorem dX10_of_51 : decode cX10_of 51 = .ok (.iload_n 3, 1) := by decide +kernel
theorem dX10_of_52 : decode cX10_of 52 = .ok (.aload_n 0, 1) := by decide +kernel
theorem dX10_of_53 : decode cX10_of 53 = .ok (.getfield 15, 3) := by decide +kernel
theorem dX10_of_56 : decode cX10_of 56 = .ok (.iconst 0, 1) := by decide +kernel
theorem dX10_of_57 : decode cX10_of 57 = .ok (.iaload, 1) := by decide +kernel
theorem dX10_of_58 : decode cX10_of 58 = .ok (.if_icmp .ge 29, 3) := by decide +kernel
theorem dX10_of_61 : decode cX10_of 61 = .ok (.aload_n 0, 1) := by decide +kernel
theorem dX10_of_62 : decode cX10_of 62 = .ok (.getfield 34, 3) := by decide +kernel
theorem dX10_of_65 : decode cX10_of 65 = .ok (.iload_n 3, 1) := by decide +kernel
theorem dX10_of_66 : decode cX10_of 66 = .ok (.aload_n 0, 1) := by decide +kernel
theorem dX10_of_67 : decode cX10_of 67 = .ok (.getfield 15, 3) := by decide +kernel
theorem dX10_of_70 : decode cX10_of 70 = .ok (.bipush 9, 2) := by decide +kernel
theorem dX10_of_72 : decode cX10_of 72 = .ok (.bipush 6, 2) := by decide +kernel
theorem dX10_of_74 : decode cX10_of 74 = .ok (.iload_n 1, 1) := by decide +kernel
theorem dX10_of_75 : decode cX10_of 75 = .ok (.imul, 1) := by decide +kernel
theorem dX10_of_76 : decode cX10_of 76 = .ok (.iadd, 1) := by decide +kernel
theorem dX10_of_77 : decode cX10_of 77 = .ok (.iload_n 3, 1) := by decide +kernel
theorem dX10_of_78 : decode cX10_of 78 = .ok (.iadd, 1) := by decide +kernel
theorem dX10_of_79 : decode cX10_of 79 = .ok (.iaload, 1) := by decide +kernel
theorem dX10_of_80 : decode cX10_of 80 = .ok (.iastore, 1) := by decide +kernel
theorem dX10_of_81 : decode cX10_of 81 = .ok (.iinc 3 1, 3) := by decide +kernel
theorem dX10_of_84 : decode cX10_of 84 = .ok (.goto (-33), 3) := by decide +kernel
theorem dX10_of_87 : decode cX10_of 87 = .ok (.aload_n 0, 1) := by decide +kernel
theorem dX10_of_88 : decode cX10_of 88 = .ok (.invokevirtual 147, 3) := by decide +kernel
theorem dX10_of_91 : decode cX10_of 91 = .ok (.ireturn, 1) := by decide +kernel
theorem dX10_lay_0 : decode cX10_lay 0 = .ok (.iload_n 1, 1) := by decide +kernel
theorem dX10_lay_1 : decode cX10_lay 1 = .ok (.i2l, 1) := by decide +kernel
theorem dX10_lay_2 : decode cX10_lay 2 = .ok (.lconst 0, 1) := by decide +kernel
theorem dX10_lay_3 : decode cX10_lay 3 = .ok (.ldc2_w 81, 3) := by decide +kernel
theorem dX10_lay_6 : decode cX10_lay 6 = .ok (.invokestatic 85, 3) := by decide +kernel
theorem dX10_lay_9 : decode cX10_lay 9 = .ok (.ifCond .eq 16, 3) := by decide +kernel
theorem dX10_lay_12 : decode cX10_lay 12 = .ok (.iload_n 3, 1) := by decide +kernel
theorem dX10_lay_13 : decode cX10_lay 13 = .ok (.iconst (-1), 1) := by decide +kernel
theorem dX10_lay_14 : decode cX10_lay 14 = .ok (.if_icmp .eq 13, 3) := by decide +kernel
theorem dX10_lay_17 : decode cX10_lay 17 = .ok (.aload_n 0, 1) := by decide +kernel
theorem dX10_lay_18 : decode cX10_lay 18 = .ok (.iload_n 3, 1) := by decide +kernel
theorem dX10_lay_19 : decode cX10_lay 19 = .ok (.invokevirtual 150, 3) := by decide +kernel
theorem dX10_lay_22 : decode cX10_lay 22 = .ok (.ifCond .ne 5, 3) := by decide +kernel
theorem dX10_lay_25 : decode cX10_lay 25 = .ok (.iconst (-1), 1) := by decide +kernel
theorem dX10_lay_26 : decode cX10_lay 26 = .ok (.ireturn, 1) := by decide +kernel
theorem dX10_lay_27 : decode cX10_lay 27 = .ok (.iload_n 2, 1) := by decide +kernel
theorem dX10_lay_28 : decode cX10_lay 28 = .ok (.i2l, 1) := by decide +kernel
theorem dX10_lay_29 : decode cX10_lay 29 = .ok (.lconst 0, 1) := by decide +kernel
theorem dX10_lay_30 : decode cX10_lay 30 = .ok (.ldc2_w 81, 3) := by decide +kernel
theorem dX10_lay_33 : decode cX10_lay 33 = .ok (.invokestatic 85, 3) := by decide +kernel
theorem dX10_lay_36 : decode cX10_lay 36 = .ok (.ifCond .ne 6, 3) := by decide +kernel
theorem dX10_lay_39 : decode cX10_lay 39 = .ok (.bipush (-13), 2) := by decide +kernel
theorem dX10_lay_41 : decode cX10_lay 41 = .ok (.ireturn, 1) := by decide +kernel
theorem dX10_lay_42 : decode cX10_lay 42 = .ok (.iload_n 3, 1) := by decide +kernel
theorem dX10_lay_43 : decode cX10_lay 43 = .ok (.iconst (-1), 1) := by decide +kernel
theorem dX10_lay_44 : decode cX10_lay 44 = .ok (.if_icmp .eq 25, 3) := by decide +kernel
theorem dX10_lay_47 : decode cX10_lay 47 = .ok (.iload_n 1, 1) := by decide +kernel
theorem dX10_lay_48 : decode cX10_lay 48 = .ok (.ifCond .le 21, 3) := by decide +kernel
theorem dX10_lay_51 : decode cX10_lay 51 = .ok (.aload_n 0, 1) := by decide +kernel
theorem dX10_lay_52 : decode cX10_lay 52 = .ok (.getfield 15, 3) := by decide +kernel
theorem dX10_lay_55 : decode cX10_lay 55 = .ok (.bipush 33, 2) := by decide +kernel
theorem dX10_lay_57 : decode cX10_lay 57 = .ok (.iload_n 3, 1) := by decide +kernel
theorem dX10_lay_58 : decode cX10_lay 58 = .ok (.iadd, 1) := by decide +kernel
theorem dX10_lay_59 : decode cX10_lay 59 = .ok (.iaload, 1) := by decide +kernel
theorem dX10_lay_60 : decode cX10_lay 60 = .ok (.iload_n 1, 1) := by decide +kernel
theorem dX10_lay_61 : decode cX10_lay 61 = .ok (.iconst 1, 1) := by decide +kernel
theorem dX10_lay_62 : decode cX10_lay 62 = .ok (.isub, 1) := by decide +kernel
theorem dX10_lay_63 : decode cX10_lay 63 = .ok (.if_icmp .eq 6, 3) := by decide +kernel
theorem dX10_lay_66 : decode cX10_lay 66 = .ok (.bipush (-12), 2) := by decide +kernel
theorem dX10_lay_68 : decode cX10_lay 68 = .ok (.ireturn, 1) := by decide +kernel
theorem dX10_lay_69 : decode cX10_lay 69 = .ok (.aload_n 0, 1) := by decide +kernel
theorem dX10_lay_70 : decode cX10_lay 70 = .ok (.getfield 15, 3) := by decide +kernel
theorem dX10_lay_73 : decode cX10_lay 73 = .ok (.bipush 37, 2) := by decide +kernel
theorem dX10_lay_75 : decode cX10_lay 75 = .ok (.iconst 3, 1) := by decide +kernel
theorem dX10_lay_76 : decode cX10_lay 76 = .ok (.iload_n 1, 1) := by decide +kernel
theorem dX10_lay_77 : decode cX10_lay 77 = .ok (.imul, 1) := by decide +kernel
theorem dX10_lay_78 : decode cX10_lay 78 = .ok (.iadd, 1) := by decide +kernel
theorem dX10_lay_79 : decode cX10_lay 79 = .ok (.iload_n 2, 1) := by decide +kernel
theorem dX10_lay_80 : decode cX10_lay 80 = .ok (.iadd, 1) := by decide +kernel
theorem dX10_lay_81 : decode cX10_lay 81 = .ok (.iaload, 1) := by decide +kernel
theorem dX10_lay_82 : decode cX10_lay 82 = .ok (.istore 4, 2) := by decide +kernel
theorem dX10_lay_84 : decode cX10_lay 84 = .ok (.aload_n 0, 1) := by decide +kernel
theorem dX10_lay_85 : decode cX10_lay 85 = .ok (.getfield 15, 3) := by decide +kernel
theorem dX10_lay_88 : decode cX10_lay 88 = .ok (.bipush 37, 2) := by decide +kernel
theorem dX10_lay_90 : decode cX10_lay 90 = .ok (.iconst 3, 1) := by decide +kernel
theorem dX10_lay_91 : decode cX10_lay 91 = .ok (.iload_n 1, 1) := by decide +kernel
theorem dX10_lay_92 : decode cX10_lay 92 = .ok (.imul, 1) := by decide +kernel
theorem dX10_lay_93 : decode cX10_lay 93 = .ok (.iadd, 1) := by decide +kernel
theorem dX10_lay_94 : decode cX10_lay 94 = .ok (.iload_n 2, 1) := by decide +kernel
theorem dX10_lay_95 : decode cX10_lay 95 = .ok (.iadd, 1) := by decide +kernel
theorem dX10_lay_96 : decode cX10_lay 96 = .ok (.iload_n 3, 1) := by decide +kernel
theorem dX10_lay_97 : decode cX10_lay 97 = .ok (.iconst (-1), 1) := by decide +kernel
theorem dX10_lay_98 : decode cX10_lay 98 = .ok (.if_icmp .ne 8, 3) := by decide +kernel
theorem dX10_lay_101 : decode cX10_lay 101 = .ok (.bipush (-5), 2) := by decide +kernel
theorem dX10_lay_103 : decode cX10_lay 103 = .ok (.goto 4, 3) := by decide +kernel
theorem dX10_lay_106 : decode cX10_lay 106 = .ok (.iload_n 3, 1) := by decide +kernel
theorem dX10_lay_107 : decode cX10_lay 107 = .ok (.iastore, 1) := by decide +kernel
theorem dX10_lay_108 : decode cX10_lay 108 = .ok (.iload 4, 2) := by decide +kernel
theorem dX10_lay_110 : decode cX10_lay 110 = .ok (.ireturn, 1) := by decide +kernel
theorem dX10_product_0 : decode cX10_product 0 = .ok (.aload_n 0, 1) := by decide +kernel
theorem dX10_product_1 : decode cX10_product 1 = .ok (.iconst 0, 1) := by decide +kernel
theorem dX10_product_2 : decode cX10_product 2 = .ok (.putfield 107, 3) := by decide +kernel
theorem dX10_product_5 : decode cX10_product 5 = .ok (.iconst 0, 1) := by decide +kernel
theorem dX10_product_6 : decode cX10_product 6 = .ok (.istore_n 3, 1) := by decide +kernel
theorem dX10_product_7 : decode cX10_product 7 = .ok (.iload_n 3, 1) := by decide +kernel
theorem dX10_product_8 : decode cX10_product 8 = .ok (.bipush 6, 2) := by decide +kernel
theorem dX10_product_10 : decode cX10_product 10 = .ok (.if_icmp .ge 16, 3) := by decide +kernel
theorem dX10_product_13 : decode cX10_product 13 = .ok (.aload_n 0, 1) := by decide +kernel
theorem dX10_product_14 : decode cX10_product 14 = .ok (.getfield 22, 3) := by decide +kernel
theorem dX10_product_17 : decode cX10_product 17 = .ok (.iload_n 3, 1) := by decide +kernel
theorem dX10_product_18 : decode cX10_product 18 = .ok (.iload_n 3, 1) := by decide +kernel
theorem dX10_product_19 : decode cX10_product 19 = .ok (.iastore, 1) := by decide +kernel
theorem dX10_product_20 : decode cX10_product 20 = .ok (.iinc 3 1, 3) := by decide +kernel
theorem dX10_product_23 : decode cX10_product 23 = .ok (.goto (-16), 3) := by decide +kernel
theorem dX10_product_26 : decode cX10_product 26 = .ok (.aload_n 0, 1) := by decide +kernel
theorem dX10_product_27 : decode cX10_product 27 = .ok (.getfield 25, 3) := by decide +kernel
theorem dX10_product_30 : decode cX10_product 30 = .ok (.iconst 0, 1) := by decide +kernel
theorem dX10_product_31 : decode cX10_product 31 = .ok (.iconst 0, 1) := by decide +kernel
theorem dX10_product_32 : decode cX10_product 32 = .ok (.iastore, 1) := by decide +kernel
theorem dX10_product_33 : decode cX10_product 33 = .ok (.iconst 0, 1) := by decide +kernel
theorem dX10_product_34 : decode cX10_product 34 = .ok (.istore_n 3, 1) := by decide +kernel
theorem dX10_product_35 : decode cX10_product 35 = .ok (.iload_n 3, 1) := by decide +kernel
theorem dX10_product_36 : decode cX10_product 36 = .ok (.iconst 3, 1) := by decide +kernel
theorem dX10_product_37 : decode cX10_product 37 = .ok (.if_icmp .ge 92, 3) := by decide +kernel
theorem dX10_product_40 : decode cX10_product 40 = .ok (.aload_n 0, 1) := by decide +kernel
theorem dX10_product_41 : decode cX10_product 41 = .ok (.getfield 15, 3) := by decide +kernel
theorem dX10_product_44 : decode cX10_product 44 = .ok (.bipush 37, 2) := by decide +kernel
theorem dX10_product_46 : decode cX10_product 46 = .ok (.iconst 3, 1) := by decide +kernel
theorem dX10_product_47 : decode cX10_product 47 = .ok (.iload_n 1, 1) := by decide +kernel
theorem dX10_product_48 : decode cX10_product 48 = .ok (.imul, 1) := by decide +kernel
theorem dX10_product_49 : decode cX10_product 49 = .ok (.iadd, 1) := by decide +kernel
theorem dX10_product_50 : decode cX10_product 50 = .ok (.iload_n 3, 1) := by decide +kernel
theorem dX10_product_51 : decode cX10_product 51 = .ok (.iadd, 1) := by decide +kernel
theorem dX10_product_52 : decode cX10_product 52 = .ok (.iaload, 1) := by decide +kernel
theorem dX10_product_53 : decode cX10_product 53 = .ok (.istore 4, 2) := by decide +kernel
theorem dX10_product_55 : decode cX10_product 55 = .ok (.iload 4, 2) := by decide +kernel
theorem dX10_product_57 : decode cX10_product 57 = .ok (.bipush (-5), 2) := by decide +kernel
theorem dX10_product_59 : decode cX10_product 59 = .ok (.if_icmp .ne 6, 3) := by decide +kernel
theorem dX10_product_62 : decode cX10_product 62 = .ok (.goto 61, 3) := by decide +kernel
theorem dX10_product_65 : decode cX10_product 65 = .ok (.aload_n 0, 1) := by decide +kernel
theorem dX10_product_66 : decode cX10_product 66 = .ok (.iconst 1, 1) := by decide +kernel
theorem dX10_product_67 : decode cX10_product 67 = .ok (.putfield 107, 3) := by decide +kernel
theorem dX10_product_70 : decode cX10_product 70 = .ok (.aload_n 0, 1) := by decide +kernel
theorem dX10_product_71 : decode cX10_product 71 = .ok (.iconst 0, 1) := by decide +kernel
theorem dX10_product_72 : decode cX10_product 72 = .ok (.iload 4, 2) := by decide +kernel
theorem dX10_product_74 : decode cX10_product 74 = .ok (.invokevirtual 113, 3) := by decide +kernel
theorem dX10_product_77 : decode cX10_product 77 = .ok (.iconst 0, 1) := by decide +kernel
theorem dX10_product_78 : decode cX10_product 78 = .ok (.istore 5, 2) := by decide +kernel
theorem dX10_product_80 : decode cX10_product 80 = .ok (.iload 5, 2) := by decide +kernel
theorem dX10_product_82 : decode cX10_product 82 = .ok (.aload_n 0, 1) := by decide +kernel
theorem dX10_product_83 : decode cX10_product 83 = .ok (.getfield 15, 3) := by decide +kernel
theorem dX10_product_86 : decode cX10_product 86 = .ok (.iconst 0, 1) := by decide +kernel
theorem dX10_product_87 : decode cX10_product 87 = .ok (.iaload, 1) := by decide +kernel
theorem dX10_product_88 : decode cX10_product 88 = .ok (.if_icmp .ge 23, 3) := by decide +kernel
theorem dX10_product_91 : decode cX10_product 91 = .ok (.aload_n 0, 1) := by decide +kernel
theorem dX10_product_92 : decode cX10_product 92 = .ok (.getfield 22, 3) := by decide +kernel
theorem dX10_product_95 : decode cX10_product 95 = .ok (.iload 5, 2) := by decide +kernel
theorem dX10_product_97 : decode cX10_product 97 = .ok (.aload_n 0, 1) := by decide +kernel
theorem dX10_product_98 : decode cX10_product 98 = .ok (.iconst 1, 1) := by decide +kernel
theorem dX10_product_99 : decode cX10_product 99 = .ok (.iload 5, 2) := by decide +kernel
theorem dX10_product_101 : decode cX10_product 101 = .ok (.invokevirtual 95, 3) := by decide +kernel
theorem dX10_product_104 : decode cX10_product 104 = .ok (.iastore, 1) := by decide +kernel
theorem dX10_product_105 : decode cX10_product 105 = .ok (.iinc 5 1, 3) := by decide +kernel
theorem dX10_product_108 : decode cX10_product 108 = .ok (.goto (-28), 3) := by decide +kernel
theorem dX10_product_111 : decode cX10_product 111 = .ok (.aload_n 0, 1) := by decide +kernel
theorem dX10_product_112 : decode cX10_product 112 = .ok (.getfield 25, 3) := by decide +kernel
theorem dX10_product_115 : decode cX10_product 115 = .ok (.iconst 0, 1) := by decide +kernel
theorem dX10_product_116 : decode cX10_product 116 = .ok (.aload_n 0, 1) := by decide +kernel
theorem dX10_product_117 : decode cX10_product 117 = .ok (.getfield 25, 3) := by decide +kernel
theorem dX10_product_120 : decode cX10_product 120 = .ok (.iconst 1, 1) := by decide +kernel
theorem dX10_product_121 : decode cX10_product 121 = .ok (.iaload, 1) := by decide +kernel
theorem dX10_product_122 : decode cX10_product 122 = .ok (.iastore, 1) := by decide +kernel
theorem dX10_product_123 : decode cX10_product 123 = .ok (.iinc 3 1, 3) := by decide +kernel
theorem dX10_product_126 : decode cX10_product 126 = .ok (.goto (-91), 3) := by decide +kernel
theorem dX10_product_129 : decode cX10_product 129 = .ok (.iload_n 2, 1) := by decide +kernel
theorem dX10_product_130 : decode cX10_product 130 = .ok (.ifCond .ne 11, 3) := by decide +kernel
theorem dX10_product_133 : decode cX10_product 133 = .ok (.aload_n 0, 1) := by decide +kernel
theorem dX10_product_134 : decode cX10_product 134 = .ok (.iconst 0, 1) := by decide +kernel
theorem dX10_product_135 : decode cX10_product 135 = .ok (.invokevirtual 99, 3) := by decide +kernel
theorem dX10_product_138 : decode cX10_product 138 = .ok (.goto 9, 3) := by decide +kernel
theorem dX10_product_141 : decode cX10_product 141 = .ok (.aload_n 0, 1) := by decide +kernel
theorem dX10_product_142 : decode cX10_product 142 = .ok (.getfield 25, 3) := by decide +kernel
theorem dX10_product_145 : decode cX10_product 145 = .ok (.iconst 0, 1) := by decide +kernel
theorem dX10_product_146 : decode cX10_product 146 = .ok (.iaload, 1) := by decide +kernel
theorem dX10_product_147 : decode cX10_product 147 = .ok (.ireturn, 1) := by decide +kernel
theorem dX10_rack_0 : decode cX10_rack 0 = .ok (.iload_n 1, 1) := by decide +kernel
theorem dX10_rack_1 : decode cX10_rack 1 = .ok (.i2l, 1) := by decide +kernel
theorem dX10_rack_2 : decode cX10_rack 2 = .ok (.lconst 0, 1) := by decide +kernel
theorem dX10_rack_3 : decode cX10_rack 3 = .ok (.ldc2_w 81, 3) := by decide +kernel
theorem dX10_rack_6 : decode cX10_rack 6 = .ok (.invokestatic 85, 3) := by decide +kernel
theorem dX10_rack_9 : decode cX10_rack 9 = .ok (.ifCond .ne 5, 3) := by decide +kernel
theorem dX10_rack_12 : decode cX10_rack 12 = .ok (.iconst (-1), 1) := by decide +kernel
theorem dX10_rack_13 : decode cX10_rack 13 = .ok (.ireturn, 1) := by decide +kernel
theorem dX10_rack_14 : decode cX10_rack 14 = .ok (.iload_n 2, 1) := by decide +kernel
theorem dX10_rack_15 : decode cX10_rack 15 = .ok (.i2l, 1) := by decide +kernel
theorem dX10_rack_16 : decode cX10_rack 16 = .ok (.ldc2_w 156, 3) := by decide +kernel
theorem dX10_rack_19 : decode cX10_rack 19 = .ok (.ldc2_w 158, 3) := by decide +kernel
theorem dX10_rack_22 : decode cX10_rack 22 = .ok (.invokestatic 85, 3) := by decide +kernel
theorem dX10_rack_25 : decode cX10_rack 25 = .ok (.ifCond .eq 20, 3) := by decide +kernel
theorem dX10_rack_28 : decode cX10_rack 28 = .ok (.aload_n 0, 1) := by decide +kernel
theorem dX10_rack_29 : decode cX10_rack 29 = .ok (.getfield 15, 3) := by decide +kernel
theorem dX10_rack_32 : decode cX10_rack 32 = .ok (.bipush 37, 2) := by decide +kernel
theorem dX10_rack_34 : decode cX10_rack 34 = .ok (.iconst 3, 1) := by decide +kernel
theorem dX10_rack_35 : decode cX10_rack 35 = .ok (.iload_n 1, 1) := by decide +kernel
theorem dX10_rack_36 : decode cX10_rack 36 = .ok (.imul, 1) := by decide +kernel
theorem dX10_rack_37 : decode cX10_rack 37 = .ok (.iadd, 1) := by decide +kernel
theorem dX10_rack_38 : decode cX10_rack 38 = .ok (.iload_n 2, 1) := by decide +kernel
theorem dX10_rack_39 : decode cX10_rack 39 = .ok (.iadd, 1) := by decide +kernel
theorem dX10_rack_40 : decode cX10_rack 40 = .ok (.bipush 10, 2) := by decide +kernel
theorem dX10_rack_42 : decode cX10_rack 42 = .ok (.isub, 1) := by decide +kernel
theorem dX10_rack_43 : decode cX10_rack 43 = .ok (.iaload, 1) := by decide +kernel
theorem dX10_rack_44 : decode cX10_rack 44 = .ok (.ireturn, 1) := by decide +kernel
theorem dX10_rack_45 : decode cX10_rack 45 = .ok (.iload_n 2, 1) := by decide +kernel
theorem dX10_rack_46 : decode cX10_rack 46 = .ok (.i2l, 1) := by decide +kernel
theorem dX10_rack_47 : decode cX10_rack 47 = .ok (.lconst 0, 1) := by decide +kernel
theorem dX10_rack_48 : decode cX10_rack 48 = .ok (.lconst 1, 1) := by decide +kernel
theorem dX10_rack_49 : decode cX10_rack 49 = .ok (.invokestatic 85, 3) := by decide +kernel
theorem dX10_rack_52 : decode cX10_rack 52 = .ok (.ifCond .eq 12, 3) := by decide +kernel
theorem dX10_rack_55 : decode cX10_rack 55 = .ok (.aload_n 0, 1) := by decide +kernel
theorem dX10_rack_56 : decode cX10_rack 56 = .ok (.iload_n 1, 1) := by decide +kernel
theorem dX10_rack_57 : decode cX10_rack 57 = .ok (.iload_n 2, 1) := by decide +kernel
theorem dX10_rack_58 : decode cX10_rack 58 = .ok (.invokevirtual 160, 3) := by decide +kernel
theorem dX10_rack_61 : decode cX10_rack 61 = .ok (.goto 4, 3) := by decide +kernel
theorem dX10_rack_64 : decode cX10_rack 64 = .ok (.iconst (-1), 1) := by decide +kernel
theorem dX10_rack_65 : decode cX10_rack 65 = .ok (.ireturn, 1) := by decide +kernel
theorem dX10_move_0 : decode cX10_move 0 = .ok (.aload_n 0, 1) := by decide +kernel
theorem dX10_move_1 : decode cX10_move 1 = .ok (.invokevirtual 163, 3) := by decide +kernel
theorem dX10_move_4 : decode cX10_move 4 = .ok (.iload_n 1, 1) := by decide +kernel
theorem dX10_move_5 : decode cX10_move 5 = .ok (.i2l, 1) := by decide +kernel
theorem dX10_move_6 : decode cX10_move 6 = .ok (.lconst 0, 1) := by decide +kernel
theorem dX10_move_7 : decode cX10_move 7 = .ok (.aload_n 0, 1) := by decide +kernel
theorem dX10_move_8 : decode cX10_move 8 = .ok (.getfield 107, 3) := by decide +kernel
theorem dX10_move_11 : decode cX10_move 11 = .ok (.iconst 1, 1) := by decide +kernel
theorem dX10_move_12 : decode cX10_move 12 = .ok (.isub, 1) := by decide +kernel
theorem dX10_move_13 : decode cX10_move 13 = .ok (.i2l, 1) := by decide +kernel
theorem dX10_move_14 : decode cX10_move 14 = .ok (.invokestatic 85, 3) := by decide +kernel
theorem dX10_move_17 : decode cX10_move 17 = .ok (.ifCond .ne 5, 3) := by decide +kernel
theorem dX10_move_20 : decode cX10_move 20 = .ok (.iconst (-1), 1) := by decide +kernel
theorem dX10_move_21 : decode cX10_move 21 = .ok (.ireturn, 1) := by decide +kernel
theorem dX10_move_22 : decode cX10_move 22 = .ok (.iload_n 2, 1) := by decide +kernel
theorem dX10_move_23 : decode cX10_move 23 = .ok (.ifCond .ne 11, 3) := by decide +kernel
theorem dX10_move_26 : decode cX10_move 26 = .ok (.aload_n 0, 1) := by decide +kernel
theorem dX10_move_27 : decode cX10_move 27 = .ok (.iload_n 1, 1) := by decide +kernel
theorem dX10_move_28 : decode cX10_move 28 = .ok (.invokevirtual 99, 3) := by decide +kernel
theorem dX10_move_31 : decode cX10_move 31 = .ok (.goto 31, 3) := by decide +kernel
theorem dX10_move_34 : decode cX10_move 34 = .ok (.iload_n 2, 1) := by decide +kernel
theorem dX10_move_35 : decode cX10_move 35 = .ok (.iconst 1, 1) := by decide +kernel
theorem dX10_move_36 : decode cX10_move 36 = .ok (.if_icmp .ne 12, 3) := by decide +kernel
theorem dX10_move_39 : decode cX10_move 39 = .ok (.aload_n 0, 1) := by decide +kernel
theorem dX10_move_40 : decode cX10_move 40 = .ok (.getfield 25, 3) := by decide +kernel
theorem dX10_move_43 : decode cX10_move 43 = .ok (.iload_n 1, 1) := by decide +kernel
theorem dX10_move_44 : decode cX10_move 44 = .ok (.iaload, 1) := by decide +kernel
theorem dX10_move_45 : decode cX10_move 45 = .ok (.goto 17, 3) := by decide +kernel
theorem dX10_move_48 : decode cX10_move 48 = .ok (.iload_n 2, 1) := by decide +kernel
theorem dX10_move_49 : decode cX10_move 49 = .ok (.iconst 2, 1) := by decide +kernel
theorem dX10_move_50 : decode cX10_move 50 = .ok (.if_icmp .ne 11, 3) := by decide +kernel
theorem dX10_move_53 : decode cX10_move 53 = .ok (.aload_n 0, 1) := by decide +kernel
theorem dX10_move_54 : decode cX10_move 54 = .ok (.iload_n 1, 1) := by decide +kernel
theorem dX10_move_55 : decode cX10_move 55 = .ok (.invokevirtual 165, 3) := by decide +kernel
theorem dX10_move_58 : decode cX10_move 58 = .ok (.goto 4, 3) := by decide +kernel
theorem dX10_move_61 : decode cX10_move 61 = .ok (.iconst (-1), 1) := by decide +kernel
theorem dX10_move_62 : decode cX10_move 62 = .ok (.ireturn, 1) := by decide +kernel
theorem dX10_paintings_0 : decode cX10_paintings 0 = .ok (.iconst 1, 1) := by decide +kernel
theorem dX10_paintings_1 : decode cX10_paintings 1 = .ok (.istore_n 1, 1) := by decide +kernel
theorem dX10_paintings_2 : decode cX10_paintings 2 = .ok (.iconst 0, 1) := by decide +kernel
theorem dX10_paintings_3 : decode cX10_paintings 3 = .ok (.istore_n 2, 1) := by decide +kernel
theorem dX10_paintings_4 : decode cX10_paintings 4 = .ok (.iload_n 2, 1) := by decide +kernel
theorem dX10_paintings_5 : decode cX10_paintings 5 = .ok (.aload_n 0, 1) := by decide +kernel
theorem dX10_paintings_6 : decode cX10_paintings 6 = .ok (.getfield 15, 3) := by decide +kernel
theorem dX10_paintings_9 : decode cX10_paintings 9 = .ok (.iconst 0, 1) := by decide +kernel
theorem dX10_paintings_10 : decode cX10_paintings 10 = .ok (.iaload, 1) := by decide +kernel
theorem dX10_paintings_11 : decode cX10_paintings 11 = .ok (.if_icmp .ge 18, 3) := by decide +kernel
theorem dX10_paintings_14 : decode cX10_paintings 14 = .ok (.iload_n 1, 1) := by decide +kernel
theorem dX10_paintings_15 : decode cX10_paintings 15 = .ok (.aload_n 0, 1) := by decide +kernel
theorem dX10_paintings_16 : decode cX10_paintings 16 = .ok (.getfield 15, 3) := by decide +kernel
theorem dX10_paintings_19 : decode cX10_paintings 19 = .ok (.iconst 1, 1) := by decide +kernel
theorem dX10_paintings_20 : decode cX10_paintings 20 = .ok (.iaload, 1) := by decide +kernel
theorem dX10_paintings_21 : decode cX10_paintings 21 = .ok (.imul, 1) := by decide +kernel
theorem dX10_paintings_22 : decode cX10_paintings 22 = .ok (.istore_n 1, 1) := by decide +kernel
theorem dX10_paintings_23 : decode cX10_paintings 23 = .ok (.iinc 2 1, 3) := by decide +kernel
theorem dX10_paintings_26 : decode cX10_paintings 26 = .ok (.goto (-22), 3) := by decide +kernel
theorem dX10_paintings_29 : decode cX10_paintings 29 = .ok (.iload_n 1, 1) := by decide +kernel
theorem dX10_paintings_30 : decode cX10_paintings 30 = .ok (.ireturn, 1) := by decide +kernel
theorem dX10_indexOf_0 : decode cX10_indexOf 0 = .ok (.iload_n 1, 1) := by decide +kernel
theorem dX10_indexOf_1 : decode cX10_indexOf 1 = .ok (.istore_n 2, 1) := by decide +kernel
theorem dX10_indexOf_2 : decode cX10_indexOf 2 = .ok (.iconst 0, 1) := by decide +kernel
theorem dX10_indexOf_3 : decode cX10_indexOf 3 = .ok (.istore_n 3, 1) := by decide +kernel
theorem dX10_indexOf_4 : decode cX10_indexOf 4 = .ok (.iconst 1, 1) := by decide +kernel
theorem dX10_indexOf_5 : decode cX10_indexOf 5 = .ok (.istore 4, 2) := by decide +kernel
theorem dX10_indexOf_7 : decode cX10_indexOf 7 = .ok (.iconst 0, 1) := by decide +kernel
theorem dX10_indexOf_8 : decode cX10_indexOf 8 = .ok (.istore 5, 2) := by decide +kernel
theorem dX10_indexOf_10 : decode cX10_indexOf 10 = .ok (.iload 5, 2) := by decide +kernel
theorem dX10_indexOf_12 : decode cX10_indexOf 12 = .ok (.aload_n 0, 1) := by decide +kernel
theorem dX10_indexOf_13 : decode cX10_indexOf 13 = .ok (.getfield 15, 3) := by decide +kernel
theorem dX10_indexOf_16 : decode cX10_indexOf 16 = .ok (.iconst 0, 1) := by decide +kernel
theorem dX10_indexOf_17 : decode cX10_indexOf 17 = .ok (.iaload, 1) := by decide +kernel
theorem dX10_indexOf_18 : decode cX10_indexOf 18 = .ok (.if_icmp .ge 56, 3) := by decide +kernel
theorem dX10_indexOf_21 : decode cX10_indexOf 21 = .ok (.iload_n 2, 1) := by decide +kernel
theorem dX10_indexOf_22 : decode cX10_indexOf 22 = .ok (.bipush 10, 2) := by decide +kernel
theorem dX10_indexOf_24 : decode cX10_indexOf 24 = .ok (.irem, 1) := by decide +kernel
theorem dX10_indexOf_25 : decode cX10_indexOf 25 = .ok (.istore 6, 2) := by decide +kernel
theorem dX10_indexOf_27 : decode cX10_indexOf 27 = .ok (.iload_n 2, 1) := by decide +kernel
theorem dX10_indexOf_28 : decode cX10_indexOf 28 = .ok (.ifCond .lt 14, 3) := by decide +kernel
theorem dX10_indexOf_31 : decode cX10_indexOf 31 = .ok (.iload 6, 2) := by decide +kernel
theorem dX10_indexOf_33 : decode cX10_indexOf 33 = .ok (.aload_n 0, 1) := by decide +kernel
theorem dX10_indexOf_34 : decode cX10_indexOf 34 = .ok (.getfield 15, 3) := by decide +kernel
theorem dX10_indexOf_37 : decode cX10_indexOf 37 = .ok (.iconst 1, 1) := by decide +kernel
theorem dX10_indexOf_38 : decode cX10_indexOf 38 = .ok (.iaload, 1) := by decide +kernel
theorem dX10_indexOf_39 : decode cX10_indexOf 39 = .ok (.if_icmp .lt 5, 3) := by decide +kernel
theorem dX10_indexOf_42 : decode cX10_indexOf 42 = .ok (.iconst (-1), 1) := by decide +kernel
theorem dX10_indexOf_43 : decode cX10_indexOf 43 = .ok (.ireturn, 1) := by decide +kernel
theorem dX10_indexOf_44 : decode cX10_indexOf 44 = .ok (.iload_n 3, 1) := by decide +kernel
theorem dX10_indexOf_45 : decode cX10_indexOf 45 = .ok (.iload 4, 2) := by decide +kernel
theorem dX10_indexOf_47 : decode cX10_indexOf 47 = .ok (.iload 6, 2) := by decide +kernel
theorem dX10_indexOf_49 : decode cX10_indexOf 49 = .ok (.imul, 1) := by decide +kernel
theorem dX10_indexOf_50 : decode cX10_indexOf 50 = .ok (.iadd, 1) := by decide +kernel
theorem dX10_indexOf_51 : decode cX10_indexOf 51 = .ok (.istore_n 3, 1) := by decide +kernel
theorem dX10_indexOf_52 : decode cX10_indexOf 52 = .ok (.iload 4, 2) := by decide +kernel
theorem dX10_indexOf_54 : decode cX10_indexOf 54 = .ok (.aload_n 0, 1) := by decide +kernel
theorem dX10_indexOf_55 : decode cX10_indexOf 55 = .ok (.getfield 15, 3) := by decide +kernel
theorem dX10_indexOf_58 : decode cX10_indexOf 58 = .ok (.iconst 1, 1) := by decide +kernel
theorem dX10_indexOf_59 : decode cX10_indexOf 59 = .ok (.iaload, 1) := by decide +kernel
theorem dX10_indexOf_60 : decode cX10_indexOf 60 = .ok (.imul, 1) := by decide +kernel
theorem dX10_indexOf_61 : decode cX10_indexOf 61 = .ok (.istore 4, 2) := by decide +kernel
theorem dX10_indexOf_63 : decode cX10_indexOf 63 = .ok (.iload_n 2, 1) := by decide +kernel
theorem dX10_indexOf_64 : decode cX10_indexOf 64 = .ok (.bipush 10, 2) := by decide +kernel
theorem dX10_indexOf_66 : decode cX10_indexOf 66 = .ok (.idiv, 1) := by decide +kernel
theorem dX10_indexOf_67 : decode cX10_indexOf 67 = .ok (.istore_n 2, 1) := by decide +kernel
theorem dX10_indexOf_68 : decode cX10_indexOf 68 = .ok (.iinc 5 1, 3) := by decide +kernel
theorem dX10_indexOf_71 : decode cX10_indexOf 71 = .ok (.goto (-61), 3) := by decide +kernel
theorem dX10_indexOf_74 : decode cX10_indexOf 74 = .ok (.iload_n 2, 1) := by decide +kernel
theorem dX10_indexOf_75 : decode cX10_indexOf 75 = .ok (.ifCond .ne 7, 3) := by decide +kernel
theorem dX10_indexOf_78 : decode cX10_indexOf 78 = .ok (.iload_n 3, 1) := by decide +kernel
theorem dX10_indexOf_79 : decode cX10_indexOf 79 = .ok (.goto 4, 3) := by decide +kernel
theorem dX10_indexOf_82 : decode cX10_indexOf 82 = .ok (.iconst (-1), 1) := by decide +kernel
theorem dX10_indexOf_83 : decode cX10_indexOf 83 = .ok (.ireturn, 1) := by decide +kernel
theorem dX10_paints_0 : decode cX10_paints 0 = .ok (.iload_n 1, 1) := by decide +kernel
theorem dX10_paints_1 : decode cX10_paints 1 = .ok (.istore_n 2, 1) := by decide +kernel
theorem dX10_paints_2 : decode cX10_paints 2 = .ok (.aload_n 0, 1) := by decide +kernel
theorem dX10_paints_3 : decode cX10_paints 3 = .ok (.getfield 15, 3) := by decide +kernel
theorem dX10_paints_6 : decode cX10_paints 6 = .ok (.iconst 0, 1) := by decide +kernel
theorem dX10_paints_7 : decode cX10_paints 7 = .ok (.iaload, 1) := by decide +kernel
theorem dX10_paints_8 : decode cX10_paints 8 = .ok (.iconst 1, 1) := by decide +kernel
theorem dX10_paints_9 : decode cX10_paints 9 = .ok (.isub, 1) := by decide +kernel
theorem dX10_paints_10 : decode cX10_paints 10 = .ok (.istore_n 3, 1) := by decide +kernel
theorem dX10_paints_11 : decode cX10_paints 11 = .ok (.iload_n 3, 1) := by decide +kernel
theorem dX10_paints_12 : decode cX10_paints 12 = .ok (.ifCond .lt 32, 3) := by decide +kernel
theorem dX10_paints_15 : decode cX10_paints 15 = .ok (.aload_n 0, 1) := by decide +kernel
theorem dX10_paints_16 : decode cX10_paints 16 = .ok (.getfield 37, 3) := by decide +kernel
theorem dX10_paints_19 : decode cX10_paints 19 = .ok (.iload_n 3, 1) := by decide +kernel
theorem dX10_paints_20 : decode cX10_paints 20 = .ok (.iload_n 2, 1) := by decide +kernel
theorem dX10_paints_21 : decode cX10_paints 21 = .ok (.aload_n 0, 1) := by decide +kernel
theorem dX10_paints_22 : decode cX10_paints 22 = .ok (.getfield 15, 3) := by decide +kernel
theorem dX10_paints_25 : decode cX10_paints 25 = .ok (.iconst 1, 1) := by decide +kernel
theorem dX10_paints_26 : decode cX10_paints 26 = .ok (.iaload, 1) := by decide +kernel
theorem dX10_paints_27 : decode cX10_paints 27 = .ok (.irem, 1) := by decide +kernel
theorem dX10_paints_28 : decode cX10_paints 28 = .ok (.iastore, 1) := by decide +kernel
theorem dX10_paints_29 : decode cX10_paints 29 = .ok (.iload_n 2, 1) := by decide +kernel
theorem dX10_paints_30 : decode cX10_paints 30 = .ok (.aload_n 0, 1) := by decide +kernel
theorem dX10_paints_31 : decode cX10_paints 31 = .ok (.getfield 15, 3) := by decide +kernel
theorem dX10_paints_34 : decode cX10_paints 34 = .ok (.iconst 1, 1) := by decide +kernel
theorem dX10_paints_35 : decode cX10_paints 35 = .ok (.iaload, 1) := by decide +kernel
theorem dX10_paints_36 : decode cX10_paints 36 = .ok (.idiv, 1) := by decide +kernel
theorem dX10_paints_37 : decode cX10_paints 37 = .ok (.istore_n 2, 1) := by decide +kernel
theorem dX10_paints_38 : decode cX10_paints 38 = .ok (.iinc 3 (-1), 3) := by decide +kernel
theorem dX10_paints_41 : decode cX10_paints 41 = .ok (.goto (-30), 3) := by decide +kernel
theorem dX10_paints_44 : decode cX10_paints 44 = .ok (.return_, 1) := by decide +kernel
theorem dX10_tellsPainting_0 : decode cX10_tellsPainting 0 = .ok (.aload_n 0, 1) := by decide +kernel
theorem dX10_tellsPainting_1 : decode cX10_tellsPainting 1 = .ok (.iload_n 1, 1) := by decide +kernel
theorem dX10_tellsPainting_2 : decode cX10_tellsPainting 2 = .ok (.invokevirtual 168, 3) := by decide +kernel
theorem dX10_tellsPainting_5 : decode cX10_tellsPainting 5 = .ok (.iconst 0, 1) := by decide +kernel
theorem dX10_tellsPainting_6 : decode cX10_tellsPainting 6 = .ok (.istore_n 2, 1) := by decide +kernel
theorem dX10_tellsPainting_7 : decode cX10_tellsPainting 7 = .ok (.iconst 0, 1) := by decide +kernel
theorem dX10_tellsPainting_8 : decode cX10_tellsPainting 8 = .ok (.istore_n 3, 1) := by decide +kernel
theorem dX10_tellsPainting_9 : decode cX10_tellsPainting 9 = .ok (.iload_n 3, 1) := by decide +kernel
theorem dX10_tellsPainting_10 : decode cX10_tellsPainting 10 = .ok (.aload_n 0, 1) := by decide +kernel
theorem dX10_tellsPainting_11 : decode cX10_tellsPainting 11 = .ok (.getfield 15, 3) := by decide +kernel
theorem dX10_tellsPainting_14 : decode cX10_tellsPainting 14 = .ok (.iconst 0, 1) := by decide +kernel
theorem dX10_tellsPainting_15 : decode cX10_tellsPainting 15 = .ok (.iaload, 1) := by decide +kernel
theorem dX10_tellsPainting_16 : decode cX10_tellsPainting 16 = .ok (.if_icmp .ge 21, 3) := by decide +kernel
theorem dX10_tellsPainting_19 : decode cX10_tellsPainting 19 = .ok (.bipush 10, 2) := by decide +kernel
theorem dX10_tellsPainting_21 : decode cX10_tellsPainting 21 = .ok (.iload_n 2, 1) := by decide +kernel
theorem dX10_tellsPainting_22 : decode cX10_tellsPainting 22 = .ok (.imul, 1) := by decide +kernel
theorem dX10_tellsPainting_23 : decode cX10_tellsPainting 23 = .ok (.aload_n 0, 1) := by decide +kernel
theorem dX10_tellsPainting_24 : decode cX10_tellsPainting 24 = .ok (.getfield 37, 3) := by decide +kernel
theorem dX10_tellsPainting_27 : decode cX10_tellsPainting 27 = .ok (.iload_n 3, 1) := by decide +kernel
theorem dX10_tellsPainting_28 : decode cX10_tellsPainting 28 = .ok (.iaload, 1) := by decide +kernel
theorem dX10_tellsPainting_29 : decode cX10_tellsPainting 29 = .ok (.iadd, 1) := by decide +kernel
theorem dX10_tellsPainting_30 : decode cX10_tellsPainting 30 = .ok (.istore_n 2, 1) := by decide +kernel
theorem dX10_tellsPainting_31 : decode cX10_tellsPainting 31 = .ok (.iinc 3 1, 3) := by decide +kernel
theorem dX10_tellsPainting_34 : decode cX10_tellsPainting 34 = .ok (.goto (-25), 3) := by decide +kernel
theorem dX10_tellsPainting_37 : decode cX10_tellsPainting 37 = .ok (.iload_n 2, 1) := by decide +kernel
theorem dX10_tellsPainting_38 : decode cX10_tellsPainting 38 = .ok (.ireturn, 1) := by decide +kernel
theorem dX10_becomes_0 : decode cX10_becomes 0 = .ok (.iconst 0, 1) := by decide +kernel
theorem dX10_becomes_1 : decode cX10_becomes 1 = .ok (.istore_n 2, 1) := by decide +kernel
theorem dX10_becomes_2 : decode cX10_becomes 2 = .ok (.iconst 0, 1) := by decide +kernel
theorem dX10_becomes_3 : decode cX10_becomes 3 = .ok (.istore_n 3, 1) := by decide +kernel
theorem dX10_becomes_4 : decode cX10_becomes 4 = .ok (.iload_n 3, 1) := by decide +kernel
theorem dX10_becomes_5 : decode cX10_becomes 5 = .ok (.aload_n 0, 1) := by decide +kernel
theorem dX10_becomes_6 : decode cX10_becomes 6 = .ok (.getfield 15, 3) := by decide +kernel
theorem dX10_becomes_9 : decode cX10_becomes 9 = .ok (.iconst 0, 1) := by decide +kernel
theorem dX10_becomes_10 : decode cX10_becomes 10 = .ok (.iaload, 1) := by decide +kernel
theorem dX10_becomes_11 : decode cX10_becomes 11 = .ok (.if_icmp .ge 30, 3) := by decide +kernel
theorem dX10_becomes_14 : decode cX10_becomes 14 = .ok (.iload_n 2, 1) := by decide +kernel
theorem dX10_becomes_15 : decode cX10_becomes 15 = .ok (.aload_n 0, 1) := by decide +kernel
theorem dX10_becomes_16 : decode cX10_becomes 16 = .ok (.getfield 15, 3) := by decide +kernel
theorem dX10_becomes_19 : decode cX10_becomes 19 = .ok (.iconst 1, 1) := by decide +kernel
theorem dX10_becomes_20 : decode cX10_becomes 20 = .ok (.iaload, 1) := by decide +kernel
theorem dX10_becomes_21 : decode cX10_becomes 21 = .ok (.imul, 1) := by decide +kernel
theorem dX10_becomes_22 : decode cX10_becomes 22 = .ok (.aload_n 0, 1) := by decide +kernel
theorem dX10_becomes_23 : decode cX10_becomes 23 = .ok (.getfield 37, 3) := by decide +kernel
theorem dX10_becomes_26 : decode cX10_becomes 26 = .ok (.aload_n 0, 1) := by decide +kernel
theorem dX10_becomes_27 : decode cX10_becomes 27 = .ok (.iload_n 1, 1) := by decide +kernel
theorem dX10_becomes_28 : decode cX10_becomes 28 = .ok (.iload_n 3, 1) := by decide +kernel
theorem dX10_becomes_29 : decode cX10_becomes 29 = .ok (.invokevirtual 95, 3) := by decide +kernel
theorem dX10_becomes_32 : decode cX10_becomes 32 = .ok (.iaload, 1) := by decide +kernel
theorem dX10_becomes_33 : decode cX10_becomes 33 = .ok (.iadd, 1) := by decide +kernel
theorem dX10_becomes_34 : decode cX10_becomes 34 = .ok (.istore_n 2, 1) := by decide +kernel
theorem dX10_becomes_35 : decode cX10_becomes 35 = .ok (.iinc 3 1, 3) := by decide +kernel
theorem dX10_becomes_38 : decode cX10_becomes 38 = .ok (.goto (-34), 3) := by decide +kernel
theorem dX10_becomes_41 : decode cX10_becomes 41 = .ok (.iload_n 2, 1) := by decide +kernel
theorem dX10_becomes_42 : decode cX10_becomes 42 = .ok (.ireturn, 1) := by decide +kernel
theorem dX10_leastOf_0 : decode cX10_leastOf 0 = .ok (.aload_n 0, 1) := by decide +kernel
theorem dX10_leastOf_1 : decode cX10_leastOf 1 = .ok (.iload_n 2, 1) := by decide +kernel
theorem dX10_leastOf_2 : decode cX10_leastOf 2 = .ok (.invokevirtual 168, 3) := by decide +kernel
