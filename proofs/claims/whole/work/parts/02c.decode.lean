theorem dX10_leastOf_5 : decode cX10_leastOf 5 = .ok (.iload_n 2, 1) := by decide +kernel
theorem dX10_leastOf_6 : decode cX10_leastOf 6 = .ok (.istore_n 3, 1) := by decide +kernel
theorem dX10_leastOf_7 : decode cX10_leastOf 7 = .ok (.iconst 0, 1) := by decide +kernel
theorem dX10_leastOf_8 : decode cX10_leastOf 8 = .ok (.istore 4, 2) := by decide +kernel
theorem dX10_leastOf_10 : decode cX10_leastOf 10 = .ok (.iload 4, 2) := by decide +kernel
theorem dX10_leastOf_12 : decode cX10_leastOf 12 = .ok (.aload_n 0, 1) := by decide +kernel
theorem dX10_leastOf_13 : decode cX10_leastOf 13 = .ok (.getfield 107, 3) := by decide +kernel
theorem dX10_leastOf_16 : decode cX10_leastOf 16 = .ok (.if_icmp .ge 34, 3) := by decide +kernel
theorem dX10_leastOf_19 : decode cX10_leastOf 19 = .ok (.aload_n 0, 1) := by decide +kernel
theorem dX10_leastOf_20 : decode cX10_leastOf 20 = .ok (.iload 4, 2) := by decide +kernel
theorem dX10_leastOf_22 : decode cX10_leastOf 22 = .ok (.iload_n 1, 1) := by decide +kernel
theorem dX10_leastOf_23 : decode cX10_leastOf 23 = .ok (.invokevirtual 132, 3) := by decide +kernel
theorem dX10_leastOf_26 : decode cX10_leastOf 26 = .ok (.ifCond .eq 16, 3) := by decide +kernel
theorem dX10_leastOf_29 : decode cX10_leastOf 29 = .ok (.iload_n 3, 1) := by decide +kernel
theorem dX10_leastOf_30 : decode cX10_leastOf 30 = .ok (.aload_n 0, 1) := by decide +kernel
theorem dX10_leastOf_31 : decode cX10_leastOf 31 = .ok (.iload 4, 2) := by decide +kernel
theorem dX10_leastOf_33 : decode cX10_leastOf 33 = .ok (.invokevirtual 172, 3) := by decide +kernel
theorem dX10_leastOf_36 : decode cX10_leastOf 36 = .ok (.invokestatic 175, 3) := by decide +kernel
theorem dX10_leastOf_39 : decode cX10_leastOf 39 = .ok (.goto 4, 3) := by decide +kernel
theorem dX10_leastOf_42 : decode cX10_leastOf 42 = .ok (.iload_n 3, 1) := by decide +kernel
theorem dX10_leastOf_43 : decode cX10_leastOf 43 = .ok (.istore_n 3, 1) := by decide +kernel
theorem dX10_leastOf_44 : decode cX10_leastOf 44 = .ok (.iinc 4 1, 3) := by decide +kernel
theorem dX10_leastOf_47 : decode cX10_leastOf 47 = .ok (.goto (-37), 3) := by decide +kernel
theorem dX10_leastOf_50 : decode cX10_leastOf 50 = .ok (.iload_n 3, 1) := by decide +kernel
theorem dX10_leastOf_51 : decode cX10_leastOf 51 = .ok (.ireturn, 1) := by decide +kernel
theorem dX10_sizeOf_0 : decode cX10_sizeOf 0 = .ok (.aload_n 0, 1) := by decide +kernel
theorem dX10_sizeOf_1 : decode cX10_sizeOf 1 = .ok (.iload_n 2, 1) := by decide +kernel
theorem dX10_sizeOf_2 : decode cX10_sizeOf 2 = .ok (.invokevirtual 168, 3) := by decide +kernel
theorem dX10_sizeOf_5 : decode cX10_sizeOf 5 = .ok (.iconst 0, 1) := by decide +kernel
theorem dX10_sizeOf_6 : decode cX10_sizeOf 6 = .ok (.istore_n 3, 1) := by decide +kernel
theorem dX10_sizeOf_7 : decode cX10_sizeOf 7 = .ok (.iconst 0, 1) := by decide +kernel
theorem dX10_sizeOf_8 : decode cX10_sizeOf 8 = .ok (.istore 4, 2) := by decide +kernel
theorem dX10_sizeOf_10 : decode cX10_sizeOf 10 = .ok (.iload 4, 2) := by decide +kernel
theorem dX10_sizeOf_12 : decode cX10_sizeOf 12 = .ok (.aload_n 0, 1) := by decide +kernel
theorem dX10_sizeOf_13 : decode cX10_sizeOf 13 = .ok (.getfield 107, 3) := by decide +kernel
theorem dX10_sizeOf_16 : decode cX10_sizeOf 16 = .ok (.if_icmp .ge 37, 3) := by decide +kernel
theorem dX10_sizeOf_19 : decode cX10_sizeOf 19 = .ok (.iload_n 3, 1) := by decide +kernel
theorem dX10_sizeOf_20 : decode cX10_sizeOf 20 = .ok (.aload_n 0, 1) := by decide +kernel
theorem dX10_sizeOf_21 : decode cX10_sizeOf 21 = .ok (.iload 4, 2) := by decide +kernel
theorem dX10_sizeOf_23 : decode cX10_sizeOf 23 = .ok (.iload_n 1, 1) := by decide +kernel
theorem dX10_sizeOf_24 : decode cX10_sizeOf 24 = .ok (.invokevirtual 132, 3) := by decide +kernel
theorem dX10_sizeOf_27 : decode cX10_sizeOf 27 = .ok (.ifCond .eq 17, 3) := by decide +kernel
theorem dX10_sizeOf_30 : decode cX10_sizeOf 30 = .ok (.aload_n 0, 1) := by decide +kernel
theorem dX10_sizeOf_31 : decode cX10_sizeOf 31 = .ok (.iload 4, 2) := by decide +kernel
theorem dX10_sizeOf_33 : decode cX10_sizeOf 33 = .ok (.invokevirtual 172, 3) := by decide +kernel
theorem dX10_sizeOf_36 : decode cX10_sizeOf 36 = .ok (.iload_n 2, 1) := by decide +kernel
theorem dX10_sizeOf_37 : decode cX10_sizeOf 37 = .ok (.if_icmp .ne 7, 3) := by decide +kernel
theorem dX10_sizeOf_40 : decode cX10_sizeOf 40 = .ok (.iconst 1, 1) := by decide +kernel
theorem dX10_sizeOf_41 : decode cX10_sizeOf 41 = .ok (.goto 4, 3) := by decide +kernel
theorem dX10_sizeOf_44 : decode cX10_sizeOf 44 = .ok (.iconst 0, 1) := by decide +kernel
theorem dX10_sizeOf_45 : decode cX10_sizeOf 45 = .ok (.iadd, 1) := by decide +kernel
theorem dX10_sizeOf_46 : decode cX10_sizeOf 46 = .ok (.istore_n 3, 1) := by decide +kernel
theorem dX10_sizeOf_47 : decode cX10_sizeOf 47 = .ok (.iinc 4 1, 3) := by decide +kernel
theorem dX10_sizeOf_50 : decode cX10_sizeOf 50 = .ok (.goto (-40), 3) := by decide +kernel
theorem dX10_sizeOf_53 : decode cX10_sizeOf 53 = .ok (.aload_n 0, 1) := by decide +kernel
theorem dX10_sizeOf_54 : decode cX10_sizeOf 54 = .ok (.iload_n 1, 1) := by decide +kernel
theorem dX10_sizeOf_55 : decode cX10_sizeOf 55 = .ok (.invokevirtual 180, 3) := by decide +kernel
theorem dX10_sizeOf_58 : decode cX10_sizeOf 58 = .ok (.iload_n 3, 1) := by decide +kernel
theorem dX10_sizeOf_59 : decode cX10_sizeOf 59 = .ok (.idiv, 1) := by decide +kernel
theorem dX10_sizeOf_60 : decode cX10_sizeOf 60 = .ok (.ireturn, 1) := by decide +kernel
theorem dX10_classes_0 : decode cX10_classes 0 = .ok (.aload_n 0, 1) := by decide +kernel
theorem dX10_classes_1 : decode cX10_classes 1 = .ok (.iconst 0, 1) := by decide +kernel
theorem dX10_classes_2 : decode cX10_classes 2 = .ok (.putfield 183, 3) := by decide +kernel
theorem dX10_classes_5 : decode cX10_classes 5 = .ok (.aload_n 0, 1) := by decide +kernel
theorem dX10_classes_6 : decode cX10_classes 6 = .ok (.invokevirtual 186, 3) := by decide +kernel
theorem dX10_classes_9 : decode cX10_classes 9 = .ok (.istore_n 2, 1) := by decide +kernel
theorem dX10_classes_10 : decode cX10_classes 10 = .ok (.iconst 0, 1) := by decide +kernel
theorem dX10_classes_11 : decode cX10_classes 11 = .ok (.istore_n 3, 1) := by decide +kernel
theorem dX10_classes_12 : decode cX10_classes 12 = .ok (.iload_n 3, 1) := by decide +kernel
theorem dX10_classes_13 : decode cX10_classes 13 = .ok (.iload_n 2, 1) := by decide +kernel
theorem dX10_classes_14 : decode cX10_classes 14 = .ok (.if_icmp .ge 16, 3) := by decide +kernel
theorem dX10_classes_17 : decode cX10_classes 17 = .ok (.aload_n 0, 1) := by decide +kernel
theorem dX10_classes_18 : decode cX10_classes 18 = .ok (.getfield 43, 3) := by decide +kernel
theorem dX10_classes_21 : decode cX10_classes 21 = .ok (.iload_n 3, 1) := by decide +kernel
theorem dX10_classes_22 : decode cX10_classes 22 = .ok (.iconst 0, 1) := by decide +kernel
theorem dX10_classes_23 : decode cX10_classes 23 = .ok (.bastore, 1) := by decide +kernel
theorem dX10_classes_24 : decode cX10_classes 24 = .ok (.iinc 3 1, 3) := by decide +kernel
theorem dX10_classes_27 : decode cX10_classes 27 = .ok (.goto (-15), 3) := by decide +kernel
theorem dX10_classes_30 : decode cX10_classes 30 = .ok (.iconst 0, 1) := by decide +kernel
theorem dX10_classes_31 : decode cX10_classes 31 = .ok (.istore_n 3, 1) := by decide +kernel
theorem dX10_classes_32 : decode cX10_classes 32 = .ok (.iload_n 3, 1) := by decide +kernel
theorem dX10_classes_33 : decode cX10_classes 33 = .ok (.iload_n 2, 1) := by decide +kernel
theorem dX10_classes_34 : decode cX10_classes 34 = .ok (.if_icmp .ge 86, 3) := by decide +kernel
theorem dX10_classes_37 : decode cX10_classes 37 = .ok (.aload_n 0, 1) := by decide +kernel
theorem dX10_classes_38 : decode cX10_classes 38 = .ok (.getfield 43, 3) := by decide +kernel
theorem dX10_classes_41 : decode cX10_classes 41 = .ok (.iload_n 3, 1) := by decide +kernel
theorem dX10_classes_42 : decode cX10_classes 42 = .ok (.baload, 1) := by decide +kernel
theorem dX10_classes_43 : decode cX10_classes 43 = .ok (.ifCond .eq 6, 3) := by decide +kernel
theorem dX10_classes_46 : decode cX10_classes 46 = .ok (.goto 68, 3) := by decide +kernel
theorem dX10_classes_49 : decode cX10_classes 49 = .ok (.aload_n 0, 1) := by decide +kernel
theorem dX10_classes_50 : decode cX10_classes 50 = .ok (.getfield 40, 3) := by decide +kernel
theorem dX10_classes_53 : decode cX10_classes 53 = .ok (.aload_n 0, 1) := by decide +kernel
theorem dX10_classes_54 : decode cX10_classes 54 = .ok (.getfield 183, 3) := by decide +kernel
theorem dX10_classes_57 : decode cX10_classes 57 = .ok (.iload_n 3, 1) := by decide +kernel
theorem dX10_classes_58 : decode cX10_classes 58 = .ok (.iastore, 1) := by decide +kernel
theorem dX10_classes_59 : decode cX10_classes 59 = .ok (.aload_n 0, 1) := by decide +kernel
theorem dX10_classes_60 : decode cX10_classes 60 = .ok (.dup, 1) := by decide +kernel
theorem dX10_classes_61 : decode cX10_classes 61 = .ok (.getfield 183, 3) := by decide +kernel
theorem dX10_classes_64 : decode cX10_classes 64 = .ok (.iconst 1, 1) := by decide +kernel
theorem dX10_classes_65 : decode cX10_classes 65 = .ok (.iadd, 1) := by decide +kernel
theorem dX10_classes_66 : decode cX10_classes 66 = .ok (.putfield 183, 3) := by decide +kernel
theorem dX10_classes_69 : decode cX10_classes 69 = .ok (.aload_n 0, 1) := by decide +kernel
theorem dX10_classes_70 : decode cX10_classes 70 = .ok (.iload_n 3, 1) := by decide +kernel
theorem dX10_classes_71 : decode cX10_classes 71 = .ok (.invokevirtual 168, 3) := by decide +kernel
theorem dX10_classes_74 : decode cX10_classes 74 = .ok (.iconst 0, 1) := by decide +kernel
theorem dX10_classes_75 : decode cX10_classes 75 = .ok (.istore 4, 2) := by decide +kernel
theorem dX10_classes_77 : decode cX10_classes 77 = .ok (.iload 4, 2) := by decide +kernel
theorem dX10_classes_79 : decode cX10_classes 79 = .ok (.aload_n 0, 1) := by decide +kernel
theorem dX10_classes_80 : decode cX10_classes 80 = .ok (.getfield 107, 3) := by decide +kernel
theorem dX10_classes_83 : decode cX10_classes 83 = .ok (.if_icmp .ge 31, 3) := by decide +kernel
theorem dX10_classes_86 : decode cX10_classes 86 = .ok (.aload_n 0, 1) := by decide +kernel
theorem dX10_classes_87 : decode cX10_classes 87 = .ok (.iload 4, 2) := by decide +kernel
theorem dX10_classes_89 : decode cX10_classes 89 = .ok (.iload_n 1, 1) := by decide +kernel
theorem dX10_classes_90 : decode cX10_classes 90 = .ok (.invokevirtual 132, 3) := by decide +kernel
theorem dX10_classes_93 : decode cX10_classes 93 = .ok (.ifCond .eq 15, 3) := by decide +kernel
theorem dX10_classes_96 : decode cX10_classes 96 = .ok (.aload_n 0, 1) := by decide +kernel
theorem dX10_classes_97 : decode cX10_classes 97 = .ok (.getfield 43, 3) := by decide +kernel
theorem dX10_classes_100 : decode cX10_classes 100 = .ok (.aload_n 0, 1) := by decide +kernel
theorem dX10_classes_101 : decode cX10_classes 101 = .ok (.iload 4, 2) := by decide +kernel
theorem dX10_classes_103 : decode cX10_classes 103 = .ok (.invokevirtual 172, 3) := by decide +kernel
theorem dX10_classes_106 : decode cX10_classes 106 = .ok (.iconst 1, 1) := by decide +kernel
theorem dX10_classes_107 : decode cX10_classes 107 = .ok (.bastore, 1) := by decide +kernel
theorem dX10_classes_108 : decode cX10_classes 108 = .ok (.iinc 4 1, 3) := by decide +kernel
theorem dX10_classes_111 : decode cX10_classes 111 = .ok (.goto (-34), 3) := by decide +kernel
theorem dX10_classes_114 : decode cX10_classes 114 = .ok (.iinc 3 1, 3) := by decide +kernel
theorem dX10_classes_117 : decode cX10_classes 117 = .ok (.goto (-85), 3) := by decide +kernel
theorem dX10_classes_120 : decode cX10_classes 120 = .ok (.return_, 1) := by decide +kernel
theorem dX10_allClasses_0 : decode cX10_allClasses 0 = .ok (.aload_n 0, 1) := by decide +kernel
theorem dX10_allClasses_1 : decode cX10_allClasses 1 = .ok (.invokevirtual 163, 3) := by decide +kernel
theorem dX10_allClasses_4 : decode cX10_allClasses 4 = .ok (.aload_n 0, 1) := by decide +kernel
theorem dX10_allClasses_5 : decode cX10_allClasses 5 = .ok (.iload_n 1, 1) := by decide +kernel
theorem dX10_allClasses_6 : decode cX10_allClasses 6 = .ok (.invokevirtual 189, 3) := by decide +kernel
theorem dX10_allClasses_9 : decode cX10_allClasses 9 = .ok (.return_, 1) := by decide +kernel
theorem dX10_mirrors_0 : decode cX10_mirrors 0 = .ok (.aload_n 0, 1) := by decide +kernel
theorem dX10_mirrors_1 : decode cX10_mirrors 1 = .ok (.getfield 107, 3) := by decide +kernel
theorem dX10_mirrors_4 : decode cX10_mirrors 4 = .ok (.aload_n 0, 1) := by decide +kernel
theorem dX10_mirrors_5 : decode cX10_mirrors 5 = .ok (.iconst 0, 1) := by decide +kernel
theorem dX10_mirrors_6 : decode cX10_mirrors 6 = .ok (.invokevirtual 180, 3) := by decide +kernel
theorem dX10_mirrors_9 : decode cX10_mirrors 9 = .ok (.isub, 1) := by decide +kernel
theorem dX10_mirrors_10 : decode cX10_mirrors 10 = .ok (.ireturn, 1) := by decide +kernel
theorem dX10_firstMirror_0 : decode cX10_firstMirror 0 = .ok (.iconst 0, 1) := by decide +kernel
theorem dX10_firstMirror_1 : decode cX10_firstMirror 1 = .ok (.istore_n 1, 1) := by decide +kernel
theorem dX10_firstMirror_2 : decode cX10_firstMirror 2 = .ok (.aload_n 0, 1) := by decide +kernel
theorem dX10_firstMirror_3 : decode cX10_firstMirror 3 = .ok (.getfield 25, 3) := by decide +kernel
theorem dX10_firstMirror_6 : decode cX10_firstMirror 6 = .ok (.iload_n 1, 1) := by decide +kernel
theorem dX10_firstMirror_7 : decode cX10_firstMirror 7 = .ok (.iaload, 1) := by decide +kernel
theorem dX10_firstMirror_8 : decode cX10_firstMirror 8 = .ok (.ifCond .ne 9, 3) := by decide +kernel
theorem dX10_firstMirror_11 : decode cX10_firstMirror 11 = .ok (.iinc 1 1, 3) := by decide +kernel
theorem dX10_firstMirror_14 : decode cX10_firstMirror 14 = .ok (.goto (-12), 3) := by decide +kernel
theorem dX10_firstMirror_17 : decode cX10_firstMirror 17 = .ok (.iload_n 1, 1) := by decide +kernel
theorem dX10_firstMirror_18 : decode cX10_firstMirror 18 = .ok (.ireturn, 1) := by decide +kernel
theorem dX10_otherHand_0 : decode cX10_otherHand 0 = .ok (.aload_n 0, 1) := by decide +kernel
theorem dX10_otherHand_1 : decode cX10_otherHand 1 = .ok (.iload_n 1, 1) := by decide +kernel
theorem dX10_otherHand_2 : decode cX10_otherHand 2 = .ok (.invokevirtual 168, 3) := by decide +kernel
theorem dX10_otherHand_5 : decode cX10_otherHand 5 = .ok (.aload_n 0, 1) := by decide +kernel
theorem dX10_otherHand_6 : decode cX10_otherHand 6 = .ok (.iconst 0, 1) := by decide +kernel
theorem dX10_otherHand_7 : decode cX10_otherHand 7 = .ok (.aload_n 0, 1) := by decide +kernel
theorem dX10_otherHand_8 : decode cX10_otherHand 8 = .ok (.aload_n 0, 1) := by decide +kernel
theorem dX10_otherHand_9 : decode cX10_otherHand 9 = .ok (.invokevirtual 192, 3) := by decide +kernel
theorem dX10_otherHand_12 : decode cX10_otherHand 12 = .ok (.invokevirtual 172, 3) := by decide +kernel
theorem dX10_otherHand_15 : decode cX10_otherHand 15 = .ok (.invokevirtual 195, 3) := by decide +kernel
theorem dX10_otherHand_18 : decode cX10_otherHand 18 = .ok (.ireturn, 1) := by decide +kernel
theorem dX10_isHanded_0 : decode cX10_isHanded 0 = .ok (.aload_n 0, 1) := by decide +kernel
theorem dX10_isHanded_1 : decode cX10_isHanded 1 = .ok (.invokevirtual 198, 3) := by decide +kernel
theorem dX10_isHanded_4 : decode cX10_isHanded 4 = .ok (.ifCond .le 21, 3) := by decide +kernel
theorem dX10_isHanded_7 : decode cX10_isHanded 7 = .ok (.aload_n 0, 1) := by decide +kernel
theorem dX10_isHanded_8 : decode cX10_isHanded 8 = .ok (.iload_n 1, 1) := by decide +kernel
theorem dX10_isHanded_9 : decode cX10_isHanded 9 = .ok (.invokevirtual 201, 3) := by decide +kernel
theorem dX10_isHanded_12 : decode cX10_isHanded 12 = .ok (.aload_n 0, 1) := by decide +kernel
theorem dX10_isHanded_13 : decode cX10_isHanded 13 = .ok (.iconst 0, 1) := by decide +kernel
theorem dX10_isHanded_14 : decode cX10_isHanded 14 = .ok (.iload_n 1, 1) := by decide +kernel
theorem dX10_isHanded_15 : decode cX10_isHanded 15 = .ok (.invokevirtual 195, 3) := by decide +kernel
theorem dX10_isHanded_18 : decode cX10_isHanded 18 = .ok (.if_icmp .eq 7, 3) := by decide +kernel
theorem dX10_isHanded_21 : decode cX10_isHanded 21 = .ok (.iconst 1, 1) := by decide +kernel
theorem dX10_isHanded_22 : decode cX10_isHanded 22 = .ok (.goto 4, 3) := by decide +kernel
theorem dX10_isHanded_25 : decode cX10_isHanded 25 = .ok (.iconst 0, 1) := by decide +kernel
theorem dX10_isHanded_26 : decode cX10_isHanded 26 = .ok (.ireturn, 1) := by decide +kernel
theorem dX10_pairs_0 : decode cX10_pairs 0 = .ok (.aload_n 0, 1) := by decide +kernel
theorem dX10_pairs_1 : decode cX10_pairs 1 = .ok (.iconst 0, 1) := by decide +kernel
theorem dX10_pairs_2 : decode cX10_pairs 2 = .ok (.invokevirtual 204, 3) := by decide +kernel
theorem dX10_pairs_5 : decode cX10_pairs 5 = .ok (.iconst 0, 1) := by decide +kernel
theorem dX10_pairs_6 : decode cX10_pairs 6 = .ok (.istore_n 1, 1) := by decide +kernel
theorem dX10_pairs_7 : decode cX10_pairs 7 = .ok (.iconst 0, 1) := by decide +kernel
theorem dX10_pairs_8 : decode cX10_pairs 8 = .ok (.istore_n 2, 1) := by decide +kernel
theorem dX10_pairs_9 : decode cX10_pairs 9 = .ok (.iload_n 2, 1) := by decide +kernel
theorem dX10_pairs_10 : decode cX10_pairs 10 = .ok (.aload_n 0, 1) := by decide +kernel
theorem dX10_pairs_11 : decode cX10_pairs 11 = .ok (.getfield 183, 3) := by decide +kernel
theorem dX10_pairs_14 : decode cX10_pairs 14 = .ok (.if_icmp .ge 30, 3) := by decide +kernel
theorem dX10_pairs_17 : decode cX10_pairs 17 = .ok (.iload_n 1, 1) := by decide +kernel
theorem dX10_pairs_18 : decode cX10_pairs 18 = .ok (.aload_n 0, 1) := by decide +kernel
theorem dX10_pairs_19 : decode cX10_pairs 19 = .ok (.aload_n 0, 1) := by decide +kernel
theorem dX10_pairs_20 : decode cX10_pairs 20 = .ok (.getfield 40, 3) := by decide +kernel
theorem dX10_pairs_23 : decode cX10_pairs 23 = .ok (.iload_n 2, 1) := by decide +kernel
theorem dX10_pairs_24 : decode cX10_pairs 24 = .ok (.iaload, 1) := by decide +kernel
theorem dX10_pairs_25 : decode cX10_pairs 25 = .ok (.invokevirtual 207, 3) := by decide +kernel
theorem dX10_pairs_28 : decode cX10_pairs 28 = .ok (.ifCond .eq 7, 3) := by decide +kernel
theorem dX10_pairs_31 : decode cX10_pairs 31 = .ok (.iconst 1, 1) := by decide +kernel
theorem dX10_pairs_32 : decode cX10_pairs 32 = .ok (.goto 4, 3) := by decide +kernel
theorem dX10_pairs_35 : decode cX10_pairs 35 = .ok (.iconst 0, 1) := by decide +kernel
theorem dX10_pairs_36 : decode cX10_pairs 36 = .ok (.iadd, 1) := by decide +kernel
theorem dX10_pairs_37 : decode cX10_pairs 37 = .ok (.istore_n 1, 1) := by decide +kernel
theorem dX10_pairs_38 : decode cX10_pairs 38 = .ok (.iinc 2 1, 3) := by decide +kernel
theorem dX10_pairs_41 : decode cX10_pairs 41 = .ok (.goto (-32), 3) := by decide +kernel
theorem dX10_pairs_44 : decode cX10_pairs 44 = .ok (.iload_n 1, 1) := by decide +kernel
theorem dX10_pairs_45 : decode cX10_pairs 45 = .ok (.iconst 2, 1) := by decide +kernel
theorem dX10_pairs_46 : decode cX10_pairs 46 = .ok (.idiv, 1) := by decide +kernel
theorem dX10_pairs_47 : decode cX10_pairs 47 = .ok (.ireturn, 1) := by decide +kernel
theorem dX10_classesBy_0 : decode cX10_classesBy 0 = .ok (.aload_n 0, 1) := by decide +kernel
theorem dX10_classesBy_1 : decode cX10_classesBy 1 = .ok (.iload_n 1, 1) := by decide +kernel
theorem dX10_classesBy_2 : decode cX10_classesBy 2 = .ok (.invokevirtual 204, 3) := by decide +kernel
theorem dX10_classesBy_5 : decode cX10_classesBy 5 = .ok (.aload_n 0, 1) := by decide +kernel
theorem dX10_classesBy_6 : decode cX10_classesBy 6 = .ok (.getfield 183, 3) := by decide +kernel
theorem dX10_classesBy_9 : decode cX10_classesBy 9 = .ok (.ireturn, 1) := by decide +kernel
theorem dX10_told_0 : decode cX10_told 0 = .ok (.aload_n 0, 1) := by decide +kernel
theorem dX10_told_1 : decode cX10_told 1 = .ok (.invokevirtual 163, 3) := by decide +kernel
theorem dX10_told_4 : decode cX10_told 4 = .ok (.iload_n 1, 1) := by decide +kernel
theorem dX10_told_5 : decode cX10_told 5 = .ok (.tableswitch 105 0 8 #[51, 58, 65, 72, 77, 83, 88, 94, 100], 51) := by decide +kernel
theorem dX10_told_56 : decode cX10_told 56 = .ok (.aload_n 0, 1) := by decide +kernel
theorem dX10_told_57 : decode cX10_told 57 = .ok (.getfield 15, 3) := by decide +kernel
theorem dX10_told_60 : decode cX10_told 60 = .ok (.iconst 0, 1) := by decide +kernel
theorem dX10_told_61 : decode cX10_told 61 = .ok (.iaload, 1) := by decide +kernel
theorem dX10_told_62 : decode cX10_told 62 = .ok (.ireturn, 1) := by decide +kernel
theorem dX10_told_63 : decode cX10_told 63 = .ok (.aload_n 0, 1) := by decide +kernel
theorem dX10_told_64 : decode cX10_told 64 = .ok (.getfield 15, 3) := by decide +kernel
theorem dX10_told_67 : decode cX10_told 67 = .ok (.iconst 1, 1) := by decide +kernel
theorem dX10_told_68 : decode cX10_told 68 = .ok (.iaload, 1) := by decide +kernel
theorem dX10_told_69 : decode cX10_told 69 = .ok (.ireturn, 1) := by decide +kernel
theorem dX10_told_70 : decode cX10_told 70 = .ok (.aload_n 0, 1) := by decide +kernel
theorem dX10_told_71 : decode cX10_told 71 = .ok (.getfield 15, 3) := by decide +kernel
theorem dX10_told_74 : decode cX10_told 74 = .ok (.iconst 2, 1) := by decide +kernel
theorem dX10_told_75 : decode cX10_told 75 = .ok (.iaload, 1) := by decide +kernel
theorem dX10_told_76 : decode cX10_told 76 = .ok (.ireturn, 1) := by decide +kernel
theorem dX10_told_77 : decode cX10_told 77 = .ok (.aload_n 0, 1) := by decide +kernel
theorem dX10_told_78 : decode cX10_told 78 = .ok (.getfield 107, 3) := by decide +kernel
theorem dX10_told_81 : decode cX10_told 81 = .ok (.ireturn, 1) := by decide +kernel
theorem dX10_told_82 : decode cX10_told 82 = .ok (.aload_n 0, 1) := by decide +kernel
theorem dX10_told_83 : decode cX10_told 83 = .ok (.iconst 0, 1) := by decide +kernel
theorem dX10_told_84 : decode cX10_told 84 = .ok (.invokevirtual 180, 3) := by decide +kernel
theorem dX10_told_87 : decode cX10_told 87 = .ok (.ireturn, 1) := by decide +kernel
theorem dX10_told_88 : decode cX10_told 88 = .ok (.aload_n 0, 1) := by decide +kernel
theorem dX10_told_89 : decode cX10_told 89 = .ok (.invokevirtual 186, 3) := by decide +kernel
theorem dX10_told_92 : decode cX10_told 92 = .ok (.ireturn, 1) := by decide +kernel
theorem dX10_told_93 : decode cX10_told 93 = .ok (.aload_n 0, 1) := by decide +kernel
theorem dX10_told_94 : decode cX10_told 94 = .ok (.iconst 0, 1) := by decide +kernel
theorem dX10_told_95 : decode cX10_told 95 = .ok (.invokevirtual 210, 3) := by decide +kernel
theorem dX10_told_98 : decode cX10_told 98 = .ok (.ireturn, 1) := by decide +kernel
theorem dX10_told_99 : decode cX10_told 99 = .ok (.aload_n 0, 1) := by decide +kernel
theorem dX10_told_100 : decode cX10_told 100 = .ok (.iconst 1, 1) := by decide +kernel
theorem dX10_told_101 : decode cX10_told 101 = .ok (.invokevirtual 210, 3) := by decide +kernel
theorem dX10_told_104 : decode cX10_told 104 = .ok (.ireturn, 1) := by decide +kernel
theorem dX10_told_105 : decode cX10_told 105 = .ok (.aload_n 0, 1) := by decide +kernel
theorem dX10_told_106 : decode cX10_told 106 = .ok (.invokevirtual 213, 3) := by decide +kernel
theorem dX10_told_109 : decode cX10_told 109 = .ok (.ireturn, 1) := by decide +kernel
theorem dX10_told_110 : decode cX10_told 110 = .ok (.iconst (-1), 1) := by decide +kernel
theorem dX10_told_111 : decode cX10_told 111 = .ok (.ireturn, 1) := by decide +kernel
theorem dX10_indexes_0 : decode cX10_indexes 0 = .ok (.aload_n 0, 1) := by decide +kernel
theorem dX10_indexes_1 : decode cX10_indexes 1 = .ok (.invokevirtual 163, 3) := by decide +kernel
theorem dX10_indexes_4 : decode cX10_indexes 4 = .ok (.aload_n 0, 1) := by decide +kernel
theorem dX10_indexes_5 : decode cX10_indexes 5 = .ok (.iconst 0, 1) := by decide +kernel
theorem dX10_indexes_6 : decode cX10_indexes 6 = .ok (.putfield 216, 3) := by decide +kernel
theorem dX10_indexes_9 : decode cX10_indexes 9 = .ok (.iconst 0, 1) := by decide +kernel
theorem dX10_indexes_10 : decode cX10_indexes 10 = .ok (.istore_n 2, 1) := by decide +kernel
theorem dX10_indexes_11 : decode cX10_indexes 11 = .ok (.iload_n 2, 1) := by decide +kernel
theorem dX10_indexes_12 : decode cX10_indexes 12 = .ok (.aload_n 0, 1) := by decide +kernel
theorem dX10_indexes_13 : decode cX10_indexes 13 = .ok (.getfield 107, 3) := by decide +kernel
theorem dX10_indexes_16 : decode cX10_indexes 16 = .ok (.if_icmp .ge 27, 3) := by decide +kernel
theorem dX10_indexes_19 : decode cX10_indexes 19 = .ok (.aload_n 0, 1) := by decide +kernel
theorem dX10_indexes_20 : decode cX10_indexes 20 = .ok (.iload_n 2, 1) := by decide +kernel
theorem dX10_indexes_21 : decode cX10_indexes 21 = .ok (.iload_n 1, 1) := by decide +kernel
theorem dX10_indexes_22 : decode cX10_indexes 22 = .ok (.invokevirtual 132, 3) := by decide +kernel
theorem dX10_indexes_25 : decode cX10_indexes 25 = .ok (.ifCond .eq 12, 3) := by decide +kernel
theorem dX10_indexes_28 : decode cX10_indexes 28 = .ok (.aload_n 0, 1) := by decide +kernel
theorem dX10_indexes_29 : decode cX10_indexes 29 = .ok (.aload_n 0, 1) := by decide +kernel
theorem dX10_indexes_30 : decode cX10_indexes 30 = .ok (.iload_n 2, 1) := by decide +kernel
theorem dX10_indexes_31 : decode cX10_indexes 31 = .ok (.invokevirtual 165, 3) := by decide +kernel
theorem dX10_indexes_34 : decode cX10_indexes 34 = .ok (.invokevirtual 219, 3) := by decide +kernel
theorem dX10_indexes_37 : decode cX10_indexes 37 = .ok (.iinc 2 1, 3) := by decide +kernel
theorem dX10_indexes_40 : decode cX10_indexes 40 = .ok (.goto (-29), 3) := by decide +kernel
theorem dX10_indexes_43 : decode cX10_indexes 43 = .ok (.return_, 1) := by decide +kernel
theorem dX10_comes_0 : decode cX10_comes 0 = .ok (.iconst 0, 1) := by decide +kernel
theorem dX10_comes_1 : decode cX10_comes 1 = .ok (.istore_n 2, 1) := by decide +kernel
theorem dX10_comes_2 : decode cX10_comes 2 = .ok (.iload_n 2, 1) := by decide +kernel
theorem dX10_comes_3 : decode cX10_comes 3 = .ok (.aload_n 0, 1) := by decide +kernel
theorem dX10_comes_4 : decode cX10_comes 4 = .ok (.getfield 216, 3) := by decide +kernel
theorem dX10_comes_7 : decode cX10_comes 7 = .ok (.if_icmp .ge 19, 3) := by decide +kernel
theorem dX10_comes_10 : decode cX10_comes 10 = .ok (.aload_n 0, 1) := by decide +kernel
theorem dX10_comes_11 : decode cX10_comes 11 = .ok (.getfield 47, 3) := by decide +kernel
theorem dX10_comes_14 : decode cX10_comes 14 = .ok (.iload_n 2, 1) := by decide +kernel
theorem dX10_comes_15 : decode cX10_comes 15 = .ok (.iaload, 1) := by decide +kernel
theorem dX10_comes_16 : decode cX10_comes 16 = .ok (.iload_n 1, 1) := by decide +kernel
theorem dX10_comes_17 : decode cX10_comes 17 = .ok (.if_icmp .ge 9, 3) := by decide +kernel
theorem dX10_comes_20 : decode cX10_comes 20 = .ok (.iinc 2 1, 3) := by decide +kernel
theorem dX10_comes_23 : decode cX10_comes 23 = .ok (.goto (-21), 3) := by decide +kernel
theorem dX10_comes_26 : decode cX10_comes 26 = .ok (.iload_n 2, 1) := by decide +kernel
theorem dX10_comes_27 : decode cX10_comes 27 = .ok (.aload_n 0, 1) := by decide +kernel
theorem dX10_comes_28 : decode cX10_comes 28 = .ok (.getfield 216, 3) := by decide +kernel
theorem dX10_comes_31 : decode cX10_comes 31 = .ok (.if_icmp .eq 13, 3) := by decide +kernel
theorem dX10_comes_34 : decode cX10_comes 34 = .ok (.aload_n 0, 1) := by decide +kernel
theorem dX10_comes_35 : decode cX10_comes 35 = .ok (.getfield 47, 3) := by decide +kernel
theorem dX10_comes_38 : decode cX10_comes 38 = .ok (.iload_n 2, 1) := by decide +kernel
theorem dX10_comes_39 : decode cX10_comes 39 = .ok (.iaload, 1) := by decide +kernel
theorem dX10_comes_40 : decode cX10_comes 40 = .ok (.iload_n 1, 1) := by decide +kernel
theorem dX10_comes_41 : decode cX10_comes 41 = .ok (.if_icmp .eq 71, 3) := by decide +kernel
theorem dX10_comes_44 : decode cX10_comes 44 = .ok (.aload_n 0, 1) := by decide +kernel
theorem dX10_comes_45 : decode cX10_comes 45 = .ok (.getfield 216, 3) := by decide +kernel
theorem dX10_comes_48 : decode cX10_comes 48 = .ok (.istore_n 3, 1) := by decide +kernel
theorem dX10_comes_49 : decode cX10_comes 49 = .ok (.iload_n 3, 1) := by decide +kernel
theorem dX10_comes_50 : decode cX10_comes 50 = .ok (.iload_n 2, 1) := by decide +kernel
theorem dX10_comes_51 : decode cX10_comes 51 = .ok (.if_icmp .le 37, 3) := by decide +kernel
theorem dX10_comes_54 : decode cX10_comes 54 = .ok (.aload_n 0, 1) := by decide +kernel
theorem dX10_comes_55 : decode cX10_comes 55 = .ok (.getfield 47, 3) := by decide +kernel
theorem dX10_comes_58 : decode cX10_comes 58 = .ok (.iload_n 3, 1) := by decide +kernel
theorem dX10_comes_59 : decode cX10_comes 59 = .ok (.aload_n 0, 1) := by decide +kernel
theorem dX10_comes_60 : decode cX10_comes 60 = .ok (.getfield 47, 3) := by decide +kernel
theorem dX10_comes_63 : decode cX10_comes 63 = .ok (.iload_n 3, 1) := by decide +kernel
theorem dX10_comes_64 : decode cX10_comes 64 = .ok (.iconst 1, 1) := by decide +kernel
theorem dX10_comes_65 : decode cX10_comes 65 = .ok (.isub, 1) := by decide +kernel
theorem dX10_comes_66 : decode cX10_comes 66 = .ok (.iaload, 1) := by decide +kernel
theorem dX10_comes_67 : decode cX10_comes 67 = .ok (.iastore, 1) := by decide +kernel
theorem dX10_comes_68 : decode cX10_comes 68 = .ok (.aload_n 0, 1) := by decide +kernel
theorem dX10_comes_69 : decode cX10_comes 69 = .ok (.getfield 50, 3) := by decide +kernel
theorem dX10_comes_72 : decode cX10_comes 72 = .ok (.iload_n 3, 1) := by decide +kernel
theorem dX10_comes_73 : decode cX10_comes 73 = .ok (.aload_n 0, 1) := by decide +kernel
theorem dX10_comes_74 : decode cX10_comes 74 = .ok (.getfield 50, 3) := by decide +kernel
theorem dX10_comes_77 : decode cX10_comes 77 = .ok (.iload_n 3, 1) := by decide +kernel
theorem dX10_comes_78 : decode cX10_comes 78 = .ok (.iconst 1, 1) := by decide +kernel
theorem dX10_comes_79 : decode cX10_comes 79 = .ok (.isub, 1) := by decide +kernel
theorem dX10_comes_80 : decode cX10_comes 80 = .ok (.iaload, 1) := by decide +kernel
theorem dX10_comes_81 : decode cX10_comes 81 = .ok (.iastore, 1) := by decide +kernel
theorem dX10_comes_82 : decode cX10_comes 82 = .ok (.iinc 3 (-1), 3) := by decide +kernel
theorem dX10_comes_85 : decode cX10_comes 85 = .ok (.goto (-36), 3) := by decide +kernel
theorem dX10_comes_88 : decode cX10_comes 88 = .ok (.aload_n 0, 1) := by decide +kernel
theorem dX10_comes_89 : decode cX10_comes 89 = .ok (.getfield 47, 3) := by decide +kernel
theorem dX10_comes_92 : decode cX10_comes 92 = .ok (.iload_n 2, 1) := by decide +kernel
theorem dX10_comes_93 : decode cX10_comes 93 = .ok (.iload_n 1, 1) := by decide +kernel
theorem dX10_comes_94 : decode cX10_comes 94 = .ok (.iastore, 1) := by decide +kernel
theorem dX10_comes_95 : decode cX10_comes 95 = .ok (.aload_n 0, 1) := by decide +kernel
theorem dX10_comes_96 : decode cX10_comes 96 = .ok (.getfield 50, 3) := by decide +kernel
theorem dX10_comes_99 : decode cX10_comes 99 = .ok (.iload_n 2, 1) := by decide +kernel
theorem dX10_comes_100 : decode cX10_comes 100 = .ok (.iconst 0, 1) := by decide +kernel
theorem dX10_comes_101 : decode cX10_comes 101 = .ok (.iastore, 1) := by decide +kernel
theorem dX10_comes_102 : decode cX10_comes 102 = .ok (.aload_n 0, 1) := by decide +kernel
theorem dX10_comes_103 : decode cX10_comes 103 = .ok (.dup, 1) := by decide +kernel
theorem dX10_comes_104 : decode cX10_comes 104 = .ok (.getfield 216, 3) := by decide +kernel
theorem dX10_comes_107 : decode cX10_comes 107 = .ok (.iconst 1, 1) := by decide +kernel
theorem dX10_comes_108 : decode cX10_comes 108 = .ok (.iadd, 1) := by decide +kernel
theorem dX10_comes_109 : decode cX10_comes 109 = .ok (.putfield 216, 3) := by decide +kernel
theorem dX10_comes_112 : decode cX10_comes 112 = .ok (.aload_n 0, 1) := by decide +kernel
theorem dX10_comes_113 : decode cX10_comes 113 = .ok (.getfield 50, 3) := by decide +kernel
theorem dX10_comes_116 : decode cX10_comes 116 = .ok (.iload_n 2, 1) := by decide +kernel
theorem dX10_comes_117 : decode cX10_comes 117 = .ok (.dup2, 1) := by decide +kernel
theorem dX10_comes_118 : decode cX10_comes 118 = .ok (.iaload, 1) := by decide +kernel
theorem dX10_comes_119 : decode cX10_comes 119 = .ok (.iconst 1, 1) := by decide +kernel
theorem dX10_comes_120 : decode cX10_comes 120 = .ok (.iadd, 1) := by decide +kernel
theorem dX10_comes_121 : decode cX10_comes 121 = .ok (.iastore, 1) := by decide +kernel
theorem dX10_comes_122 : decode cX10_comes 122 = .ok (.return_, 1) := by decide +kernel
theorem dX10_isBy_0 : decode cX10_isBy 0 = .ok (.iload_n 0, 1) := by decide +kernel
theorem dX10_isBy_1 : decode cX10_isBy 1 = .ok (.i2l, 1) := by decide +kernel
theorem dX10_isBy_2 : decode cX10_isBy 2 = .ok (.lconst 0, 1) := by decide +kernel
theorem dX10_isBy_3 : decode cX10_isBy 3 = .ok (.lconst 1, 1) := by decide +kernel
theorem dX10_isBy_4 : decode cX10_isBy 4 = .ok (.invokestatic 85, 3) := by decide +kernel
theorem dX10_isBy_7 : decode cX10_isBy 7 = .ok (.ireturn, 1) := by decide +kernel
theorem dX10_index_0 : decode cX10_index 0 = .ok (.iload_n 1, 1) := by decide +kernel
theorem dX10_index_1 : decode cX10_index 1 = .ok (.invokestatic 222, 3) := by decide +kernel
theorem dX10_index_4 : decode cX10_index 4 = .ok (.ifCond .ne 5, 3) := by decide +kernel
theorem dX10_index_7 : decode cX10_index 7 = .ok (.iconst (-1), 1) := by decide +kernel
theorem dX10_index_8 : decode cX10_index 8 = .ok (.ireturn, 1) := by decide +kernel
theorem dX10_index_9 : decode cX10_index 9 = .ok (.aload_n 0, 1) := by decide +kernel
theorem dX10_index_10 : decode cX10_index 10 = .ok (.iload_n 1, 1) := by decide +kernel
theorem dX10_index_11 : decode cX10_index 11 = .ok (.invokevirtual 225, 3) := by decide +kernel
theorem dX10_index_14 : decode cX10_index 14 = .ok (.iload_n 2, 1) := by decide +kernel
theorem dX10_index_15 : decode cX10_index 15 = .ok (.iconst (-1), 1) := by decide +kernel
theorem dX10_index_16 : decode cX10_index 16 = .ok (.if_icmp .ne 8, 3) := by decide +kernel
theorem dX10_index_19 : decode cX10_index 19 = .ok (.aload_n 0, 1) := by decide +kernel
theorem dX10_index_20 : decode cX10_index 20 = .ok (.getfield 216, 3) := by decide +kernel
theorem dX10_index_23 : decode cX10_index 23 = .ok (.ireturn, 1) := by decide +kernel
theorem dX10_index_24 : decode cX10_index 24 = .ok (.iload_n 2, 1) := by decide +kernel
theorem dX10_index_25 : decode cX10_index 25 = .ok (.i2l, 1) := by decide +kernel
theorem dX10_index_26 : decode cX10_index 26 = .ok (.lconst 0, 1) := by decide +kernel
theorem dX10_index_27 : decode cX10_index 27 = .ok (.aload_n 0, 1) := by decide +kernel
theorem dX10_index_28 : decode cX10_index 28 = .ok (.getfield 216, 3) := by decide +kernel
theorem dX10_index_31 : decode cX10_index 31 = .ok (.iconst 1, 1) := by decide +kernel
theorem dX10_index_32 : decode cX10_index 32 = .ok (.isub, 1) := by decide +kernel
theorem dX10_index_33 : decode cX10_index 33 = .ok (.i2l, 1) := by decide +kernel
theorem dX10_index_34 : decode cX10_index 34 = .ok (.invokestatic 85, 3) := by decide +kernel
theorem dX10_index_37 : decode cX10_index 37 = .ok (.ifCond .eq 13, 3) := by decide +kernel
theorem dX10_index_40 : decode cX10_index 40 = .ok (.iload_n 3, 1) := by decide +kernel
theorem dX10_index_41 : decode cX10_index 41 = .ok (.i2l, 1) := by decide +kernel
theorem dX10_index_42 : decode cX10_index 42 = .ok (.lconst 0, 1) := by decide +kernel
theorem dX10_index_43 : decode cX10_index 43 = .ok (.lconst 1, 1) := by decide +kernel
theorem dX10_index_44 : decode cX10_index 44 = .ok (.invokestatic 85, 3) := by decide +kernel
theorem dX10_index_47 : decode cX10_index 47 = .ok (.ifCond .ne 5, 3) := by decide +kernel
theorem dX10_index_50 : decode cX10_index 50 = .ok (.iconst (-1), 1) := by decide +kernel
theorem dX10_index_51 : decode cX10_index 51 = .ok (.ireturn, 1) := by decide +kernel
theorem dX10_index_52 : decode cX10_index 52 = .ok (.iload_n 3, 1) := by decide +kernel
theorem dX10_index_53 : decode cX10_index 53 = .ok (.ifCond .ne 12, 3) := by decide +kernel
theorem dX10_index_56 : decode cX10_index 56 = .ok (.aload_n 0, 1) := by decide +kernel
theorem dX10_index_57 : decode cX10_index 57 = .ok (.getfield 47, 3) := by decide +kernel
theorem dX10_index_60 : decode cX10_index 60 = .ok (.iload_n 2, 1) := by decide +kernel
theorem dX10_index_61 : decode cX10_index 61 = .ok (.iaload, 1) := by decide +kernel
theorem dX10_index_62 : decode cX10_index 62 = .ok (.goto 9, 3) := by decide +kernel
theorem dX10_index_65 : decode cX10_index 65 = .ok (.aload_n 0, 1) := by decide +kernel
theorem dX10_index_66 : decode cX10_index 66 = .ok (.getfield 50, 3) := by decide +kernel
theorem dX10_index_69 : decode cX10_index 69 = .ok (.iload_n 2, 1) := by decide +kernel
theorem dX10_index_70 : decode cX10_index 70 = .ok (.iaload, 1) := by decide +kernel
theorem dX10_index_71 : decode cX10_index 71 = .ok (.ireturn, 1) := by decide +kernel
theorem dX10_common_0 : decode cX10_common 0 = .ok (.iload_n 0, 1) := by decide +kernel
theorem dX10_common_1 : decode cX10_common 1 = .ok (.istore_n 2, 1) := by decide +kernel
theorem dX10_common_2 : decode cX10_common 2 = .ok (.iload_n 1, 1) := by decide +kernel
theorem dX10_common_3 : decode cX10_common 3 = .ok (.istore_n 3, 1) := by decide +kernel
theorem dX10_common_4 : decode cX10_common 4 = .ok (.iload_n 3, 1) := by decide +kernel
theorem dX10_common_5 : decode cX10_common 5 = .ok (.ifCond .eq 16, 3) := by decide +kernel
theorem dX10_common_8 : decode cX10_common 8 = .ok (.iload_n 2, 1) := by decide +kernel
theorem dX10_common_9 : decode cX10_common 9 = .ok (.iload_n 3, 1) := by decide +kernel
theorem dX10_common_10 : decode cX10_common 10 = .ok (.irem, 1) := by decide +kernel
theorem dX10_common_11 : decode cX10_common 11 = .ok (.istore 4, 2) := by decide +kernel
theorem dX10_common_13 : decode cX10_common 13 = .ok (.iload_n 3, 1) := by decide +kernel
theorem dX10_common_14 : decode cX10_common 14 = .ok (.istore_n 2, 1) := by decide +kernel
theorem dX10_common_15 : decode cX10_common 15 = .ok (.iload 4, 2) := by decide +kernel
theorem dX10_common_17 : decode cX10_common 17 = .ok (.istore_n 3, 1) := by decide +kernel
theorem dX10_common_18 : decode cX10_common 18 = .ok (.goto (-14), 3) := by decide +kernel
theorem dX10_common_21 : decode cX10_common 21 = .ok (.iload_n 2, 1) := by decide +kernel
theorem dX10_common_22 : decode cX10_common 22 = .ok (.ireturn, 1) := by decide +kernel
theorem dX10_part_0 : decode cX10_part 0 = .ok (.iload_n 1, 1) := by decide +kernel
theorem dX10_part_1 : decode cX10_part 1 = .ok (.invokestatic 222, 3) := by decide +kernel
theorem dX10_part_4 : decode cX10_part 4 = .ok (.ifCond .eq 13, 3) := by decide +kernel
theorem dX10_part_7 : decode cX10_part 7 = .ok (.iload_n 3, 1) := by decide +kernel
theorem dX10_part_8 : decode cX10_part 8 = .ok (.i2l, 1) := by decide +kernel
theorem dX10_part_9 : decode cX10_part 9 = .ok (.lconst 0, 1) := by decide +kernel
theorem dX10_part_10 : decode cX10_part 10 = .ok (.lconst 1, 1) := by decide +kernel
theorem dX10_part_11 : decode cX10_part 11 = .ok (.invokestatic 85, 3) := by decide +kernel
theorem dX10_part_14 : decode cX10_part 14 = .ok (.ifCond .ne 7, 3) := by decide +kernel
theorem dX10_part_17 : decode cX10_part 17 = .ok (.ldc2_w 228, 3) := by decide +kernel
theorem dX10_part_20 : decode cX10_part 20 = .ok (.lreturn, 1) := by decide +kernel
theorem dX10_part_21 : decode cX10_part 21 = .ok (.aload_n 0, 1) := by decide +kernel
theorem dX10_part_22 : decode cX10_part 22 = .ok (.iload_n 1, 1) := by decide +kernel
theorem dX10_part_23 : decode cX10_part 23 = .ok (.invokevirtual 225, 3) := by decide +kernel
theorem dX10_part_26 : decode cX10_part 26 = .ok (.iload_n 2, 1) := by decide +kernel
theorem dX10_part_27 : decode cX10_part 27 = .ok (.i2l, 1) := by decide +kernel
theorem dX10_part_28 : decode cX10_part 28 = .ok (.lconst 0, 1) := by decide +kernel
theorem dX10_part_29 : decode cX10_part 29 = .ok (.aload_n 0, 1) := by decide +kernel
theorem dX10_part_30 : decode cX10_part 30 = .ok (.getfield 216, 3) := by decide +kernel
theorem dX10_part_33 : decode cX10_part 33 = .ok (.iconst 1, 1) := by decide +kernel
theorem dX10_part_34 : decode cX10_part 34 = .ok (.isub, 1) := by decide +kernel
theorem dX10_part_35 : decode cX10_part 35 = .ok (.i2l, 1) := by decide +kernel
theorem dX10_part_36 : decode cX10_part 36 = .ok (.invokestatic 85, 3) := by decide +kernel
theorem dX10_part_39 : decode cX10_part 39 = .ok (.ifCond .ne 7, 3) := by decide +kernel
theorem dX10_part_42 : decode cX10_part 42 = .ok (.ldc2_w 228, 3) := by decide +kernel
theorem dX10_part_45 : decode cX10_part 45 = .ok (.lreturn, 1) := by decide +kernel
theorem dX10_part_46 : decode cX10_part 46 = .ok (.aload_n 0, 1) := by decide +kernel
theorem dX10_part_47 : decode cX10_part 47 = .ok (.iload_n 1, 1) := by decide +kernel
theorem dX10_part_48 : decode cX10_part 48 = .ok (.invokevirtual 180, 3) := by decide +kernel
theorem dX10_part_51 : decode cX10_part 51 = .ok (.istore 4, 2) := by decide +kernel
theorem dX10_part_53 : decode cX10_part 53 = .ok (.iload_n 3, 1) := by decide +kernel
theorem dX10_part_54 : decode cX10_part 54 = .ok (.ifCond .ne 12, 3) := by decide +kernel
theorem dX10_part_57 : decode cX10_part 57 = .ok (.aload_n 0, 1) := by decide +kernel
theorem dX10_part_58 : decode cX10_part 58 = .ok (.getfield 50, 3) := by decide +kernel
theorem dX10_part_61 : decode cX10_part 61 = .ok (.iload_n 2, 1) := by decide +kernel
theorem dX10_part_62 : decode cX10_part 62 = .ok (.iaload, 1) := by decide +kernel
theorem dX10_part_63 : decode cX10_part 63 = .ok (.goto 5, 3) := by decide +kernel
theorem dX10_part_66 : decode cX10_part 66 = .ok (.iload 4, 2) := by decide +kernel
theorem dX10_part_68 : decode cX10_part 68 = .ok (.aload_n 0, 1) := by decide +kernel
theorem dX10_part_69 : decode cX10_part 69 = .ok (.getfield 50, 3) := by decide +kernel
theorem dX10_part_72 : decode cX10_part 72 = .ok (.iload_n 2, 1) := by decide +kernel
theorem dX10_part_73 : decode cX10_part 73 = .ok (.iaload, 1) := by decide +kernel
theorem dX10_part_74 : decode cX10_part 74 = .ok (.iload 4, 2) := by decide +kernel
theorem dX10_part_76 : decode cX10_part 76 = .ok (.invokestatic 230, 3) := by decide +kernel
theorem dX10_part_79 : decode cX10_part 79 = .ok (.idiv, 1) := by decide +kernel
theorem dX10_part_80 : decode cX10_part 80 = .ok (.i2l, 1) := by decide +kernel
theorem dX10_part_81 : decode cX10_part 81 = .ok (.lreturn, 1) := by decide +kernel
theorem dX10_many_0 : decode cX10_many 0 = .ok (.iload_n 1, 1) := by decide +kernel
theorem dX10_many_1 : decode cX10_many 1 = .ok (.invokestatic 222, 3) := by decide +kernel
theorem dX10_many_4 : decode cX10_many 4 = .ok (.ifCond .eq 15, 3) := by decide +kernel
theorem dX10_many_7 : decode cX10_many 7 = .ok (.iload_n 2, 1) := by decide +kernel
theorem dX10_many_8 : decode cX10_many 8 = .ok (.i2l, 1) := by decide +kernel
theorem dX10_many_9 : decode cX10_many 9 = .ok (.lconst 0, 1) := by decide +kernel
theorem dX10_many_10 : decode cX10_many 10 = .ok (.ldc2_w 93, 3) := by decide +kernel
theorem dX10_many_13 : decode cX10_many 13 = .ok (.invokestatic 85, 3) := by decide +kernel
theorem dX10_many_16 : decode cX10_many 16 = .ok (.ifCond .ne 7, 3) := by decide +kernel
theorem dX10_many_19 : decode cX10_many 19 = .ok (.ldc2_w 228, 3) := by decide +kernel
theorem dX10_many_22 : decode cX10_many 22 = .ok (.lreturn, 1) := by decide +kernel
theorem dX10_many_23 : decode cX10_many 23 = .ok (.aload_n 0, 1) := by decide +kernel
theorem dX10_many_24 : decode cX10_many 24 = .ok (.invokevirtual 163, 3) := by decide +kernel
theorem dX10_many_27 : decode cX10_many 27 = .ok (.lconst 0, 1) := by decide +kernel
theorem dX10_many_28 : decode cX10_many 28 = .ok (.lstore_n 3, 1) := by decide +kernel
theorem dX10_many_29 : decode cX10_many 29 = .ok (.iconst 0, 1) := by decide +kernel
theorem dX10_many_30 : decode cX10_many 30 = .ok (.istore 5, 2) := by decide +kernel
theorem dX10_many_32 : decode cX10_many 32 = .ok (.iload 5, 2) := by decide +kernel
theorem dX10_many_34 : decode cX10_many 34 = .ok (.aload_n 0, 1) := by decide +kernel
theorem dX10_many_35 : decode cX10_many 35 = .ok (.getfield 107, 3) := by decide +kernel
theorem dX10_many_38 : decode cX10_many 38 = .ok (.if_icmp .ge 90, 3) := by decide +kernel
theorem dX10_many_41 : decode cX10_many 41 = .ok (.aload_n 0, 1) := by decide +kernel
theorem dX10_many_42 : decode cX10_many 42 = .ok (.iload 5, 2) := by decide +kernel
theorem dX10_many_44 : decode cX10_many 44 = .ok (.iload_n 1, 1) := by decide +kernel
theorem dX10_many_45 : decode cX10_many 45 = .ok (.invokevirtual 132, 3) := by decide +kernel
theorem dX10_many_48 : decode cX10_many 48 = .ok (.ifCond .ne 6, 3) := by decide +kernel
theorem dX10_many_51 : decode cX10_many 51 = .ok (.goto 71, 3) := by decide +kernel
theorem dX10_many_54 : decode cX10_many 54 = .ok (.iconst 0, 1) := by decide +kernel
theorem dX10_many_55 : decode cX10_many 55 = .ok (.istore 6, 2) := by decide +kernel
theorem dX10_many_57 : decode cX10_many 57 = .ok (.iload 6, 2) := by decide +kernel
theorem dX10_many_59 : decode cX10_many 59 = .ok (.aload_n 0, 1) := by decide +kernel
theorem dX10_many_60 : decode cX10_many 60 = .ok (.getfield 15, 3) := by decide +kernel
theorem dX10_many_63 : decode cX10_many 63 = .ok (.iconst 0, 1) := by decide +kernel
theorem dX10_many_64 : decode cX10_many 64 = .ok (.iaload, 1) := by decide +kernel
theorem dX10_many_65 : decode cX10_many 65 = .ok (.if_icmp .ge 24, 3) := by decide +kernel
theorem dX10_many_68 : decode cX10_many 68 = .ok (.aload_n 0, 1) := by decide +kernel
theorem dX10_many_69 : decode cX10_many 69 = .ok (.getfield 34, 3) := by decide +kernel
theorem dX10_many_72 : decode cX10_many 72 = .ok (.iload 6, 2) := by decide +kernel
theorem dX10_many_74 : decode cX10_many 74 = .ok (.aload_n 0, 1) := by decide +kernel
theorem dX10_many_75 : decode cX10_many 75 = .ok (.iload 5, 2) := by decide +kernel
theorem dX10_many_77 : decode cX10_many 77 = .ok (.iload 6, 2) := by decide +kernel
theorem dX10_many_79 : decode cX10_many 79 = .ok (.invokevirtual 95, 3) := by decide +kernel
theorem dX10_many_82 : decode cX10_many 82 = .ok (.iastore, 1) := by decide +kernel
theorem dX10_many_83 : decode cX10_many 83 = .ok (.iinc 6 1, 3) := by decide +kernel
theorem dX10_many_86 : decode cX10_many 86 = .ok (.goto (-29), 3) := by decide +kernel
theorem dX10_many_89 : decode cX10_many 89 = .ok (.lconst 1, 1) := by decide +kernel
theorem dX10_many_90 : decode cX10_many 90 = .ok (.lstore 6, 2) := by decide +kernel
theorem dX10_many_92 : decode cX10_many 92 = .ok (.aload_n 0, 1) := by decide +kernel
theorem dX10_many_93 : decode cX10_many 93 = .ok (.iconst 0, 1) := by decide +kernel
theorem dX10_many_94 : decode cX10_many 94 = .ok (.invokevirtual 144, 3) := by decide +kernel
theorem dX10_many_97 : decode cX10_many 97 = .ok (.istore 8, 2) := by decide +kernel
theorem dX10_many_99 : decode cX10_many 99 = .ok (.iload 8, 2) := by decide +kernel
theorem dX10_many_101 : decode cX10_many 101 = .ok (.ifCond .le 16, 3) := by decide +kernel
theorem dX10_many_104 : decode cX10_many 104 = .ok (.lload 6, 2) := by decide +kernel
theorem dX10_many_106 : decode cX10_many 106 = .ok (.iload_n 2, 1) := by decide +kernel
theorem dX10_many_107 : decode cX10_many 107 = .ok (.i2l, 1) := by decide +kernel
theorem dX10_many_108 : decode cX10_many 108 = .ok (.lmul, 1) := by decide +kernel
theorem dX10_many_109 : decode cX10_many 109 = .ok (.lstore 6, 2) := by decide +kernel
theorem dX10_many_111 : decode cX10_many 111 = .ok (.iinc 8 (-1), 3) := by decide +kernel
theorem dX10_many_114 : decode cX10_many 114 = .ok (.goto (-15), 3) := by decide +kernel
theorem dX10_many_117 : decode cX10_many 117 = .ok (.lload_n 3, 1) := by decide +kernel
theorem dX10_many_118 : decode cX10_many 118 = .ok (.lload 6, 2) := by decide +kernel
theorem dX10_many_120 : decode cX10_many 120 = .ok (.ladd, 1) := by decide +kernel
theorem dX10_many_121 : decode cX10_many 121 = .ok (.lstore_n 3, 1) := by decide +kernel
theorem dX10_many_122 : decode cX10_many 122 = .ok (.iinc 5 1, 3) := by decide +kernel
theorem dX10_many_125 : decode cX10_many 125 = .ok (.goto (-93), 3) := by decide +kernel
theorem dX10_many_128 : decode cX10_many 128 = .ok (.lload_n 3, 1) := by decide +kernel
theorem dX10_many_129 : decode cX10_many 129 = .ok (.aload_n 0, 1) := by decide +kernel
theorem dX10_many_130 : decode cX10_many 130 = .ok (.iload_n 1, 1) := by decide +kernel
theorem dX10_many_131 : decode cX10_many 131 = .ok (.invokevirtual 180, 3) := by decide +kernel
theorem dX10_many_134 : decode cX10_many 134 = .ok (.i2l, 1) := by decide +kernel
theorem dX10_many_135 : decode cX10_many 135 = .ok (.ldiv, 1) := by decide +kernel
theorem dX10_many_136 : decode cX10_many 136 = .ok (.lreturn, 1) := by decide +kernel
theorem dX10_least_0 : decode cX10_least 0 = .ok (.iload_n 1, 1) := by decide +kernel
theorem dX10_least_1 : decode cX10_least 1 = .ok (.invokestatic 222, 3) := by decide +kernel
theorem dX10_least_4 : decode cX10_least 4 = .ok (.ifCond .ne 5, 3) := by decide +kernel
theorem dX10_least_7 : decode cX10_least 7 = .ok (.iconst (-1), 1) := by decide +kernel
theorem dX10_least_8 : decode cX10_least 8 = .ok (.ireturn, 1) := by decide +kernel
theorem dX10_least_9 : decode cX10_least 9 = .ok (.aload_n 0, 1) := by decide +kernel
theorem dX10_least_10 : decode cX10_least 10 = .ok (.iload_n 2, 1) := by decide +kernel
theorem dX10_least_11 : decode cX10_least 11 = .ok (.invokevirtual 233, 3) := by decide +kernel
theorem dX10_least_14 : decode cX10_least 14 = .ok (.istore_n 3, 1) := by decide +kernel
theorem dX10_least_15 : decode cX10_least 15 = .ok (.iload_n 3, 1) := by decide +kernel
theorem dX10_least_16 : decode cX10_least 16 = .ok (.iconst (-1), 1) := by decide +kernel
theorem dX10_least_17 : decode cX10_least 17 = .ok (.if_icmp .ne 6, 3) := by decide +kernel
theorem dX10_least_20 : decode cX10_least 20 = .ok (.bipush (-2), 2) := by decide +kernel
theorem dX10_least_22 : decode cX10_least 22 = .ok (.ireturn, 1) := by decide +kernel
theorem dX10_least_23 : decode cX10_least 23 = .ok (.aload_n 0, 1) := by decide +kernel
theorem dX10_least_24 : decode cX10_least 24 = .ok (.invokevirtual 163, 3) := by decide +kernel
theorem dX10_least_27 : decode cX10_least 27 = .ok (.aload_n 0, 1) := by decide +kernel
theorem dX10_least_28 : decode cX10_least 28 = .ok (.aload_n 0, 1) := by decide +kernel
theorem dX10_least_29 : decode cX10_least 29 = .ok (.iload_n 1, 1) := by decide +kernel
theorem dX10_least_30 : decode cX10_least 30 = .ok (.iload_n 3, 1) := by decide +kernel
theorem dX10_least_31 : decode cX10_least 31 = .ok (.invokevirtual 195, 3) := by decide +kernel
theorem dX10_least_34 : decode cX10_least 34 = .ok (.invokevirtual 236, 3) := by decide +kernel
theorem dX10_least_37 : decode cX10_least 37 = .ok (.ireturn, 1) := by decide +kernel
theorem dX10_size_0 : decode cX10_size 0 = .ok (.iload_n 1, 1) := by decide +kernel
theorem dX10_size_1 : decode cX10_size 1 = .ok (.invokestatic 222, 3) := by decide +kernel
theorem dX10_size_4 : decode cX10_size 4 = .ok (.ifCond .ne 5, 3) := by decide +kernel
theorem dX10_size_7 : decode cX10_size 7 = .ok (.iconst (-1), 1) := by decide +kernel
theorem dX10_size_8 : decode cX10_size 8 = .ok (.ireturn, 1) := by decide +kernel
theorem dX10_size_9 : decode cX10_size 9 = .ok (.aload_n 0, 1) := by decide +kernel
theorem dX10_size_10 : decode cX10_size 10 = .ok (.iload_n 2, 1) := by decide +kernel
theorem dX10_size_11 : decode cX10_size 11 = .ok (.invokevirtual 233, 3) := by decide +kernel
theorem dX10_size_14 : decode cX10_size 14 = .ok (.istore_n 3, 1) := by decide +kernel
theorem dX10_size_15 : decode cX10_size 15 = .ok (.iload_n 3, 1) := by decide +kernel
theorem dX10_size_16 : decode cX10_size 16 = .ok (.iconst (-1), 1) := by decide +kernel
theorem dX10_size_17 : decode cX10_size 17 = .ok (.if_icmp .ne 6, 3) := by decide +kernel
theorem dX10_size_20 : decode cX10_size 20 = .ok (.bipush (-2), 2) := by decide +kernel
theorem dX10_size_22 : decode cX10_size 22 = .ok (.ireturn, 1) := by decide +kernel
theorem dX10_size_23 : decode cX10_size 23 = .ok (.aload_n 0, 1) := by decide +kernel
theorem dX10_size_24 : decode cX10_size 24 = .ok (.invokevirtual 163, 3) := by decide +kernel
theorem dX10_size_27 : decode cX10_size 27 = .ok (.aload_n 0, 1) := by decide +kernel
theorem dX10_size_28 : decode cX10_size 28 = .ok (.iload_n 1, 1) := by decide +kernel
theorem dX10_size_29 : decode cX10_size 29 = .ok (.iload_n 3, 1) := by decide +kernel
theorem dX10_size_30 : decode cX10_size 30 = .ok (.invokevirtual 239, 3) := by decide +kernel
theorem dX10_size_33 : decode cX10_size 33 = .ok (.ireturn, 1) := by decide +kernel
theorem dX10_heavyOf_0 : decode cX10_heavyOf 0 = .ok (.aload_n 0, 1) := by decide +kernel
theorem dX10_heavyOf_1 : decode cX10_heavyOf 1 = .ok (.iload_n 1, 1) := by decide +kernel
theorem dX10_heavyOf_2 : decode cX10_heavyOf 2 = .ok (.invokevirtual 168, 3) := by decide +kernel
theorem dX10_heavyOf_5 : decode cX10_heavyOf 5 = .ok (.iconst 0, 1) := by decide +kernel
theorem dX10_heavyOf_6 : decode cX10_heavyOf 6 = .ok (.istore_n 2, 1) := by decide +kernel
theorem dX10_heavyOf_7 : decode cX10_heavyOf 7 = .ok (.iconst 0, 1) := by decide +kernel
theorem dX10_heavyOf_8 : decode cX10_heavyOf 8 = .ok (.istore_n 3, 1) := by decide +kernel
theorem dX10_heavyOf_9 : decode cX10_heavyOf 9 = .ok (.iload_n 3, 1) := by decide +kernel
theorem dX10_heavyOf_10 : decode cX10_heavyOf 10 = .ok (.aload_n 0, 1) := by decide +kernel
theorem dX10_heavyOf_11 : decode cX10_heavyOf 11 = .ok (.getfield 15, 3) := by decide +kernel
theorem dX10_heavyOf_14 : decode cX10_heavyOf 14 = .ok (.iconst 0, 1) := by decide +kernel
theorem dX10_heavyOf_15 : decode cX10_heavyOf 15 = .ok (.iaload, 1) := by decide +kernel
theorem dX10_heavyOf_16 : decode cX10_heavyOf 16 = .ok (.if_icmp .ge 25, 3) := by decide +kernel
theorem dX10_heavyOf_19 : decode cX10_heavyOf 19 = .ok (.iload_n 2, 1) := by decide +kernel
theorem dX10_heavyOf_20 : decode cX10_heavyOf 20 = .ok (.aload_n 0, 1) := by decide +kernel
theorem dX10_heavyOf_21 : decode cX10_heavyOf 21 = .ok (.getfield 15, 3) := by decide +kernel
theorem dX10_heavyOf_24 : decode cX10_heavyOf 24 = .ok (.iconst 5, 1) := by decide +kernel
theorem dX10_heavyOf_25 : decode cX10_heavyOf 25 = .ok (.aload_n 0, 1) := by decide +kernel
theorem dX10_heavyOf_26 : decode cX10_heavyOf 26 = .ok (.getfield 37, 3) := by decide +kernel
theorem dX10_heavyOf_29 : decode cX10_heavyOf 29 = .ok (.iload_n 3, 1) := by decide +kernel
theorem dX10_heavyOf_30 : decode cX10_heavyOf 30 = .ok (.iaload, 1) := by decide +kernel
theorem dX10_heavyOf_31 : decode cX10_heavyOf 31 = .ok (.iadd, 1) := by decide +kernel
theorem dX10_heavyOf_32 : decode cX10_heavyOf 32 = .ok (.iaload, 1) := by decide +kernel
theorem dX10_heavyOf_33 : decode cX10_heavyOf 33 = .ok (.iadd, 1) := by decide +kernel
theorem dX10_heavyOf_34 : decode cX10_heavyOf 34 = .ok (.istore_n 2, 1) := by decide +kernel
theorem dX10_heavyOf_35 : decode cX10_heavyOf 35 = .ok (.iinc 3 1, 3) := by decide +kernel
theorem dX10_heavyOf_38 : decode cX10_heavyOf 38 = .ok (.goto (-29), 3) := by decide +kernel
theorem dX10_heavyOf_41 : decode cX10_heavyOf 41 = .ok (.iload_n 2, 1) := by decide +kernel
theorem dX10_heavyOf_42 : decode cX10_heavyOf 42 = .ok (.ireturn, 1) := by decide +kernel
theorem dX10_useOf_0 : decode cX10_useOf 0 = .ok (.aload_n 0, 1) := by decide +kernel
theorem dX10_useOf_1 : decode cX10_useOf 1 = .ok (.iload_n 1, 1) := by decide +kernel
theorem dX10_useOf_2 : decode cX10_useOf 2 = .ok (.invokevirtual 168, 3) := by decide +kernel
theorem dX10_useOf_5 : decode cX10_useOf 5 = .ok (.iconst 0, 1) := by decide +kernel
theorem dX10_useOf_6 : decode cX10_useOf 6 = .ok (.istore_n 2, 1) := by decide +kernel
theorem dX10_useOf_7 : decode cX10_useOf 7 = .ok (.iconst 0, 1) := by decide +kernel
theorem dX10_useOf_8 : decode cX10_useOf 8 = .ok (.istore_n 3, 1) := by decide +kernel
theorem dX10_useOf_9 : decode cX10_useOf 9 = .ok (.iload_n 3, 1) := by decide +kernel
theorem dX10_useOf_10 : decode cX10_useOf 10 = .ok (.iconst 4, 1) := by decide +kernel
theorem dX10_useOf_11 : decode cX10_useOf 11 = .ok (.if_icmp .ge 61, 3) := by decide +kernel
theorem dX10_useOf_14 : decode cX10_useOf 14 = .ok (.iconst 0, 1) := by decide +kernel
theorem dX10_useOf_15 : decode cX10_useOf 15 = .ok (.istore 4, 2) := by decide +kernel
theorem dX10_useOf_17 : decode cX10_useOf 17 = .ok (.iconst 0, 1) := by decide +kernel
theorem dX10_useOf_18 : decode cX10_useOf 18 = .ok (.istore 5, 2) := by decide +kernel
theorem dX10_useOf_20 : decode cX10_useOf 20 = .ok (.iload 5, 2) := by decide +kernel
theorem dX10_useOf_22 : decode cX10_useOf 22 = .ok (.aload_n 0, 1) := by decide +kernel
theorem dX10_useOf_23 : decode cX10_useOf 23 = .ok (.getfield 15, 3) := by decide +kernel
theorem dX10_useOf_26 : decode cX10_useOf 26 = .ok (.iconst 0, 1) := by decide +kernel
theorem dX10_useOf_27 : decode cX10_useOf 27 = .ok (.iaload, 1) := by decide +kernel
theorem dX10_useOf_28 : decode cX10_useOf 28 = .ok (.if_icmp .ge 30, 3) := by decide +kernel
theorem dX10_useOf_31 : decode cX10_useOf 31 = .ok (.iload 4, 2) := by decide +kernel
theorem dX10_useOf_33 : decode cX10_useOf 33 = .ok (.aload_n 0, 1) := by decide +kernel
theorem dX10_useOf_34 : decode cX10_useOf 34 = .ok (.getfield 37, 3) := by decide +kernel
theorem dX10_useOf_37 : decode cX10_useOf 37 = .ok (.iload 5, 2) := by decide +kernel
theorem dX10_useOf_39 : decode cX10_useOf 39 = .ok (.iaload, 1) := by decide +kernel
theorem dX10_useOf_40 : decode cX10_useOf 40 = .ok (.iload_n 3, 1) := by decide +kernel
theorem dX10_useOf_41 : decode cX10_useOf 41 = .ok (.if_icmp .ne 7, 3) := by decide +kernel
theorem dX10_useOf_44 : decode cX10_useOf 44 = .ok (.iconst 1, 1) := by decide +kernel
theorem dX10_useOf_45 : decode cX10_useOf 45 = .ok (.goto 4, 3) := by decide +kernel
theorem dX10_useOf_48 : decode cX10_useOf 48 = .ok (.iconst 0, 1) := by decide +kernel
theorem dX10_useOf_49 : decode cX10_useOf 49 = .ok (.iadd, 1) := by decide +kernel
theorem dX10_useOf_50 : decode cX10_useOf 50 = .ok (.istore 4, 2) := by decide +kernel
theorem dX10_useOf_52 : decode cX10_useOf 52 = .ok (.iinc 5 1, 3) := by decide +kernel
theorem dX10_useOf_55 : decode cX10_useOf 55 = .ok (.goto (-35), 3) := by decide +kernel
theorem dX10_useOf_58 : decode cX10_useOf 58 = .ok (.bipush 10, 2) := by decide +kernel
theorem dX10_useOf_60 : decode cX10_useOf 60 = .ok (.iload_n 2, 1) := by decide +kernel
theorem dX10_useOf_61 : decode cX10_useOf 61 = .ok (.imul, 1) := by decide +kernel
theorem dX10_useOf_62 : decode cX10_useOf 62 = .ok (.iload 4, 2) := by decide +kernel
theorem dX10_useOf_64 : decode cX10_useOf 64 = .ok (.iadd, 1) := by decide +kernel
theorem dX10_useOf_65 : decode cX10_useOf 65 = .ok (.istore_n 2, 1) := by decide +kernel
theorem dX10_useOf_66 : decode cX10_useOf 66 = .ok (.iinc 3 1, 3) := by decide +kernel
theorem dX10_useOf_69 : decode cX10_useOf 69 = .ok (.goto (-60), 3) := by decide +kernel
theorem dX10_useOf_72 : decode cX10_useOf 72 = .ok (.iload_n 2, 1) := by decide +kernel
theorem dX10_useOf_73 : decode cX10_useOf 73 = .ok (.ireturn, 1) := by decide +kernel
theorem dX10_kindOf_0 : decode cX10_kindOf 0 = .ok (.iload_n 1, 1) := by decide +kernel
theorem dX10_kindOf_1 : decode cX10_kindOf 1 = .ok (.invokestatic 222, 3) := by decide +kernel
theorem dX10_kindOf_4 : decode cX10_kindOf 4 = .ok (.ifCond .eq 15, 3) := by decide +kernel
theorem dX10_kindOf_7 : decode cX10_kindOf 7 = .ok (.iload_n 3, 1) := by decide +kernel
theorem dX10_kindOf_8 : decode cX10_kindOf 8 = .ok (.i2l, 1) := by decide +kernel
theorem dX10_kindOf_9 : decode cX10_kindOf 9 = .ok (.lconst 0, 1) := by decide +kernel
theorem dX10_kindOf_10 : decode cX10_kindOf 10 = .ok (.ldc2_w 91, 3) := by decide +kernel
theorem dX10_kindOf_13 : decode cX10_kindOf 13 = .ok (.invokestatic 85, 3) := by decide +kernel
theorem dX10_kindOf_16 : decode cX10_kindOf 16 = .ok (.ifCond .ne 5, 3) := by decide +kernel
theorem dX10_kindOf_19 : decode cX10_kindOf 19 = .ok (.iconst (-1), 1) := by decide +kernel
theorem dX10_kindOf_20 : decode cX10_kindOf 20 = .ok (.ireturn, 1) := by decide +kernel
theorem dX10_kindOf_21 : decode cX10_kindOf 21 = .ok (.aload_n 0, 1) := by decide +kernel
theorem dX10_kindOf_22 : decode cX10_kindOf 22 = .ok (.iload_n 1, 1) := by decide +kernel
theorem dX10_kindOf_23 : decode cX10_kindOf 23 = .ok (.invokevirtual 204, 3) := by decide +kernel
theorem dX10_kindOf_26 : decode cX10_kindOf 26 = .ok (.iload_n 2, 1) := by decide +kernel
theorem dX10_kindOf_27 : decode cX10_kindOf 27 = .ok (.i2l, 1) := by decide +kernel
theorem dX10_kindOf_28 : decode cX10_kindOf 28 = .ok (.lconst 0, 1) := by decide +kernel
theorem dX10_kindOf_29 : decode cX10_kindOf 29 = .ok (.aload_n 0, 1) := by decide +kernel
theorem dX10_kindOf_30 : decode cX10_kindOf 30 = .ok (.getfield 183, 3) := by decide +kernel
theorem dX10_kindOf_33 : decode cX10_kindOf 33 = .ok (.iconst 1, 1) := by decide +kernel
theorem dX10_kindOf_34 : decode cX10_kindOf 34 = .ok (.isub, 1) := by decide +kernel
theorem dX10_kindOf_35 : decode cX10_kindOf 35 = .ok (.i2l, 1) := by decide +kernel
theorem dX10_kindOf_36 : decode cX10_kindOf 36 = .ok (.invokestatic 85, 3) := by decide +kernel
theorem dX10_kindOf_39 : decode cX10_kindOf 39 = .ok (.ifCond .ne 5, 3) := by decide +kernel
theorem dX10_kindOf_42 : decode cX10_kindOf 42 = .ok (.iconst (-1), 1) := by decide +kernel
theorem dX10_kindOf_43 : decode cX10_kindOf 43 = .ok (.ireturn, 1) := by decide +kernel
theorem dX10_kindOf_44 : decode cX10_kindOf 44 = .ok (.aload_n 0, 1) := by decide +kernel
theorem dX10_kindOf_45 : decode cX10_kindOf 45 = .ok (.getfield 40, 3) := by decide +kernel
theorem dX10_kindOf_48 : decode cX10_kindOf 48 = .ok (.iload_n 2, 1) := by decide +kernel
theorem dX10_kindOf_49 : decode cX10_kindOf 49 = .ok (.iaload, 1) := by decide +kernel
theorem dX10_kindOf_50 : decode cX10_kindOf 50 = .ok (.istore 4, 2) := by decide +kernel
theorem dX10_kindOf_52 : decode cX10_kindOf 52 = .ok (.iload_n 3, 1) := by decide +kernel
theorem dX10_kindOf_53 : decode cX10_kindOf 53 = .ok (.ifCond .ne 12, 3) := by decide +kernel
theorem dX10_kindOf_56 : decode cX10_kindOf 56 = .ok (.aload_n 0, 1) := by decide +kernel
theorem dX10_kindOf_57 : decode cX10_kindOf 57 = .ok (.iload 4, 2) := by decide +kernel
theorem dX10_kindOf_59 : decode cX10_kindOf 59 = .ok (.invokevirtual 236, 3) := by decide +kernel
theorem dX10_kindOf_62 : decode cX10_kindOf 62 = .ok (.goto 38, 3) := by decide +kernel
theorem dX10_kindOf_65 : decode cX10_kindOf 65 = .ok (.iload_n 3, 1) := by decide +kernel
theorem dX10_kindOf_66 : decode cX10_kindOf 66 = .ok (.iconst 1, 1) := by decide +kernel
theorem dX10_kindOf_67 : decode cX10_kindOf 67 = .ok (.if_icmp .ne 13, 3) := by decide +kernel
theorem dX10_kindOf_70 : decode cX10_kindOf 70 = .ok (.aload_n 0, 1) := by decide +kernel
theorem dX10_kindOf_71 : decode cX10_kindOf 71 = .ok (.iload_n 1, 1) := by decide +kernel
theorem dX10_kindOf_72 : decode cX10_kindOf 72 = .ok (.iload 4, 2) := by decide +kernel
theorem dX10_kindOf_74 : decode cX10_kindOf 74 = .ok (.invokevirtual 239, 3) := by decide +kernel
theorem dX10_kindOf_77 : decode cX10_kindOf 77 = .ok (.goto 23, 3) := by decide +kernel
theorem dX10_kindOf_80 : decode cX10_kindOf 80 = .ok (.iload_n 3, 1) := by decide +kernel
theorem dX10_kindOf_81 : decode cX10_kindOf 81 = .ok (.iconst 2, 1) := by decide +kernel
theorem dX10_kindOf_82 : decode cX10_kindOf 82 = .ok (.if_icmp .ne 12, 3) := by decide +kernel
theorem dX10_kindOf_85 : decode cX10_kindOf 85 = .ok (.aload_n 0, 1) := by decide +kernel
theorem dX10_kindOf_86 : decode cX10_kindOf 86 = .ok (.iload 4, 2) := by decide +kernel
theorem dX10_kindOf_88 : decode cX10_kindOf 88 = .ok (.invokevirtual 242, 3) := by decide +kernel
theorem dX10_kindOf_91 : decode cX10_kindOf 91 = .ok (.goto 9, 3) := by decide +kernel
theorem dX10_kindOf_94 : decode cX10_kindOf 94 = .ok (.aload_n 0, 1) := by decide +kernel
theorem dX10_kindOf_95 : decode cX10_kindOf 95 = .ok (.iload 4, 2) := by decide +kernel
theorem dX10_kindOf_97 : decode cX10_kindOf 97 = .ok (.invokevirtual 245, 3) := by decide +kernel
theorem dX10_kindOf_100 : decode cX10_kindOf 100 = .ok (.ireturn, 1) := by decide +kernel
theorem dX10_heavy_0 : decode cX10_heavy 0 = .ok (.iload_n 1, 1) := by decide +kernel
theorem dX10_heavy_1 : decode cX10_heavy 1 = .ok (.invokestatic 222, 3) := by decide +kernel
theorem dX10_heavy_4 : decode cX10_heavy 4 = .ok (.ifCond .ne 5, 3) := by decide +kernel
theorem dX10_heavy_7 : decode cX10_heavy 7 = .ok (.iconst (-1), 1) := by decide +kernel
theorem dX10_heavy_8 : decode cX10_heavy 8 = .ok (.ireturn, 1) := by decide +kernel
theorem dX10_heavy_9 : decode cX10_heavy 9 = .ok (.iload_n 2, 1) := by decide +kernel
theorem dX10_heavy_10 : decode cX10_heavy 10 = .ok (.i2l, 1) := by decide +kernel
theorem dX10_heavy_11 : decode cX10_heavy 11 = .ok (.lconst 0, 1) := by decide +kernel
theorem dX10_heavy_12 : decode cX10_heavy 12 = .ok (.ldc2_w 248, 3) := by decide +kernel
theorem dX10_heavy_15 : decode cX10_heavy 15 = .ok (.invokestatic 85, 3) := by decide +kernel
theorem dX10_heavy_18 : decode cX10_heavy 18 = .ok (.ifCond .ne 6, 3) := by decide +kernel
theorem dX10_heavy_21 : decode cX10_heavy 21 = .ok (.bipush (-2), 2) := by decide +kernel
theorem dX10_heavy_23 : decode cX10_heavy 23 = .ok (.ireturn, 1) := by decide +kernel
theorem dX10_heavy_24 : decode cX10_heavy 24 = .ok (.aload_n 0, 1) := by decide +kernel
theorem dX10_heavy_25 : decode cX10_heavy 25 = .ok (.iload_n 1, 1) := by decide +kernel
theorem dX10_heavy_26 : decode cX10_heavy 26 = .ok (.invokevirtual 204, 3) := by decide +kernel
theorem dX10_heavy_29 : decode cX10_heavy 29 = .ok (.iconst 0, 1) := by decide +kernel
theorem dX10_heavy_30 : decode cX10_heavy 30 = .ok (.istore_n 3, 1) := by decide +kernel
theorem dX10_heavy_31 : decode cX10_heavy 31 = .ok (.iconst 0, 1) := by decide +kernel
theorem dX10_heavy_32 : decode cX10_heavy 32 = .ok (.istore 4, 2) := by decide +kernel
theorem dX10_heavy_34 : decode cX10_heavy 34 = .ok (.iload 4, 2) := by decide +kernel
theorem dX10_heavy_36 : decode cX10_heavy 36 = .ok (.aload_n 0, 1) := by decide +kernel
theorem dX10_heavy_37 : decode cX10_heavy 37 = .ok (.getfield 183, 3) := by decide +kernel
theorem dX10_heavy_40 : decode cX10_heavy 40 = .ok (.if_icmp .ge 32, 3) := by decide +kernel
theorem dX10_heavy_43 : decode cX10_heavy 43 = .ok (.iload_n 3, 1) := by decide +kernel
theorem dX10_heavy_44 : decode cX10_heavy 44 = .ok (.aload_n 0, 1) := by decide +kernel
theorem dX10_heavy_45 : decode cX10_heavy 45 = .ok (.aload_n 0, 1) := by decide +kernel
theorem dX10_heavy_46 : decode cX10_heavy 46 = .ok (.getfield 40, 3) := by decide +kernel
theorem dX10_heavy_49 : decode cX10_heavy 49 = .ok (.iload 4, 2) := by decide +kernel
theorem dX10_heavy_51 : decode cX10_heavy 51 = .ok (.iaload, 1) := by decide +kernel
theorem dX10_heavy_52 : decode cX10_heavy 52 = .ok (.invokevirtual 242, 3) := by decide +kernel
theorem dX10_heavy_55 : decode cX10_heavy 55 = .ok (.iload_n 2, 1) := by decide +kernel
theorem dX10_heavy_56 : decode cX10_heavy 56 = .ok (.if_icmp .ne 7, 3) := by decide +kernel
theorem dX10_heavy_59 : decode cX10_heavy 59 = .ok (.iconst 1, 1) := by decide +kernel
theorem dX10_heavy_60 : decode cX10_heavy 60 = .ok (.goto 4, 3) := by decide +kernel
theorem dX10_heavy_63 : decode cX10_heavy 63 = .ok (.iconst 0, 1) := by decide +kernel
theorem dX10_heavy_64 : decode cX10_heavy 64 = .ok (.iadd, 1) := by decide +kernel
theorem dX10_heavy_65 : decode cX10_heavy 65 = .ok (.istore_n 3, 1) := by decide +kernel
theorem dX10_heavy_66 : decode cX10_heavy 66 = .ok (.iinc 4 1, 3) := by decide +kernel
theorem dX10_heavy_69 : decode cX10_heavy 69 = .ok (.goto (-35), 3) := by decide +kernel
theorem dX10_heavy_72 : decode cX10_heavy 72 = .ok (.iload_n 3, 1) := by decide +kernel
theorem dX10_heavy_73 : decode cX10_heavy 73 = .ok (.ireturn, 1) := by decide +kernel
theorem dX10_use_0 : decode cX10_use 0 = .ok (.iload_n 1, 1) := by decide +kernel
theorem dX10_use_1 : decode cX10_use 1 = .ok (.invokestatic 222, 3) := by decide +kernel
theorem dX10_use_4 : decode cX10_use 4 = .ok (.ifCond .ne 5, 3) := by decide +kernel
theorem dX10_use_7 : decode cX10_use 7 = .ok (.iconst (-1), 1) := by decide +kernel
theorem dX10_use_8 : decode cX10_use 8 = .ok (.ireturn, 1) := by decide +kernel
theorem dX10_use_9 : decode cX10_use 9 = .ok (.iload_n 2, 1) := by decide +kernel
theorem dX10_use_10 : decode cX10_use 10 = .ok (.i2l, 1) := by decide +kernel
theorem dX10_use_11 : decode cX10_use 11 = .ok (.lconst 0, 1) := by decide +kernel
theorem dX10_use_12 : decode cX10_use 12 = .ok (.ldc2_w 250, 3) := by decide +kernel
theorem dX10_use_15 : decode cX10_use 15 = .ok (.invokestatic 85, 3) := by decide +kernel
theorem dX10_use_18 : decode cX10_use 18 = .ok (.ifCond .ne 6, 3) := by decide +kernel
theorem dX10_use_21 : decode cX10_use 21 = .ok (.bipush (-2), 2) := by decide +kernel
theorem dX10_use_23 : decode cX10_use 23 = .ok (.ireturn, 1) := by decide +kernel
theorem dX10_use_24 : decode cX10_use 24 = .ok (.aload_n 0, 1) := by decide +kernel
theorem dX10_use_25 : decode cX10_use 25 = .ok (.iload_n 1, 1) := by decide +kernel
theorem dX10_use_26 : decode cX10_use 26 = .ok (.invokevirtual 204, 3) := by decide +kernel
theorem dX10_use_29 : decode cX10_use 29 = .ok (.iconst 0, 1) := by decide +kernel
theorem dX10_use_30 : decode cX10_use 30 = .ok (.istore_n 3, 1) := by decide +kernel
theorem dX10_use_31 : decode cX10_use 31 = .ok (.iconst 0, 1) := by decide +kernel
theorem dX10_use_32 : decode cX10_use 32 = .ok (.istore 4, 2) := by decide +kernel
theorem dX10_use_34 : decode cX10_use 34 = .ok (.iload 4, 2) := by decide +kernel
theorem dX10_use_36 : decode cX10_use 36 = .ok (.aload_n 0, 1) := by decide +kernel
theorem dX10_use_37 : decode cX10_use 37 = .ok (.getfield 183, 3) := by decide +kernel
theorem dX10_use_40 : decode cX10_use 40 = .ok (.if_icmp .ge 32, 3) := by decide +kernel
theorem dX10_use_43 : decode cX10_use 43 = .ok (.iload_n 3, 1) := by decide +kernel
theorem dX10_use_44 : decode cX10_use 44 = .ok (.aload_n 0, 1) := by decide +kernel
theorem dX10_use_45 : decode cX10_use 45 = .ok (.aload_n 0, 1) := by decide +kernel
theorem dX10_use_46 : decode cX10_use 46 = .ok (.getfield 40, 3) := by decide +kernel
theorem dX10_use_49 : decode cX10_use 49 = .ok (.iload 4, 2) := by decide +kernel
theorem dX10_use_51 : decode cX10_use 51 = .ok (.iaload, 1) := by decide +kernel
theorem dX10_use_52 : decode cX10_use 52 = .ok (.invokevirtual 245, 3) := by decide +kernel
theorem dX10_use_55 : decode cX10_use 55 = .ok (.iload_n 2, 1) := by decide +kernel
theorem dX10_use_56 : decode cX10_use 56 = .ok (.if_icmp .ne 7, 3) := by decide +kernel
theorem dX10_use_59 : decode cX10_use 59 = .ok (.iconst 1, 1) := by decide +kernel
theorem dX10_use_60 : decode cX10_use 60 = .ok (.goto 4, 3) := by decide +kernel
theorem dX10_use_63 : decode cX10_use 63 = .ok (.iconst 0, 1) := by decide +kernel
theorem dX10_use_64 : decode cX10_use 64 = .ok (.iadd, 1) := by decide +kernel
theorem dX10_use_65 : decode cX10_use 65 = .ok (.istore_n 3, 1) := by decide +kernel
theorem dX10_use_66 : decode cX10_use 66 = .ok (.iinc 4 1, 3) := by decide +kernel
theorem dX10_use_69 : decode cX10_use 69 = .ok (.goto (-35), 3) := by decide +kernel
theorem dX10_use_72 : decode cX10_use 72 = .ok (.iload_n 3, 1) := by decide +kernel
theorem dX10_use_73 : decode cX10_use 73 = .ok (.ireturn, 1) := by decide +kernel
theorem dX10_same_0 : decode cX10_same 0 = .ok (.iload_n 1, 1) := by decide +kernel
theorem dX10_same_1 : decode cX10_same 1 = .ok (.invokestatic 222, 3) := by decide +kernel
theorem dX10_same_4 : decode cX10_same 4 = .ok (.ifCond .ne 5, 3) := by decide +kernel
theorem dX10_same_7 : decode cX10_same 7 = .ok (.iconst (-1), 1) := by decide +kernel
theorem dX10_same_8 : decode cX10_same 8 = .ok (.ireturn, 1) := by decide +kernel
theorem dX10_same_9 : decode cX10_same 9 = .ok (.aload_n 0, 1) := by decide +kernel
theorem dX10_same_10 : decode cX10_same 10 = .ok (.iload_n 2, 1) := by decide +kernel
theorem dX10_same_11 : decode cX10_same 11 = .ok (.invokevirtual 233, 3) := by decide +kernel
theorem dX10_same_14 : decode cX10_same 14 = .ok (.istore 4, 2) := by decide +kernel
theorem dX10_same_16 : decode cX10_same 16 = .ok (.aload_n 0, 1) := by decide +kernel
theorem dX10_same_17 : decode cX10_same 17 = .ok (.iload_n 3, 1) := by decide +kernel
theorem dX10_same_18 : decode cX10_same 18 = .ok (.invokevirtual 233, 3) := by decide +kernel
theorem dX10_same_21 : decode cX10_same 21 = .ok (.istore 5, 2) := by decide +kernel
theorem dX10_same_23 : decode cX10_same 23 = .ok (.iload 4, 2) := by decide +kernel
theorem dX10_same_25 : decode cX10_same 25 = .ok (.iconst (-1), 1) := by decide +kernel
theorem dX10_same_26 : decode cX10_same 26 = .ok (.if_icmp .eq 9, 3) := by decide +kernel
theorem dX10_same_29 : decode cX10_same 29 = .ok (.iload 5, 2) := by decide +kernel
theorem dX10_same_31 : decode cX10_same 31 = .ok (.iconst (-1), 1) := by decide +kernel
theorem dX10_same_32 : decode cX10_same 32 = .ok (.if_icmp .ne 6, 3) := by decide +kernel
theorem dX10_same_35 : decode cX10_same 35 = .ok (.bipush (-2), 2) := by decide +kernel
theorem dX10_same_37 : decode cX10_same 37 = .ok (.ireturn, 1) := by decide +kernel
theorem dX10_same_38 : decode cX10_same 38 = .ok (.aload_n 0, 1) := by decide +kernel
theorem dX10_same_39 : decode cX10_same 39 = .ok (.invokevirtual 163, 3) := by decide +kernel
theorem dX10_same_42 : decode cX10_same 42 = .ok (.aload_n 0, 1) := by decide +kernel
theorem dX10_same_43 : decode cX10_same 43 = .ok (.iload_n 1, 1) := by decide +kernel
theorem dX10_same_44 : decode cX10_same 44 = .ok (.iload 4, 2) := by decide +kernel
theorem dX10_same_46 : decode cX10_same 46 = .ok (.invokevirtual 195, 3) := by decide +kernel
theorem dX10_same_49 : decode cX10_same 49 = .ok (.aload_n 0, 1) := by decide +kernel
theorem dX10_same_50 : decode cX10_same 50 = .ok (.iload_n 1, 1) := by decide +kernel
theorem dX10_same_51 : decode cX10_same 51 = .ok (.iload 5, 2) := by decide +kernel
theorem dX10_same_53 : decode cX10_same 53 = .ok (.invokevirtual 195, 3) := by decide +kernel
theorem dX10_same_56 : decode cX10_same 56 = .ok (.if_icmp .ne 7, 3) := by decide +kernel
theorem dX10_same_59 : decode cX10_same 59 = .ok (.iconst 1, 1) := by decide +kernel
theorem dX10_same_60 : decode cX10_same 60 = .ok (.goto 4, 3) := by decide +kernel
theorem dX10_same_63 : decode cX10_same 63 = .ok (.iconst 0, 1) := by decide +kernel
theorem dX10_same_64 : decode cX10_same 64 = .ok (.ireturn, 1) := by decide +kernel
theorem dX10_handed_0 : decode cX10_handed 0 = .ok (.iload_n 2, 1) := by decide +kernel
theorem dX10_handed_1 : decode cX10_handed 1 = .ok (.i2l, 1) := by decide +kernel
theorem dX10_handed_2 : decode cX10_handed 2 = .ok (.lconst 0, 1) := by decide +kernel
theorem dX10_handed_3 : decode cX10_handed 3 = .ok (.lconst 1, 1) := by decide +kernel
theorem dX10_handed_4 : decode cX10_handed 4 = .ok (.invokestatic 85, 3) := by decide +kernel
theorem dX10_handed_7 : decode cX10_handed 7 = .ok (.ifCond .ne 5, 3) := by decide +kernel
theorem dX10_handed_10 : decode cX10_handed 10 = .ok (.iconst (-1), 1) := by decide +kernel
theorem dX10_handed_11 : decode cX10_handed 11 = .ok (.ireturn, 1) := by decide +kernel
theorem dX10_handed_12 : decode cX10_handed 12 = .ok (.aload_n 0, 1) := by decide +kernel
theorem dX10_handed_13 : decode cX10_handed 13 = .ok (.iload_n 1, 1) := by decide +kernel
theorem dX10_handed_14 : decode cX10_handed 14 = .ok (.invokevirtual 233, 3) := by decide +kernel
theorem dX10_handed_17 : decode cX10_handed 17 = .ok (.istore_n 3, 1) := by decide +kernel
theorem dX10_handed_18 : decode cX10_handed 18 = .ok (.iload_n 3, 1) := by decide +kernel
theorem dX10_handed_19 : decode cX10_handed 19 = .ok (.iconst (-1), 1) := by decide +kernel
theorem dX10_handed_20 : decode cX10_handed 20 = .ok (.if_icmp .ne 6, 3) := by decide +kernel
theorem dX10_handed_23 : decode cX10_handed 23 = .ok (.bipush (-2), 2) := by decide +kernel
theorem dX10_handed_25 : decode cX10_handed 25 = .ok (.ireturn, 1) := by decide +kernel
theorem dX10_handed_26 : decode cX10_handed 26 = .ok (.aload_n 0, 1) := by decide +kernel
theorem dX10_handed_27 : decode cX10_handed 27 = .ok (.invokevirtual 163, 3) := by decide +kernel
theorem dX10_handed_30 : decode cX10_handed 30 = .ok (.iload_n 2, 1) := by decide +kernel
theorem dX10_handed_31 : decode cX10_handed 31 = .ok (.ifCond .ne 17, 3) := by decide +kernel
theorem dX10_handed_34 : decode cX10_handed 34 = .ok (.aload_n 0, 1) := by decide +kernel
theorem dX10_handed_35 : decode cX10_handed 35 = .ok (.iload_n 3, 1) := by decide +kernel
theorem dX10_handed_36 : decode cX10_handed 36 = .ok (.invokevirtual 207, 3) := by decide +kernel
theorem dX10_handed_39 : decode cX10_handed 39 = .ok (.ifCond .eq 7, 3) := by decide +kernel
theorem dX10_handed_42 : decode cX10_handed 42 = .ok (.iconst 1, 1) := by decide +kernel
theorem dX10_handed_43 : decode cX10_handed 43 = .ok (.goto 4, 3) := by decide +kernel
theorem dX10_handed_46 : decode cX10_handed 46 = .ok (.iconst 0, 1) := by decide +kernel
theorem dX10_handed_47 : decode cX10_handed 47 = .ok (.ireturn, 1) := by decide +kernel
theorem dX10_handed_48 : decode cX10_handed 48 = .ok (.aload_n 0, 1) := by decide +kernel
theorem dX10_handed_49 : decode cX10_handed 49 = .ok (.invokevirtual 198, 3) := by decide +kernel
theorem dX10_handed_52 : decode cX10_handed 52 = .ok (.ifCond .ne 8, 3) := by decide +kernel
theorem dX10_handed_55 : decode cX10_handed 55 = .ok (.bipush (-5), 2) := by decide +kernel
theorem dX10_handed_57 : decode cX10_handed 57 = .ok (.goto 12, 3) := by decide +kernel
theorem dX10_handed_60 : decode cX10_handed 60 = .ok (.aload_n 0, 1) := by decide +kernel
theorem dX10_handed_61 : decode cX10_handed 61 = .ok (.aload_n 0, 1) := by decide +kernel
theorem dX10_handed_62 : decode cX10_handed 62 = .ok (.iload_n 3, 1) := by decide +kernel
theorem dX10_handed_63 : decode cX10_handed 63 = .ok (.invokevirtual 201, 3) := by decide +kernel
theorem dX10_handed_66 : decode cX10_handed 66 = .ok (.invokevirtual 236, 3) := by decide +kernel
theorem dX10_handed_69 : decode cX10_handed 69 = .ok (.ireturn, 1) := by decide +kernel
theorem dX10_even_0 : decode cX10_even 0 = .ok (.iload_n 1, 1) := by decide +kernel
theorem dX10_even_1 : decode cX10_even 1 = .ok (.invokestatic 222, 3) := by decide +kernel
theorem dX10_even_4 : decode cX10_even 4 = .ok (.ifCond .eq 21, 3) := by decide +kernel
theorem dX10_even_7 : decode cX10_even 7 = .ok (.aload_n 0, 1) := by decide +kernel
theorem dX10_even_8 : decode cX10_even 8 = .ok (.iload_n 1, 1) := by decide +kernel
theorem dX10_even_9 : decode cX10_even 9 = .ok (.invokevirtual 210, 3) := by decide +kernel
theorem dX10_even_12 : decode cX10_even 12 = .ok (.i2f, 1) := by decide +kernel
theorem dX10_even_13 : decode cX10_even 13 = .ok (.aload_n 0, 1) := by decide +kernel
theorem dX10_even_14 : decode cX10_even 14 = .ok (.invokevirtual 186, 3) := by decide +kernel
theorem dX10_even_17 : decode cX10_even 17 = .ok (.i2f, 1) := by decide +kernel
theorem dX10_even_18 : decode cX10_even 18 = .ok (.fdiv, 1) := by decide +kernel
theorem dX10_even_19 : decode cX10_even 19 = .ok (.invokestatic 252, 3) := by decide +kernel
theorem dX10_even_22 : decode cX10_even 22 = .ok (.goto 4, 3) := by decide +kernel
theorem dX10_even_25 : decode cX10_even 25 = .ok (.iconst (-1), 1) := by decide +kernel
theorem dX10_even_26 : decode cX10_even 26 = .ok (.ireturn, 1) := by decide +kernel
theorem dX10_likely_0 : decode cX10_likely 0 = .ok (.aload_n 0, 1) := by decide +kernel
theorem dX10_likely_1 : decode cX10_likely 1 = .ok (.iload_n 2, 1) := by decide +kernel
theorem dX10_likely_2 : decode cX10_likely 2 = .ok (.invokevirtual 233, 3) := by decide +kernel
theorem dX10_likely_5 : decode cX10_likely 5 = .ok (.istore_n 3, 1) := by decide +kernel
theorem dX10_likely_6 : decode cX10_likely 6 = .ok (.iload_n 1, 1) := by decide +kernel
theorem dX10_likely_7 : decode cX10_likely 7 = .ok (.invokestatic 222, 3) := by decide +kernel
theorem dX10_likely_10 : decode cX10_likely 10 = .ok (.ifCond .eq 8, 3) := by decide +kernel
theorem dX10_likely_13 : decode cX10_likely 13 = .ok (.iload_n 3, 1) := by decide +kernel
theorem dX10_likely_14 : decode cX10_likely 14 = .ok (.iconst (-1), 1) := by decide +kernel
theorem dX10_likely_15 : decode cX10_likely 15 = .ok (.if_icmp .ne 7, 3) := by decide +kernel
theorem dX10_likely_18 : decode cX10_likely 18 = .ok (.ldc2_w 228, 3) := by decide +kernel
theorem dX10_likely_21 : decode cX10_likely 21 = .ok (.lreturn, 1) := by decide +kernel
theorem dX10_likely_22 : decode cX10_likely 22 = .ok (.aload_n 0, 1) := by decide +kernel
theorem dX10_likely_23 : decode cX10_likely 23 = .ok (.invokevirtual 163, 3) := by decide +kernel
theorem dX10_likely_26 : decode cX10_likely 26 = .ok (.aload_n 0, 1) := by decide +kernel
theorem dX10_likely_27 : decode cX10_likely 27 = .ok (.iload_n 1, 1) := by decide +kernel
theorem dX10_likely_28 : decode cX10_likely 28 = .ok (.iload_n 3, 1) := by decide +kernel
theorem dX10_likely_29 : decode cX10_likely 29 = .ok (.invokevirtual 239, 3) := by decide +kernel
theorem dX10_likely_32 : decode cX10_likely 32 = .ok (.i2d, 1) := by decide +kernel
theorem dX10_likely_33 : decode cX10_likely 33 = .ok (.aload_n 0, 1) := by decide +kernel
theorem dX10_likely_34 : decode cX10_likely 34 = .ok (.invokevirtual 186, 3) := by decide +kernel
theorem dX10_likely_37 : decode cX10_likely 37 = .ok (.i2d, 1) := by decide +kernel
theorem dX10_likely_38 : decode cX10_likely 38 = .ok (.ddiv, 1) := by decide +kernel
theorem dX10_likely_39 : decode cX10_likely 39 = .ok (.invokestatic 258, 3) := by decide +kernel
theorem dX10_likely_42 : decode cX10_likely 42 = .ok (.lreturn, 1) := by decide +kernel
theorem dX10_mean_0 : decode cX10_mean 0 = .ok (.aload_n 0, 1) := by decide +kernel
theorem dX10_mean_1 : decode cX10_mean 1 = .ok (.iload_n 1, 1) := by decide +kernel
theorem dX10_mean_2 : decode cX10_mean 2 = .ok (.invokevirtual 233, 3) := by decide +kernel
theorem dX10_mean_5 : decode cX10_mean 5 = .ok (.istore_n 3, 1) := by decide +kernel
theorem dX10_mean_6 : decode cX10_mean 6 = .ok (.iload_n 3, 1) := by decide +kernel
theorem dX10_mean_7 : decode cX10_mean 7 = .ok (.iconst (-1), 1) := by decide +kernel
theorem dX10_mean_8 : decode cX10_mean 8 = .ok (.if_icmp .ne 6, 3) := by decide +kernel
theorem dX10_mean_11 : decode cX10_mean 11 = .ok (.bipush (-2), 2) := by decide +kernel
theorem dX10_mean_13 : decode cX10_mean 13 = .ok (.ireturn, 1) := by decide +kernel
theorem dX10_mean_14 : decode cX10_mean 14 = .ok (.aload_n 0, 1) := by decide +kernel
theorem dX10_mean_15 : decode cX10_mean 15 = .ok (.iload_n 3, 1) := by decide +kernel
theorem dX10_mean_16 : decode cX10_mean 16 = .ok (.invokevirtual 242, 3) := by decide +kernel
theorem dX10_mean_19 : decode cX10_mean 19 = .ok (.i2f, 1) := by decide +kernel
theorem dX10_mean_20 : decode cX10_mean 20 = .ok (.aload_n 0, 1) := by decide +kernel
theorem dX10_mean_21 : decode cX10_mean 21 = .ok (.getfield 15, 3) := by decide +kernel
theorem dX10_mean_24 : decode cX10_mean 24 = .ok (.iconst 0, 1) := by decide +kernel
theorem dX10_mean_25 : decode cX10_mean 25 = .ok (.iaload, 1) := by decide +kernel
theorem dX10_mean_26 : decode cX10_mean 26 = .ok (.i2f, 1) := by decide +kernel
theorem dX10_mean_27 : decode cX10_mean 27 = .ok (.fdiv, 1) := by decide +kernel
theorem dX10_mean_28 : decode cX10_mean 28 = .ok (.fstore 4, 2) := by decide +kernel
theorem dX10_mean_30 : decode cX10_mean 30 = .ok (.iload_n 2, 1) := by decide +kernel
theorem dX10_mean_31 : decode cX10_mean 31 = .ok (.ifCond .ne 11, 3) := by decide +kernel
theorem dX10_mean_34 : decode cX10_mean 34 = .ok (.fload 4, 2) := by decide +kernel
theorem dX10_mean_36 : decode cX10_mean 36 = .ok (.invokestatic 252, 3) := by decide +kernel
theorem dX10_mean_39 : decode cX10_mean 39 = .ok (.goto 19, 3) := by decide +kernel
theorem dX10_mean_42 : decode cX10_mean 42 = .ok (.iload_n 2, 1) := by decide +kernel
theorem dX10_mean_43 : decode cX10_mean 43 = .ok (.iconst 1, 1) := by decide +kernel
theorem dX10_mean_44 : decode cX10_mean 44 = .ok (.if_icmp .ne 13, 3) := by decide +kernel
theorem dX10_mean_47 : decode cX10_mean 47 = .ok (.fload 4, 2) := by decide +kernel
theorem dX10_mean_49 : decode cX10_mean 49 = .ok (.ldc_w 264, 3) := by decide +kernel
theorem dX10_mean_52 : decode cX10_mean 52 = .ok (.fadd, 1) := by decide +kernel
theorem dX10_mean_53 : decode cX10_mean 53 = .ok (.f2i, 1) := by decide +kernel
theorem dX10_mean_54 : decode cX10_mean 54 = .ok (.goto 4, 3) := by decide +kernel
theorem dX10_mean_57 : decode cX10_mean 57 = .ok (.iconst (-1), 1) := by decide +kernel
theorem dX10_mean_58 : decode cX10_mean 58 = .ok (.ireturn, 1) := by decide +kernel
theorem dX10_spread_0 : decode cX10_spread 0 = .ok (.aload_n 0, 1) := by decide +kernel
theorem dX10_spread_1 : decode cX10_spread 1 = .ok (.iload_n 1, 1) := by decide +kernel
theorem dX10_spread_2 : decode cX10_spread 2 = .ok (.invokevirtual 233, 3) := by decide +kernel
theorem dX10_spread_5 : decode cX10_spread 5 = .ok (.istore_n 3, 1) := by decide +kernel
theorem dX10_spread_6 : decode cX10_spread 6 = .ok (.iload_n 3, 1) := by decide +kernel
theorem dX10_spread_7 : decode cX10_spread 7 = .ok (.iconst (-1), 1) := by decide +kernel
theorem dX10_spread_8 : decode cX10_spread 8 = .ok (.if_icmp .eq 13, 3) := by decide +kernel
theorem dX10_spread_11 : decode cX10_spread 11 = .ok (.iload_n 2, 1) := by decide +kernel
theorem dX10_spread_12 : decode cX10_spread 12 = .ok (.i2l, 1) := by decide +kernel
theorem dX10_spread_13 : decode cX10_spread 13 = .ok (.lconst 0, 1) := by decide +kernel
theorem dX10_spread_14 : decode cX10_spread 14 = .ok (.lconst 1, 1) := by decide +kernel
theorem dX10_spread_15 : decode cX10_spread 15 = .ok (.invokestatic 85, 3) := by decide +kernel
theorem dX10_spread_18 : decode cX10_spread 18 = .ok (.ifCond .ne 7, 3) := by decide +kernel
theorem dX10_spread_21 : decode cX10_spread 21 = .ok (.ldc2_w 228, 3) := by decide +kernel
theorem dX10_spread_24 : decode cX10_spread 24 = .ok (.lreturn, 1) := by decide +kernel
theorem dX10_spread_25 : decode cX10_spread 25 = .ok (.aload_n 0, 1) := by decide +kernel
theorem dX10_spread_26 : decode cX10_spread 26 = .ok (.iload_n 3, 1) := by decide +kernel
theorem dX10_spread_27 : decode cX10_spread 27 = .ok (.invokevirtual 242, 3) := by decide +kernel
theorem dX10_spread_30 : decode cX10_spread 30 = .ok (.i2d, 1) := by decide +kernel
theorem dX10_spread_31 : decode cX10_spread 31 = .ok (.aload_n 0, 1) := by decide +kernel
theorem dX10_spread_32 : decode cX10_spread 32 = .ok (.getfield 15, 3) := by decide +kernel
theorem dX10_spread_35 : decode cX10_spread 35 = .ok (.iconst 0, 1) := by decide +kernel
theorem dX10_spread_36 : decode cX10_spread 36 = .ok (.iaload, 1) := by decide +kernel
theorem dX10_spread_37 : decode cX10_spread 37 = .ok (.i2d, 1) := by decide +kernel
theorem dX10_spread_38 : decode cX10_spread 38 = .ok (.ddiv, 1) := by decide +kernel
theorem dX10_spread_39 : decode cX10_spread 39 = .ok (.dstore 4, 2) := by decide +kernel
theorem dX10_spread_41 : decode cX10_spread 41 = .ok (.dconst 0, 1) := by decide +kernel
theorem dX10_spread_42 : decode cX10_spread 42 = .ok (.dstore 6, 2) := by decide +kernel
theorem dX10_spread_44 : decode cX10_spread 44 = .ok (.iconst 0, 1) := by decide +kernel
theorem dX10_spread_45 : decode cX10_spread 45 = .ok (.istore 8, 2) := by decide +kernel
theorem dX10_spread_47 : decode cX10_spread 47 = .ok (.iload 8, 2) := by decide +kernel
theorem dX10_spread_49 : decode cX10_spread 49 = .ok (.aload_n 0, 1) := by decide +kernel
theorem dX10_spread_50 : decode cX10_spread 50 = .ok (.getfield 15, 3) := by decide +kernel
theorem dX10_spread_53 : decode cX10_spread 53 = .ok (.iconst 0, 1) := by decide +kernel
theorem dX10_spread_54 : decode cX10_spread 54 = .ok (.iaload, 1) := by decide +kernel
theorem dX10_spread_55 : decode cX10_spread 55 = .ok (.if_icmp .ge 39, 3) := by decide +kernel
theorem dX10_spread_58 : decode cX10_spread 58 = .ok (.aload_n 0, 1) := by decide +kernel
theorem dX10_spread_59 : decode cX10_spread 59 = .ok (.getfield 15, 3) := by decide +kernel
theorem dX10_spread_62 : decode cX10_spread 62 = .ok (.iconst 5, 1) := by decide +kernel
theorem dX10_spread_63 : decode cX10_spread 63 = .ok (.aload_n 0, 1) := by decide +kernel
theorem dX10_spread_64 : decode cX10_spread 64 = .ok (.getfield 37, 3) := by decide +kernel
theorem dX10_spread_67 : decode cX10_spread 67 = .ok (.iload 8, 2) := by decide +kernel
theorem dX10_spread_69 : decode cX10_spread 69 = .ok (.iaload, 1) := by decide +kernel
theorem dX10_spread_70 : decode cX10_spread 70 = .ok (.iadd, 1) := by decide +kernel
theorem dX10_spread_71 : decode cX10_spread 71 = .ok (.iaload, 1) := by decide +kernel
theorem dX10_spread_72 : decode cX10_spread 72 = .ok (.i2d, 1) := by decide +kernel
theorem dX10_spread_73 : decode cX10_spread 73 = .ok (.dload 4, 2) := by decide +kernel
theorem dX10_spread_75 : decode cX10_spread 75 = .ok (.dsub, 1) := by decide +kernel
theorem dX10_spread_76 : decode cX10_spread 76 = .ok (.dstore 9, 2) := by decide +kernel
theorem dX10_spread_78 : decode cX10_spread 78 = .ok (.dload 6, 2) := by decide +kernel
theorem dX10_spread_80 : decode cX10_spread 80 = .ok (.dload 9, 2) := by decide +kernel
theorem dX10_spread_82 : decode cX10_spread 82 = .ok (.dload 9, 2) := by decide +kernel
theorem dX10_spread_84 : decode cX10_spread 84 = .ok (.dmul, 1) := by decide +kernel
theorem dX10_spread_85 : decode cX10_spread 85 = .ok (.dadd, 1) := by decide +kernel
theorem dX10_spread_86 : decode cX10_spread 86 = .ok (.dstore 6, 2) := by decide +kernel
theorem dX10_spread_88 : decode cX10_spread 88 = .ok (.iinc 8 1, 3) := by decide +kernel
theorem dX10_spread_91 : decode cX10_spread 91 = .ok (.goto (-44), 3) := by decide +kernel
theorem dX10_spread_94 : decode cX10_spread 94 = .ok (.dload 6, 2) := by decide +kernel
theorem dX10_spread_96 : decode cX10_spread 96 = .ok (.aload_n 0, 1) := by decide +kernel
theorem dX10_spread_97 : decode cX10_spread 97 = .ok (.getfield 15, 3) := by decide +kernel
theorem dX10_spread_100 : decode cX10_spread 100 = .ok (.iconst 0, 1) := by decide +kernel
theorem dX10_spread_101 : decode cX10_spread 101 = .ok (.iaload, 1) := by decide +kernel
theorem dX10_spread_102 : decode cX10_spread 102 = .ok (.i2d, 1) := by decide +kernel
theorem dX10_spread_103 : decode cX10_spread 103 = .ok (.ddiv, 1) := by decide +kernel
theorem dX10_spread_104 : decode cX10_spread 104 = .ok (.dstore 8, 2) := by decide +kernel
theorem dX10_spread_106 : decode cX10_spread 106 = .ok (.iload_n 2, 1) := by decide +kernel
theorem dX10_spread_107 : decode cX10_spread 107 = .ok (.ifCond .ne 11, 3) := by decide +kernel
theorem dX10_spread_110 : decode cX10_spread 110 = .ok (.dload 8, 2) := by decide +kernel
theorem dX10_spread_112 : decode cX10_spread 112 = .ok (.invokestatic 258, 3) := by decide +kernel
theorem dX10_spread_115 : decode cX10_spread 115 = .ok (.goto 6, 3) := by decide +kernel
theorem dX10_spread_118 : decode cX10_spread 118 = .ok (.dload 8, 2) := by decide +kernel
theorem dX10_spread_120 : decode cX10_spread 120 = .ok (.d2l, 1) := by decide +kernel
theorem dX10_spread_121 : decode cX10_spread 121 = .ok (.lreturn, 1) := by decide +kernel
theorem dX10_feed_0 : decode cX10_feed 0 = .ok (.iload_n 1, 1) := by decide +kernel
theorem dX10_feed_1 : decode cX10_feed 1 = .ok (.i2l, 1) := by decide +kernel
theorem dX10_feed_2 : decode cX10_feed 2 = .ok (.lconst 0, 1) := by decide +kernel
theorem dX10_feed_3 : decode cX10_feed 3 = .ok (.ldc2_w 265, 3) := by decide +kernel
theorem dX10_feed_6 : decode cX10_feed 6 = .ok (.invokestatic 85, 3) := by decide +kernel
theorem dX10_feed_9 : decode cX10_feed 9 = .ok (.ifCond .ne 6, 3) := by decide +kernel
theorem dX10_feed_12 : decode cX10_feed 12 = .ok (.bipush (-2), 2) := by decide +kernel
theorem dX10_feed_14 : decode cX10_feed 14 = .ok (.ireturn, 1) := by decide +kernel
theorem dX10_feed_15 : decode cX10_feed 15 = .ok (.aload_n 0, 1) := by decide +kernel
theorem dX10_feed_16 : decode cX10_feed 16 = .ok (.getfield 267, 3) := by decide +kernel
theorem dX10_feed_19 : decode cX10_feed 19 = .ok (.bipush 100, 2) := by decide +kernel
theorem dX10_feed_21 : decode cX10_feed 21 = .ok (.if_icmp .ne 6, 3) := by decide +kernel
theorem dX10_feed_24 : decode cX10_feed 24 = .ok (.bipush (-4), 2) := by decide +kernel
theorem dX10_feed_26 : decode cX10_feed 26 = .ok (.ireturn, 1) := by decide +kernel
theorem dX10_feed_27 : decode cX10_feed 27 = .ok (.aload_n 0, 1) := by decide +kernel
theorem dX10_feed_28 : decode cX10_feed 28 = .ok (.getfield 53, 3) := by decide +kernel
theorem dX10_feed_31 : decode cX10_feed 31 = .ok (.aload_n 0, 1) := by decide +kernel
theorem dX10_feed_32 : decode cX10_feed 32 = .ok (.getfield 267, 3) := by decide +kernel
theorem dX10_feed_35 : decode cX10_feed 35 = .ok (.iload_n 1, 1) := by decide +kernel
theorem dX10_feed_36 : decode cX10_feed 36 = .ok (.iastore, 1) := by decide +kernel
theorem dX10_feed_37 : decode cX10_feed 37 = .ok (.aload_n 0, 1) := by decide +kernel
theorem dX10_feed_38 : decode cX10_feed 38 = .ok (.dup, 1) := by decide +kernel
theorem dX10_feed_39 : decode cX10_feed 39 = .ok (.getfield 267, 3) := by decide +kernel
theorem dX10_feed_42 : decode cX10_feed 42 = .ok (.iconst 1, 1) := by decide +kernel
theorem dX10_feed_43 : decode cX10_feed 43 = .ok (.iadd, 1) := by decide +kernel
theorem dX10_feed_44 : decode cX10_feed 44 = .ok (.putfield 267, 3) := by decide +kernel
theorem dX10_feed_47 : decode cX10_feed 47 = .ok (.aload_n 0, 1) := by decide +kernel
theorem dX10_feed_48 : decode cX10_feed 48 = .ok (.getfield 267, 3) := by decide +kernel
theorem dX10_feed_51 : decode cX10_feed 51 = .ok (.ireturn, 1) := by decide +kernel
theorem dX10_here_0 : decode cX10_here 0 = .ok (.aload_n 0, 1) := by decide +kernel
theorem dX10_here_1 : decode cX10_here 1 = .ok (.getfield 270, 3) := by decide +kernel
theorem dX10_here_4 : decode cX10_here 4 = .ok (.aload_n 0, 1) := by decide +kernel
theorem dX10_here_5 : decode cX10_here 5 = .ok (.getfield 267, 3) := by decide +kernel
theorem dX10_here_8 : decode cX10_here 8 = .ok (.if_icmp .ge 15, 3) := by decide +kernel
theorem dX10_here_11 : decode cX10_here 11 = .ok (.aload_n 0, 1) := by decide +kernel
theorem dX10_here_12 : decode cX10_here 12 = .ok (.getfield 53, 3) := by decide +kernel
theorem dX10_here_15 : decode cX10_here 15 = .ok (.aload_n 0, 1) := by decide +kernel
theorem dX10_here_16 : decode cX10_here 16 = .ok (.getfield 270, 3) := by decide +kernel
theorem dX10_here_19 : decode cX10_here 19 = .ok (.iaload, 1) := by decide +kernel
theorem dX10_here_20 : decode cX10_here 20 = .ok (.goto 4, 3) := by decide +kernel
theorem dX10_here_23 : decode cX10_here 23 = .ok (.iconst (-1), 1) := by decide +kernel
theorem dX10_here_24 : decode cX10_here 24 = .ok (.ireturn, 1) := by decide +kernel
theorem dX10_digits_0 : decode cX10_digits 0 = .ok (.iconst 0, 1) := by decide +kernel
theorem dX10_digits_1 : decode cX10_digits 1 = .ok (.istore_n 2, 1) := by decide +kernel
theorem dX10_digits_2 : decode cX10_digits 2 = .ok (.iconst 0, 1) := by decide +kernel
theorem dX10_digits_3 : decode cX10_digits 3 = .ok (.istore_n 3, 1) := by decide +kernel
theorem dX10_digits_4 : decode cX10_digits 4 = .ok (.aload_n 0, 1) := by decide +kernel
theorem dX10_digits_5 : decode cX10_digits 5 = .ok (.getfield 273, 3) := by decide +kernel
theorem dX10_digits_8 : decode cX10_digits 8 = .ok (.ifCond .ne 59, 3) := by decide +kernel
theorem dX10_digits_11 : decode cX10_digits 11 = .ok (.iload_n 3, 1) := by decide +kernel
theorem dX10_digits_12 : decode cX10_digits 12 = .ok (.iload_n 1, 1) := by decide +kernel
theorem dX10_digits_13 : decode cX10_digits 13 = .ok (.if_icmp .ge 54, 3) := by decide +kernel
theorem dX10_digits_16 : decode cX10_digits 16 = .ok (.aload_n 0, 1) := by decide +kernel
theorem dX10_digits_17 : decode cX10_digits 17 = .ok (.invokevirtual 276, 3) := by decide +kernel
theorem dX10_digits_20 : decode cX10_digits 20 = .ok (.i2l, 1) := by decide +kernel
theorem dX10_digits_21 : decode cX10_digits 21 = .ok (.ldc2_w 279, 3) := by decide +kernel
theorem dX10_digits_24 : decode cX10_digits 24 = .ok (.ldc2_w 281, 3) := by decide +kernel
theorem dX10_digits_27 : decode cX10_digits 27 = .ok (.invokestatic 85, 3) := by decide +kernel
theorem dX10_digits_30 : decode cX10_digits 30 = .ok (.ifCond .eq 37, 3) := by decide +kernel
theorem dX10_digits_33 : decode cX10_digits 33 = .ok (.bipush 10, 2) := by decide +kernel
theorem dX10_digits_35 : decode cX10_digits 35 = .ok (.iload_n 2, 1) := by decide +kernel
theorem dX10_digits_36 : decode cX10_digits 36 = .ok (.imul, 1) := by decide +kernel
theorem dX10_digits_37 : decode cX10_digits 37 = .ok (.aload_n 0, 1) := by decide +kernel
theorem dX10_digits_38 : decode cX10_digits 38 = .ok (.getfield 53, 3) := by decide +kernel
theorem dX10_digits_41 : decode cX10_digits 41 = .ok (.aload_n 0, 1) := by decide +kernel
theorem dX10_digits_42 : decode cX10_digits 42 = .ok (.getfield 270, 3) := by decide +kernel
theorem dX10_digits_45 : decode cX10_digits 45 = .ok (.iaload, 1) := by decide +kernel
theorem dX10_digits_46 : decode cX10_digits 46 = .ok (.iadd, 1) := by decide +kernel
theorem dX10_digits_47 : decode cX10_digits 47 = .ok (.bipush 48, 2) := by decide +kernel
theorem dX10_digits_49 : decode cX10_digits 49 = .ok (.isub, 1) := by decide +kernel
theorem dX10_digits_50 : decode cX10_digits 50 = .ok (.istore_n 2, 1) := by decide +kernel
theorem dX10_digits_51 : decode cX10_digits 51 = .ok (.aload_n 0, 1) := by decide +kernel
theorem dX10_digits_52 : decode cX10_digits 52 = .ok (.dup, 1) := by decide +kernel
theorem dX10_digits_53 : decode cX10_digits 53 = .ok (.getfield 270, 3) := by decide +kernel
theorem dX10_digits_56 : decode cX10_digits 56 = .ok (.iconst 1, 1) := by decide +kernel
theorem dX10_digits_57 : decode cX10_digits 57 = .ok (.iadd, 1) := by decide +kernel
theorem dX10_digits_58 : decode cX10_digits 58 = .ok (.putfield 270, 3) := by decide +kernel
theorem dX10_digits_61 : decode cX10_digits 61 = .ok (.iinc 3 1, 3) := by decide +kernel
theorem dX10_digits_64 : decode cX10_digits 64 = .ok (.goto (-60), 3) := by decide +kernel
theorem dX10_digits_67 : decode cX10_digits 67 = .ok (.aload_n 0, 1) := by decide +kernel
theorem dX10_digits_68 : decode cX10_digits 68 = .ok (.aload_n 0, 1) := by decide +kernel
theorem dX10_digits_69 : decode cX10_digits 69 = .ok (.getfield 273, 3) := by decide +kernel
theorem dX10_digits_72 : decode cX10_digits 72 = .ok (.ifCond .ne 11, 3) := by decide +kernel
theorem dX10_digits_75 : decode cX10_digits 75 = .ok (.iload_n 3, 1) := by decide +kernel
theorem dX10_digits_76 : decode cX10_digits 76 = .ok (.ifCond .ne 7, 3) := by decide +kernel
theorem dX10_digits_79 : decode cX10_digits 79 = .ok (.iconst 3, 1) := by decide +kernel
theorem dX10_digits_80 : decode cX10_digits 80 = .ok (.goto 7, 3) := by decide +kernel
theorem dX10_digits_83 : decode cX10_digits 83 = .ok (.aload_n 0, 1) := by decide +kernel
theorem dX10_digits_84 : decode cX10_digits 84 = .ok (.getfield 273, 3) := by decide +kernel
theorem dX10_digits_87 : decode cX10_digits 87 = .ok (.putfield 273, 3) := by decide +kernel
theorem dX10_digits_90 : decode cX10_digits 90 = .ok (.iload_n 2, 1) := by decide +kernel
theorem dX10_digits_91 : decode cX10_digits 91 = .ok (.ireturn, 1) := by decide +kernel
theorem dX10_clause_0 : decode cX10_clause 0 = .ok (.aload_n 0, 1) := by decide +kernel
theorem dX10_clause_1 : decode cX10_clause 1 = .ok (.aload_n 0, 1) := by decide +kernel
theorem dX10_clause_2 : decode cX10_clause 2 = .ok (.getfield 270, 3) := by decide +kernel
theorem dX10_clause_5 : decode cX10_clause 5 = .ok (.putfield 283, 3) := by decide +kernel
theorem dX10_clause_8 : decode cX10_clause 8 = .ok (.aload_n 0, 1) := by decide +kernel
theorem dX10_clause_9 : decode cX10_clause 9 = .ok (.invokevirtual 276, 3) := by decide +kernel
theorem dX10_clause_12 : decode cX10_clause 12 = .ok (.istore_n 1, 1) := by decide +kernel
theorem dX10_clause_13 : decode cX10_clause 13 = .ok (.iload_n 1, 1) := by decide +kernel
theorem dX10_clause_14 : decode cX10_clause 14 = .ok (.bipush 110, 2) := by decide +kernel
theorem dX10_clause_16 : decode cX10_clause 16 = .ok (.if_icmp .eq 33, 3) := by decide +kernel
theorem dX10_clause_19 : decode cX10_clause 19 = .ok (.iload_n 1, 1) := by decide +kernel
theorem dX10_clause_20 : decode cX10_clause 20 = .ok (.bipush 107, 2) := by decide +kernel
theorem dX10_clause_22 : decode cX10_clause 22 = .ok (.if_icmp .eq 27, 3) := by decide +kernel
theorem dX10_clause_25 : decode cX10_clause 25 = .ok (.iload_n 1, 1) := by decide +kernel
theorem dX10_clause_26 : decode cX10_clause 26 = .ok (.bipush 119, 2) := by decide +kernel
theorem dX10_clause_28 : decode cX10_clause 28 = .ok (.if_icmp .eq 21, 3) := by decide +kernel
theorem dX10_clause_31 : decode cX10_clause 31 = .ok (.iload_n 1, 1) := by decide +kernel
theorem dX10_clause_32 : decode cX10_clause 32 = .ok (.bipush 116, 2) := by decide +kernel
theorem dX10_clause_34 : decode cX10_clause 34 = .ok (.if_icmp .eq 15, 3) := by decide +kernel
theorem dX10_clause_37 : decode cX10_clause 37 = .ok (.iload_n 1, 1) := by decide +kernel
theorem dX10_clause_38 : decode cX10_clause 38 = .ok (.bipush 109, 2) := by decide +kernel
theorem dX10_clause_40 : decode cX10_clause 40 = .ok (.if_icmp .eq 9, 3) := by decide +kernel
theorem dX10_clause_43 : decode cX10_clause 43 = .ok (.aload_n 0, 1) := by decide +kernel
theorem dX10_clause_44 : decode cX10_clause 44 = .ok (.iconst 4, 1) := by decide +kernel
theorem dX10_clause_45 : decode cX10_clause 45 = .ok (.putfield 273, 3) := by decide +kernel
theorem dX10_clause_48 : decode cX10_clause 48 = .ok (.return_, 1) := by decide +kernel
theorem dX10_clause_49 : decode cX10_clause 49 = .ok (.aload_n 0, 1) := by decide +kernel
theorem dX10_clause_50 : decode cX10_clause 50 = .ok (.dup, 1) := by decide +kernel
theorem dX10_clause_51 : decode cX10_clause 51 = .ok (.getfield 270, 3) := by decide +kernel
theorem dX10_clause_54 : decode cX10_clause 54 = .ok (.iconst 1, 1) := by decide +kernel
theorem dX10_clause_55 : decode cX10_clause 55 = .ok (.iadd, 1) := by decide +kernel
theorem dX10_clause_56 : decode cX10_clause 56 = .ok (.putfield 270, 3) := by decide +kernel
theorem dX10_clause_59 : decode cX10_clause 59 = .ok (.aload_n 0, 1) := by decide +kernel
theorem dX10_clause_60 : decode cX10_clause 60 = .ok (.iload_n 1, 1) := by decide +kernel
theorem dX10_clause_61 : decode cX10_clause 61 = .ok (.bipush 116, 2) := by decide +kernel
theorem dX10_clause_63 : decode cX10_clause 63 = .ok (.if_icmp .eq 9, 3) := by decide +kernel
theorem dX10_clause_66 : decode cX10_clause 66 = .ok (.iload_n 1, 1) := by decide +kernel
theorem dX10_clause_67 : decode cX10_clause 67 = .ok (.bipush 109, 2) := by decide +kernel
theorem dX10_clause_69 : decode cX10_clause 69 = .ok (.if_icmp .ne 8, 3) := by decide +kernel
theorem dX10_clause_72 : decode cX10_clause 72 = .ok (.bipush 6, 2) := by decide +kernel
theorem dX10_clause_74 : decode cX10_clause 74 = .ok (.goto 4, 3) := by decide +kernel
theorem dX10_clause_77 : decode cX10_clause 77 = .ok (.iconst 1, 1) := by decide +kernel
theorem dX10_clause_78 : decode cX10_clause 78 = .ok (.invokevirtual 286, 3) := by decide +kernel
theorem dX10_clause_81 : decode cX10_clause 81 = .ok (.istore_n 2, 1) := by decide +kernel
theorem dX10_clause_82 : decode cX10_clause 82 = .ok (.iload_n 1, 1) := by decide +kernel
theorem dX10_clause_83 : decode cX10_clause 83 = .ok (.bipush 119, 2) := by decide +kernel
theorem dX10_clause_85 : decode cX10_clause 85 = .ok (.if_icmp .ne 11, 3) := by decide +kernel
theorem dX10_clause_88 : decode cX10_clause 88 = .ok (.aload_n 0, 1) := by decide +kernel
theorem dX10_clause_89 : decode cX10_clause 89 = .ok (.iconst 1, 1) := by decide +kernel
theorem dX10_clause_90 : decode cX10_clause 90 = .ok (.invokevirtual 286, 3) := by decide +kernel
theorem dX10_clause_93 : decode cX10_clause 93 = .ok (.goto 4, 3) := by decide +kernel
theorem dX10_clause_96 : decode cX10_clause 96 = .ok (.iconst 0, 1) := by decide +kernel
theorem dX10_clause_97 : decode cX10_clause 97 = .ok (.istore_n 3, 1) := by decide +kernel
theorem dX10_clause_98 : decode cX10_clause 98 = .ok (.aload_n 0, 1) := by decide +kernel
theorem dX10_clause_99 : decode cX10_clause 99 = .ok (.getfield 273, 3) := by decide +kernel
theorem dX10_clause_102 : decode cX10_clause 102 = .ok (.ifCond .eq 4, 3) := by decide +kernel
theorem dX10_clause_105 : decode cX10_clause 105 = .ok (.return_, 1) := by decide +kernel
theorem dX10_clause_106 : decode cX10_clause 106 = .ok (.aload_n 0, 1) := by decide +kernel
theorem dX10_clause_107 : decode cX10_clause 107 = .ok (.getfield 56, 3) := by decide +kernel
theorem dX10_clause_110 : decode cX10_clause 110 = .ok (.aload_n 0, 1) := by decide +kernel
theorem dX10_clause_111 : decode cX10_clause 111 = .ok (.getfield 289, 3) := by decide +kernel
theorem dX10_clause_114 : decode cX10_clause 114 = .ok (.iload_n 1, 1) := by decide +kernel
theorem dX10_clause_115 : decode cX10_clause 115 = .ok (.iastore, 1) := by decide +kernel
theorem dX10_clause_116 : decode cX10_clause 116 = .ok (.aload_n 0, 1) := by decide +kernel
theorem dX10_clause_117 : decode cX10_clause 117 = .ok (.getfield 59, 3) := by decide +kernel
theorem dX10_clause_120 : decode cX10_clause 120 = .ok (.aload_n 0, 1) := by decide +kernel
theorem dX10_clause_121 : decode cX10_clause 121 = .ok (.getfield 289, 3) := by decide +kernel
theorem dX10_clause_124 : decode cX10_clause 124 = .ok (.iload_n 2, 1) := by decide +kernel
theorem dX10_clause_125 : decode cX10_clause 125 = .ok (.iastore, 1) := by decide +kernel
theorem dX10_clause_126 : decode cX10_clause 126 = .ok (.aload_n 0, 1) := by decide +kernel
theorem dX10_clause_127 : decode cX10_clause 127 = .ok (.getfield 62, 3) := by decide +kernel
theorem dX10_clause_130 : decode cX10_clause 130 = .ok (.aload_n 0, 1) := by decide +kernel
theorem dX10_clause_131 : decode cX10_clause 131 = .ok (.getfield 289, 3) := by decide +kernel
theorem dX10_clause_134 : decode cX10_clause 134 = .ok (.iload_n 3, 1) := by decide +kernel
theorem dX10_clause_135 : decode cX10_clause 135 = .ok (.iastore, 1) := by decide +kernel
theorem dX10_clause_136 : decode cX10_clause 136 = .ok (.aload_n 0, 1) := by decide +kernel
theorem dX10_clause_137 : decode cX10_clause 137 = .ok (.dup, 1) := by decide +kernel
theorem dX10_clause_138 : decode cX10_clause 138 = .ok (.getfield 289, 3) := by decide +kernel
theorem dX10_clause_141 : decode cX10_clause 141 = .ok (.iconst 1, 1) := by decide +kernel
theorem dX10_clause_142 : decode cX10_clause 142 = .ok (.iadd, 1) := by decide +kernel
theorem dX10_clause_143 : decode cX10_clause 143 = .ok (.putfield 289, 3) := by decide +kernel
theorem dX10_clause_146 : decode cX10_clause 146 = .ok (.return_, 1) := by decide +kernel
theorem dX10_isDone_0 : decode cX10_isDone 0 = .ok (.aload_n 0, 1) := by decide +kernel
theorem dX10_isDone_1 : decode cX10_isDone 1 = .ok (.getfield 59, 3) := by decide +kernel
theorem dX10_isDone_4 : decode cX10_isDone 4 = .ok (.iload_n 1, 1) := by decide +kernel
theorem dX10_isDone_5 : decode cX10_isDone 5 = .ok (.iaload, 1) := by decide +kernel
theorem dX10_isDone_6 : decode cX10_isDone 6 = .ok (.istore_n 2, 1) := by decide +kernel
theorem dX10_isDone_7 : decode cX10_isDone 7 = .ok (.aload_n 0, 1) := by decide +kernel
theorem dX10_isDone_8 : decode cX10_isDone 8 = .ok (.getfield 56, 3) := by decide +kernel
theorem dX10_isDone_11 : decode cX10_isDone 11 = .ok (.iload_n 1, 1) := by decide +kernel
theorem dX10_isDone_12 : decode cX10_isDone 12 = .ok (.iaload, 1) := by decide +kernel
theorem dX10_isDone_13 : decode cX10_isDone 13 = .ok (.lookupswitch 83 #[(107, 49), (110, 35), (119, 63)], 35) := by decide +kernel
theorem dX10_isDone_48 : decode cX10_isDone 48 = .ok (.aload_n 0, 1) := by decide +kernel
theorem dX10_isDone_49 : decode cX10_isDone 49 = .ok (.iload_n 2, 1) := by decide +kernel
theorem dX10_isDone_50 : decode cX10_isDone 50 = .ok (.invokevirtual 292, 3) := by decide +kernel
theorem dX10_isDone_53 : decode cX10_isDone 53 = .ok (.ifCond .lt 7, 3) := by decide +kernel
theorem dX10_isDone_56 : decode cX10_isDone 56 = .ok (.iconst 1, 1) := by decide +kernel
theorem dX10_isDone_57 : decode cX10_isDone 57 = .ok (.goto 4, 3) := by decide +kernel
theorem dX10_isDone_60 : decode cX10_isDone 60 = .ok (.iconst 0, 1) := by decide +kernel
theorem dX10_isDone_61 : decode cX10_isDone 61 = .ok (.ireturn, 1) := by decide +kernel
theorem dX10_isDone_62 : decode cX10_isDone 62 = .ok (.aload_n 0, 1) := by decide +kernel
theorem dX10_isDone_63 : decode cX10_isDone 63 = .ok (.iload_n 2, 1) := by decide +kernel
theorem dX10_isDone_64 : decode cX10_isDone 64 = .ok (.invokevirtual 295, 3) := by decide +kernel
theorem dX10_isDone_67 : decode cX10_isDone 67 = .ok (.ifCond .lt 7, 3) := by decide +kernel
theorem dX10_isDone_70 : decode cX10_isDone 70 = .ok (.iconst 1, 1) := by decide +kernel
theorem dX10_isDone_71 : decode cX10_isDone 71 = .ok (.goto 4, 3) := by decide +kernel
theorem dX10_isDone_74 : decode cX10_isDone 74 = .ok (.iconst 0, 1) := by decide +kernel
theorem dX10_isDone_75 : decode cX10_isDone 75 = .ok (.ireturn, 1) := by decide +kernel
theorem dX10_isDone_76 : decode cX10_isDone 76 = .ok (.aload_n 0, 1) := by decide +kernel
theorem dX10_isDone_77 : decode cX10_isDone 77 = .ok (.iload_n 2, 1) := by decide +kernel
theorem dX10_isDone_78 : decode cX10_isDone 78 = .ok (.aload_n 0, 1) := by decide +kernel
theorem dX10_isDone_79 : decode cX10_isDone 79 = .ok (.getfield 62, 3) := by decide +kernel
theorem dX10_isDone_82 : decode cX10_isDone 82 = .ok (.iload_n 1, 1) := by decide +kernel
theorem dX10_isDone_83 : decode cX10_isDone 83 = .ok (.iaload, 1) := by decide +kernel
theorem dX10_isDone_84 : decode cX10_isDone 84 = .ok (.invokevirtual 298, 3) := by decide +kernel
theorem dX10_isDone_87 : decode cX10_isDone 87 = .ok (.ifCond .lt 7, 3) := by decide +kernel
theorem dX10_isDone_90 : decode cX10_isDone 90 = .ok (.iconst 1, 1) := by decide +kernel
theorem dX10_isDone_91 : decode cX10_isDone 91 = .ok (.goto 4, 3) := by decide +kernel
theorem dX10_isDone_94 : decode cX10_isDone 94 = .ok (.iconst 0, 1) := by decide +kernel
theorem dX10_isDone_95 : decode cX10_isDone 95 = .ok (.ireturn, 1) := by decide +kernel
theorem dX10_isDone_96 : decode cX10_isDone 96 = .ok (.aload_n 0, 1) := by decide +kernel
theorem dX10_isDone_97 : decode cX10_isDone 97 = .ok (.iload_n 2, 1) := by decide +kernel
theorem dX10_isDone_98 : decode cX10_isDone 98 = .ok (.aload_n 0, 1) := by decide +kernel
theorem dX10_isDone_99 : decode cX10_isDone 99 = .ok (.getfield 56, 3) := by decide +kernel
theorem dX10_isDone_102 : decode cX10_isDone 102 = .ok (.iload_n 1, 1) := by decide +kernel
theorem dX10_isDone_103 : decode cX10_isDone 103 = .ok (.iaload, 1) := by decide +kernel
theorem dX10_isDone_104 : decode cX10_isDone 104 = .ok (.bipush 116, 2) := by decide +kernel
theorem dX10_isDone_106 : decode cX10_isDone 106 = .ok (.if_icmp .ne 7, 3) := by decide +kernel
theorem dX10_isDone_109 : decode cX10_isDone 109 = .ok (.iconst 0, 1) := by decide +kernel
theorem dX10_isDone_110 : decode cX10_isDone 110 = .ok (.goto 4, 3) := by decide +kernel
theorem dX10_isDone_113 : decode cX10_isDone 113 = .ok (.iconst 1, 1) := by decide +kernel
theorem dX10_isDone_114 : decode cX10_isDone 114 = .ok (.invokevirtual 301, 3) := by decide +kernel
theorem dX10_isDone_117 : decode cX10_isDone 117 = .ok (.ifCond .lt 7, 3) := by decide +kernel
theorem dX10_isDone_120 : decode cX10_isDone 120 = .ok (.iconst 1, 1) := by decide +kernel
theorem dX10_isDone_121 : decode cX10_isDone 121 = .ok (.goto 4, 3) := by decide +kernel
theorem dX10_isDone_124 : decode cX10_isDone 124 = .ok (.iconst 0, 1) := by decide +kernel
theorem dX10_isDone_125 : decode cX10_isDone 125 = .ok (.ireturn, 1) := by decide +kernel
theorem dX10_troubled_0 : decode cX10_troubled 0 = .ok (.aload_n 0, 1) := by decide +kernel
theorem dX10_troubled_1 : decode cX10_troubled 1 = .ok (.iconst 0, 1) := by decide +kernel
theorem dX10_troubled_2 : decode cX10_troubled 2 = .ok (.putfield 135, 3) := by decide +kernel
theorem dX10_troubled_5 : decode cX10_troubled 5 = .ok (.aload_n 0, 1) := by decide +kernel
theorem dX10_troubled_6 : decode cX10_troubled 6 = .ok (.iconst 1, 1) := by decide +kernel
theorem dX10_troubled_7 : decode cX10_troubled 7 = .ok (.aload_n 0, 1) := by decide +kernel
theorem dX10_troubled_8 : decode cX10_troubled 8 = .ok (.getfield 289, 3) := by decide +kernel
theorem dX10_troubled_11 : decode cX10_troubled 11 = .ok (.invokevirtual 141, 3) := by decide +kernel
theorem dX10_troubled_14 : decode cX10_troubled 14 = .ok (.iload_n 1, 1) := by decide +kernel
theorem dX10_troubled_15 : decode cX10_troubled 15 = .ok (.ifCond .eq 12, 3) := by decide +kernel
theorem dX10_troubled_18 : decode cX10_troubled 18 = .ok (.aload_n 0, 1) := by decide +kernel
theorem dX10_troubled_19 : decode cX10_troubled 19 = .ok (.iconst 2, 1) := by decide +kernel
theorem dX10_troubled_20 : decode cX10_troubled 20 = .ok (.aload_n 0, 1) := by decide +kernel
theorem dX10_troubled_21 : decode cX10_troubled 21 = .ok (.getfield 283, 3) := by decide +kernel
theorem dX10_troubled_24 : decode cX10_troubled 24 = .ok (.invokevirtual 141, 3) := by decide +kernel
theorem dX10_troubled_27 : decode cX10_troubled 27 = .ok (.iload_n 1, 1) := by decide +kernel
theorem dX10_troubled_28 : decode cX10_troubled 28 = .ok (.ifCond .eq 23, 3) := by decide +kernel
theorem dX10_troubled_31 : decode cX10_troubled 31 = .ok (.aload_n 0, 1) := by decide +kernel
theorem dX10_troubled_32 : decode cX10_troubled 32 = .ok (.getfield 273, 3) := by decide +kernel
theorem dX10_troubled_35 : decode cX10_troubled 35 = .ok (.iconst 3, 1) := by decide +kernel
theorem dX10_troubled_36 : decode cX10_troubled 36 = .ok (.if_icmp .ne 15, 3) := by decide +kernel
theorem dX10_troubled_39 : decode cX10_troubled 39 = .ok (.aload_n 0, 1) := by decide +kernel
theorem dX10_troubled_40 : decode cX10_troubled 40 = .ok (.iconst 3, 1) := by decide +kernel
theorem dX10_troubled_41 : decode cX10_troubled 41 = .ok (.aload_n 0, 1) := by decide +kernel
theorem dX10_troubled_42 : decode cX10_troubled 42 = .ok (.getfield 270, 3) := by decide +kernel
theorem dX10_troubled_45 : decode cX10_troubled 45 = .ok (.invokevirtual 141, 3) := by decide +kernel
theorem dX10_troubled_48 : decode cX10_troubled 48 = .ok (.goto 12, 3) := by decide +kernel
theorem dX10_troubled_51 : decode cX10_troubled 51 = .ok (.aload_n 0, 1) := by decide +kernel
theorem dX10_troubled_52 : decode cX10_troubled 52 = .ok (.iconst 4, 1) := by decide +kernel
theorem dX10_troubled_53 : decode cX10_troubled 53 = .ok (.aload_n 0, 1) := by decide +kernel
theorem dX10_troubled_54 : decode cX10_troubled 54 = .ok (.invokevirtual 276, 3) := by decide +kernel
theorem dX10_troubled_57 : decode cX10_troubled 57 = .ok (.invokevirtual 141, 3) := by decide +kernel
theorem dX10_troubled_60 : decode cX10_troubled 60 = .ok (.return_, 1) := by decide +kernel
theorem dX10_read_0 : decode cX10_read 0 = .ok (.aload_n 0, 1) := by decide +kernel
theorem dX10_read_1 : decode cX10_read 1 = .ok (.iconst 0, 1) := by decide +kernel
theorem dX10_read_2 : decode cX10_read 2 = .ok (.putfield 270, 3) := by decide +kernel
theorem dX10_read_5 : decode cX10_read 5 = .ok (.aload_n 0, 1) := by decide +kernel
theorem dX10_read_6 : decode cX10_read 6 = .ok (.iconst 0, 1) := by decide +kernel
theorem dX10_read_7 : decode cX10_read 7 = .ok (.putfield 289, 3) := by decide +kernel
theorem dX10_read_10 : decode cX10_read 10 = .ok (.aload_n 0, 1) := by decide +kernel
theorem dX10_read_11 : decode cX10_read 11 = .ok (.iconst 0, 1) := by decide +kernel
theorem dX10_read_12 : decode cX10_read 12 = .ok (.putfield 273, 3) := by decide +kernel
theorem dX10_read_15 : decode cX10_read 15 = .ok (.aload_n 0, 1) := by decide +kernel
theorem dX10_read_16 : decode cX10_read 16 = .ok (.invokevirtual 304, 3) := by decide +kernel
theorem dX10_read_19 : decode cX10_read 19 = .ok (.aload_n 0, 1) := by decide +kernel
theorem dX10_read_20 : decode cX10_read 20 = .ok (.getfield 273, 3) := by decide +kernel
theorem dX10_read_23 : decode cX10_read 23 = .ok (.ifCond .ne 38, 3) := by decide +kernel
theorem dX10_read_26 : decode cX10_read 26 = .ok (.aload_n 0, 1) := by decide +kernel
theorem dX10_read_27 : decode cX10_read 27 = .ok (.invokevirtual 276, 3) := by decide +kernel
theorem dX10_read_30 : decode cX10_read 30 = .ok (.bipush 59, 2) := by decide +kernel
theorem dX10_read_32 : decode cX10_read 32 = .ok (.if_icmp .ne 29, 3) := by decide +kernel
theorem dX10_read_35 : decode cX10_read 35 = .ok (.aload_n 0, 1) := by decide +kernel
theorem dX10_read_36 : decode cX10_read 36 = .ok (.getfield 289, 3) := by decide +kernel
theorem dX10_read_39 : decode cX10_read 39 = .ok (.bipush 12, 2) := by decide +kernel
theorem dX10_read_41 : decode cX10_read 41 = .ok (.if_icmp .ge 20, 3) := by decide +kernel
theorem dX10_read_44 : decode cX10_read 44 = .ok (.aload_n 0, 1) := by decide +kernel
theorem dX10_read_45 : decode cX10_read 45 = .ok (.dup, 1) := by decide +kernel
theorem dX10_read_46 : decode cX10_read 46 = .ok (.getfield 270, 3) := by decide +kernel
theorem dX10_read_49 : decode cX10_read 49 = .ok (.iconst 1, 1) := by decide +kernel
theorem dX10_read_50 : decode cX10_read 50 = .ok (.iadd, 1) := by decide +kernel
theorem dX10_read_51 : decode cX10_read 51 = .ok (.putfield 270, 3) := by decide +kernel
theorem dX10_read_54 : decode cX10_read 54 = .ok (.aload_n 0, 1) := by decide +kernel
theorem dX10_read_55 : decode cX10_read 55 = .ok (.invokevirtual 304, 3) := by decide +kernel
theorem dX10_read_58 : decode cX10_read 58 = .ok (.goto (-39), 3) := by decide +kernel
theorem dX10_read_61 : decode cX10_read 61 = .ok (.aload_n 0, 1) := by decide +kernel
theorem dX10_read_62 : decode cX10_read 62 = .ok (.getfield 273, 3) := by decide +kernel
theorem dX10_read_65 : decode cX10_read 65 = .ok (.ifCond .ne 14, 3) := by decide +kernel
theorem dX10_read_68 : decode cX10_read 68 = .ok (.aload_n 0, 1) := by decide +kernel
theorem dX10_read_69 : decode cX10_read 69 = .ok (.getfield 270, 3) := by decide +kernel
theorem dX10_read_72 : decode cX10_read 72 = .ok (.aload_n 0, 1) := by decide +kernel
theorem dX10_read_73 : decode cX10_read 73 = .ok (.getfield 267, 3) := by decide +kernel
theorem dX10_read_76 : decode cX10_read 76 = .ok (.if_icmp .ge 7, 3) := by decide +kernel
theorem dX10_read_79 : decode cX10_read 79 = .ok (.iconst 1, 1) := by decide +kernel
theorem dX10_read_80 : decode cX10_read 80 = .ok (.goto 4, 3) := by decide +kernel
theorem dX10_read_83 : decode cX10_read 83 = .ok (.iconst 0, 1) := by decide +kernel
theorem dX10_read_84 : decode cX10_read 84 = .ok (.istore_n 1, 1) := by decide +kernel
theorem dX10_read_85 : decode cX10_read 85 = .ok (.iload_n 1, 1) := by decide +kernel
theorem dX10_read_86 : decode cX10_read 86 = .ok (.ifCond .eq 19, 3) := by decide +kernel
theorem dX10_read_89 : decode cX10_read 89 = .ok (.aload_n 0, 1) := by decide +kernel
theorem dX10_read_90 : decode cX10_read 90 = .ok (.aload_n 0, 1) := by decide +kernel
theorem dX10_read_91 : decode cX10_read 91 = .ok (.getfield 273, 3) := by decide +kernel
theorem dX10_read_94 : decode cX10_read 94 = .ok (.ifCond .eq 7, 3) := by decide +kernel
theorem dX10_read_97 : decode cX10_read 97 = .ok (.iconst 1, 1) := by decide +kernel
theorem dX10_read_98 : decode cX10_read 98 = .ok (.goto 4, 3) := by decide +kernel
theorem dX10_read_101 : decode cX10_read 101 = .ok (.iconst 0, 1) := by decide +kernel
theorem dX10_read_102 : decode cX10_read 102 = .ok (.invokevirtual 307, 3) := by decide +kernel
theorem dX10_read_105 : decode cX10_read 105 = .ok (.aload_n 0, 1) := by decide +kernel
theorem dX10_read_106 : decode cX10_read 106 = .ok (.iconst 0, 1) := by decide +kernel
theorem dX10_read_107 : decode cX10_read 107 = .ok (.putfield 267, 3) := by decide +kernel
theorem dX10_read_110 : decode cX10_read 110 = .ok (.iload_n 1, 1) := by decide +kernel
theorem dX10_read_111 : decode cX10_read 111 = .ok (.ifCond .eq 11, 3) := by decide +kernel
theorem dX10_read_114 : decode cX10_read 114 = .ok (.bipush (-10), 2) := by decide +kernel
theorem dX10_read_116 : decode cX10_read 116 = .ok (.aload_n 0, 1) := by decide +kernel
theorem dX10_read_117 : decode cX10_read 117 = .ok (.getfield 270, 3) := by decide +kernel
theorem dX10_read_120 : decode cX10_read 120 = .ok (.isub, 1) := by decide +kernel
theorem dX10_read_121 : decode cX10_read 121 = .ok (.ireturn, 1) := by decide +kernel
theorem dX10_read_122 : decode cX10_read 122 = .ok (.iconst 0, 1) := by decide +kernel
theorem dX10_read_123 : decode cX10_read 123 = .ok (.istore_n 2, 1) := by decide +kernel
theorem dX10_read_124 : decode cX10_read 124 = .ok (.iconst 0, 1) := by decide +kernel
theorem dX10_read_125 : decode cX10_read 125 = .ok (.istore_n 3, 1) := by decide +kernel
theorem dX10_read_126 : decode cX10_read 126 = .ok (.iload_n 3, 1) := by decide +kernel
theorem dX10_read_127 : decode cX10_read 127 = .ok (.aload_n 0, 1) := by decide +kernel
theorem dX10_read_128 : decode cX10_read 128 = .ok (.getfield 289, 3) := by decide +kernel
theorem dX10_read_131 : decode cX10_read 131 = .ok (.if_icmp .ge 25, 3) := by decide +kernel
theorem dX10_read_134 : decode cX10_read 134 = .ok (.iload_n 2, 1) := by decide +kernel
theorem dX10_read_135 : decode cX10_read 135 = .ok (.aload_n 0, 1) := by decide +kernel
theorem dX10_read_136 : decode cX10_read 136 = .ok (.iload_n 3, 1) := by decide +kernel
theorem dX10_read_137 : decode cX10_read 137 = .ok (.invokevirtual 311, 3) := by decide +kernel
theorem dX10_read_140 : decode cX10_read 140 = .ok (.ifCond .eq 7, 3) := by decide +kernel
theorem dX10_read_143 : decode cX10_read 143 = .ok (.iconst 1, 1) := by decide +kernel
theorem dX10_read_144 : decode cX10_read 144 = .ok (.goto 4, 3) := by decide +kernel
theorem dX10_read_147 : decode cX10_read 147 = .ok (.iconst 0, 1) := by decide +kernel
theorem dX10_read_148 : decode cX10_read 148 = .ok (.iadd, 1) := by decide +kernel
theorem dX10_read_149 : decode cX10_read 149 = .ok (.istore_n 2, 1) := by decide +kernel
theorem dX10_read_150 : decode cX10_read 150 = .ok (.iinc 3 1, 3) := by decide +kernel
theorem dX10_read_153 : decode cX10_read 153 = .ok (.goto (-27), 3) := by decide +kernel
theorem dX10_read_156 : decode cX10_read 156 = .ok (.iload_n 2, 1) := by decide +kernel
theorem dX10_read_157 : decode cX10_read 157 = .ok (.ireturn, 1) := by decide +kernel
theorem dX10_cause_0 : decode cX10_cause 0 = .ok (.iload_n 1, 1) := by decide +kernel
theorem dX10_cause_1 : decode cX10_cause 1 = .ok (.ifCond .lt 13, 3) := by decide +kernel
theorem dX10_cause_4 : decode cX10_cause 4 = .ok (.iload_n 2, 1) := by decide +kernel
theorem dX10_cause_5 : decode cX10_cause 5 = .ok (.i2l, 1) := by decide +kernel
theorem dX10_cause_6 : decode cX10_cause 6 = .ok (.lconst 0, 1) := by decide +kernel
theorem dX10_cause_7 : decode cX10_cause 7 = .ok (.lconst 1, 1) := by decide +kernel
theorem dX10_cause_8 : decode cX10_cause 8 = .ok (.invokestatic 85, 3) := by decide +kernel
theorem dX10_cause_11 : decode cX10_cause 11 = .ok (.ifCond .ne 5, 3) := by decide +kernel
theorem dX10_cause_14 : decode cX10_cause 14 = .ok (.iconst (-1), 1) := by decide +kernel
theorem dX10_cause_15 : decode cX10_cause 15 = .ok (.ireturn, 1) := by decide +kernel
theorem dX10_cause_16 : decode cX10_cause 16 = .ok (.iload_n 1, 1) := by decide +kernel
theorem dX10_cause_17 : decode cX10_cause 17 = .ok (.aload_n 0, 1) := by decide +kernel
theorem dX10_cause_18 : decode cX10_cause 18 = .ok (.getfield 135, 3) := by decide +kernel
theorem dX10_cause_21 : decode cX10_cause 21 = .ok (.if_icmp .lt 8, 3) := by decide +kernel
theorem dX10_cause_24 : decode cX10_cause 24 = .ok (.bipush (-5), 2) := by decide +kernel
theorem dX10_cause_26 : decode cX10_cause 26 = .ok (.goto 22, 3) := by decide +kernel
theorem dX10_cause_29 : decode cX10_cause 29 = .ok (.iload_n 2, 1) := by decide +kernel
theorem dX10_cause_30 : decode cX10_cause 30 = .ok (.ifCond .ne 12, 3) := by decide +kernel
theorem dX10_cause_33 : decode cX10_cause 33 = .ok (.aload_n 0, 1) := by decide +kernel
theorem dX10_cause_34 : decode cX10_cause 34 = .ok (.getfield 28, 3) := by decide +kernel
theorem dX10_cause_37 : decode cX10_cause 37 = .ok (.iload_n 1, 1) := by decide +kernel
theorem dX10_cause_38 : decode cX10_cause 38 = .ok (.iaload, 1) := by decide +kernel
theorem dX10_cause_39 : decode cX10_cause 39 = .ok (.goto 9, 3) := by decide +kernel
theorem dX10_cause_42 : decode cX10_cause 42 = .ok (.aload_n 0, 1) := by decide +kernel
theorem dX10_cause_43 : decode cX10_cause 43 = .ok (.getfield 31, 3) := by decide +kernel
theorem dX10_cause_46 : decode cX10_cause 46 = .ok (.iload_n 1, 1) := by decide +kernel
theorem dX10_cause_47 : decode cX10_cause 47 = .ok (.iaload, 1) := by decide +kernel
theorem dX10_cause_48 : decode cX10_cause 48 = .ok (.ireturn, 1) := by decide +kernel
theorem dX10_see_0 : decode cX10_see 0 = .ok (.iload_n 1, 1) := by decide +kernel
theorem dX10_see_1 : decode cX10_see 1 = .ok (.iconst (-1), 1) := by decide +kernel
theorem dX10_see_2 : decode cX10_see 2 = .ok (.if_icmp .ne 12, 3) := by decide +kernel
theorem dX10_see_5 : decode cX10_see 5 = .ok (.aload_n 0, 1) := by decide +kernel
theorem dX10_see_6 : decode cX10_see 6 = .ok (.getfield 15, 3) := by decide +kernel
theorem dX10_see_9 : decode cX10_see 9 = .ok (.iconst 3, 1) := by decide +kernel
theorem dX10_see_10 : decode cX10_see 10 = .ok (.iconst 0, 1) := by decide +kernel
theorem dX10_see_11 : decode cX10_see 11 = .ok (.iastore, 1) := by decide +kernel
theorem dX10_see_12 : decode cX10_see 12 = .ok (.iconst 0, 1) := by decide +kernel
theorem dX10_see_13 : decode cX10_see 13 = .ok (.ireturn, 1) := by decide +kernel
theorem dX10_see_14 : decode cX10_see 14 = .ok (.aload_n 0, 1) := by decide +kernel
theorem dX10_see_15 : decode cX10_see 15 = .ok (.iload_n 1, 1) := by decide +kernel
theorem dX10_see_16 : decode cX10_see 16 = .ok (.invokevirtual 233, 3) := by decide +kernel
theorem dX10_see_19 : decode cX10_see 19 = .ok (.iconst (-1), 1) := by decide +kernel
theorem dX10_see_20 : decode cX10_see 20 = .ok (.if_icmp .eq 12, 3) := by decide +kernel
theorem dX10_see_23 : decode cX10_see 23 = .ok (.aload_n 0, 1) := by decide +kernel
theorem dX10_see_24 : decode cX10_see 24 = .ok (.iload_n 2, 1) := by decide +kernel
theorem dX10_see_25 : decode cX10_see 25 = .ok (.invokevirtual 233, 3) := by decide +kernel
theorem dX10_see_28 : decode cX10_see 28 = .ok (.iconst (-1), 1) := by decide +kernel
theorem dX10_see_29 : decode cX10_see 29 = .ok (.if_icmp .ne 6, 3) := by decide +kernel
theorem dX10_see_32 : decode cX10_see 32 = .ok (.bipush (-2), 2) := by decide +kernel
theorem dX10_see_34 : decode cX10_see 34 = .ok (.ireturn, 1) := by decide +kernel
theorem dX10_see_35 : decode cX10_see 35 = .ok (.aload_n 0, 1) := by decide +kernel
theorem dX10_see_36 : decode cX10_see 36 = .ok (.getfield 15, 3) := by decide +kernel
theorem dX10_see_39 : decode cX10_see 39 = .ok (.iconst 3, 1) := by decide +kernel
theorem dX10_see_40 : decode cX10_see 40 = .ok (.iaload, 1) := by decide +kernel
theorem dX10_see_41 : decode cX10_see 41 = .ok (.iconst 5, 1) := by decide +kernel
theorem dX10_see_42 : decode cX10_see 42 = .ok (.if_icmp .ne 6, 3) := by decide +kernel
theorem dX10_see_45 : decode cX10_see 45 = .ok (.bipush (-4), 2) := by decide +kernel
theorem dX10_see_47 : decode cX10_see 47 = .ok (.ireturn, 1) := by decide +kernel
theorem dX10_see_48 : decode cX10_see 48 = .ok (.bipush 46, 2) := by decide +kernel
theorem dX10_see_50 : decode cX10_see 50 = .ok (.iconst 4, 1) := by decide +kernel
theorem dX10_see_51 : decode cX10_see 51 = .ok (.aload_n 0, 1) := by decide +kernel
theorem dX10_see_52 : decode cX10_see 52 = .ok (.getfield 15, 3) := by decide +kernel
theorem dX10_see_55 : decode cX10_see 55 = .ok (.iconst 3, 1) := by decide +kernel
theorem dX10_see_56 : decode cX10_see 56 = .ok (.iaload, 1) := by decide +kernel
theorem dX10_see_57 : decode cX10_see 57 = .ok (.imul, 1) := by decide +kernel
theorem dX10_see_58 : decode cX10_see 58 = .ok (.iadd, 1) := by decide +kernel
theorem dX10_see_59 : decode cX10_see 59 = .ok (.istore 4, 2) := by decide +kernel
theorem dX10_see_61 : decode cX10_see 61 = .ok (.aload_n 0, 1) := by decide +kernel
theorem dX10_see_62 : decode cX10_see 62 = .ok (.getfield 15, 3) := by decide +kernel
theorem dX10_see_65 : decode cX10_see 65 = .ok (.iload 4, 2) := by decide +kernel
theorem dX10_see_67 : decode cX10_see 67 = .ok (.iload_n 1, 1) := by decide +kernel
theorem dX10_see_68 : decode cX10_see 68 = .ok (.iastore, 1) := by decide +kernel
theorem dX10_see_69 : decode cX10_see 69 = .ok (.aload_n 0, 1) := by decide +kernel
theorem dX10_see_70 : decode cX10_see 70 = .ok (.getfield 15, 3) := by decide +kernel
theorem dX10_see_73 : decode cX10_see 73 = .ok (.iload 4, 2) := by decide +kernel
theorem dX10_see_75 : decode cX10_see 75 = .ok (.iconst 1, 1) := by decide +kernel
theorem dX10_see_76 : decode cX10_see 76 = .ok (.iadd, 1) := by decide +kernel
theorem dX10_see_77 : decode cX10_see 77 = .ok (.iload_n 2, 1) := by decide +kernel
theorem dX10_see_78 : decode cX10_see 78 = .ok (.iastore, 1) := by decide +kernel
theorem dX10_see_79 : decode cX10_see 79 = .ok (.aload_n 0, 1) := by decide +kernel
theorem dX10_see_80 : decode cX10_see 80 = .ok (.getfield 15, 3) := by decide +kernel
theorem dX10_see_83 : decode cX10_see 83 = .ok (.iload 4, 2) := by decide +kernel
theorem dX10_see_85 : decode cX10_see 85 = .ok (.iconst 2, 1) := by decide +kernel
theorem dX10_see_86 : decode cX10_see 86 = .ok (.iadd, 1) := by decide +kernel
theorem dX10_see_87 : decode cX10_see 87 = .ok (.iload_n 3, 1) := by decide +kernel
theorem dX10_see_88 : decode cX10_see 88 = .ok (.ifCond .eq 7, 3) := by decide +kernel
theorem dX10_see_91 : decode cX10_see 91 = .ok (.iconst 1, 1) := by decide +kernel
theorem dX10_see_92 : decode cX10_see 92 = .ok (.goto 4, 3) := by decide +kernel
theorem dX10_see_95 : decode cX10_see 95 = .ok (.iconst 0, 1) := by decide +kernel
theorem dX10_see_96 : decode cX10_see 96 = .ok (.iastore, 1) := by decide +kernel
theorem dX10_see_97 : decode cX10_see 97 = .ok (.aload_n 0, 1) := by decide +kernel
theorem dX10_see_98 : decode cX10_see 98 = .ok (.getfield 15, 3) := by decide +kernel
theorem dX10_see_101 : decode cX10_see 101 = .ok (.iload 4, 2) := by decide +kernel
theorem dX10_see_103 : decode cX10_see 103 = .ok (.iconst 3, 1) := by decide +kernel
theorem dX10_see_104 : decode cX10_see 104 = .ok (.iadd, 1) := by decide +kernel
theorem dX10_see_105 : decode cX10_see 105 = .ok (.aload_n 0, 1) := by decide +kernel
theorem dX10_see_106 : decode cX10_see 106 = .ok (.getfield 15, 3) := by decide +kernel
theorem dX10_see_109 : decode cX10_see 109 = .ok (.iconst 0, 1) := by decide +kernel
theorem dX10_see_110 : decode cX10_see 110 = .ok (.iaload, 1) := by decide +kernel
theorem dX10_see_111 : decode cX10_see 111 = .ok (.iastore, 1) := by decide +kernel
theorem dX10_see_112 : decode cX10_see 112 = .ok (.aload_n 0, 1) := by decide +kernel
theorem dX10_see_113 : decode cX10_see 113 = .ok (.getfield 15, 3) := by decide +kernel
theorem dX10_see_116 : decode cX10_see 116 = .ok (.iconst 3, 1) := by decide +kernel
theorem dX10_see_117 : decode cX10_see 117 = .ok (.dup2, 1) := by decide +kernel
theorem dX10_see_118 : decode cX10_see 118 = .ok (.iaload, 1) := by decide +kernel
theorem dX10_see_119 : decode cX10_see 119 = .ok (.iconst 1, 1) := by decide +kernel
theorem dX10_see_120 : decode cX10_see 120 = .ok (.iadd, 1) := by decide +kernel
theorem dX10_see_121 : decode cX10_see 121 = .ok (.iastore, 1) := by decide +kernel
theorem dX10_see_122 : decode cX10_see 122 = .ok (.aload_n 0, 1) := by decide +kernel
theorem dX10_see_123 : decode cX10_see 123 = .ok (.getfield 15, 3) := by decide +kernel
theorem dX10_see_126 : decode cX10_see 126 = .ok (.iconst 3, 1) := by decide +kernel
theorem dX10_see_127 : decode cX10_see 127 = .ok (.iaload, 1) := by decide +kernel
theorem dX10_see_128 : decode cX10_see 128 = .ok (.ireturn, 1) := by decide +kernel
theorem dX10_isSo_0 : decode cX10_isSo 0 = .ok (.bipush 46, 2) := by decide +kernel
theorem dX10_isSo_2 : decode cX10_isSo 2 = .ok (.iconst 4, 1) := by decide +kernel
theorem dX10_isSo_3 : decode cX10_isSo 3 = .ok (.iload_n 1, 1) := by decide +kernel
theorem dX10_isSo_4 : decode cX10_isSo 4 = .ok (.imul, 1) := by decide +kernel
theorem dX10_isSo_5 : decode cX10_isSo 5 = .ok (.iadd, 1) := by decide +kernel
theorem dX10_isSo_6 : decode cX10_isSo 6 = .ok (.istore_n 2, 1) := by decide +kernel
theorem dX10_isSo_7 : decode cX10_isSo 7 = .ok (.aload_n 0, 1) := by decide +kernel
theorem dX10_isSo_8 : decode cX10_isSo 8 = .ok (.aload_n 0, 1) := by decide +kernel
theorem dX10_isSo_9 : decode cX10_isSo 9 = .ok (.getfield 15, 3) := by decide +kernel
theorem dX10_isSo_12 : decode cX10_isSo 12 = .ok (.iload_n 2, 1) := by decide +kernel
theorem dX10_isSo_13 : decode cX10_isSo 13 = .ok (.iaload, 1) := by decide +kernel
theorem dX10_isSo_14 : decode cX10_isSo 14 = .ok (.invokevirtual 233, 3) := by decide +kernel
theorem dX10_isSo_17 : decode cX10_isSo 17 = .ok (.istore_n 3, 1) := by decide +kernel
theorem dX10_isSo_18 : decode cX10_isSo 18 = .ok (.aload_n 0, 1) := by decide +kernel
theorem dX10_isSo_19 : decode cX10_isSo 19 = .ok (.aload_n 0, 1) := by decide +kernel
theorem dX10_isSo_20 : decode cX10_isSo 20 = .ok (.getfield 15, 3) := by decide +kernel
theorem dX10_isSo_23 : decode cX10_isSo 23 = .ok (.iload_n 2, 1) := by decide +kernel
theorem dX10_isSo_24 : decode cX10_isSo 24 = .ok (.iconst 1, 1) := by decide +kernel
theorem dX10_isSo_25 : decode cX10_isSo 25 = .ok (.iadd, 1) := by decide +kernel
theorem dX10_isSo_26 : decode cX10_isSo 26 = .ok (.iaload, 1) := by decide +kernel
theorem dX10_isSo_27 : decode cX10_isSo 27 = .ok (.invokevirtual 233, 3) := by decide +kernel
theorem dX10_isSo_30 : decode cX10_isSo 30 = .ok (.istore 4, 2) := by decide +kernel
theorem dX10_isSo_32 : decode cX10_isSo 32 = .ok (.aload_n 0, 1) := by decide +kernel
theorem dX10_isSo_33 : decode cX10_isSo 33 = .ok (.getfield 15, 3) := by decide +kernel
theorem dX10_isSo_36 : decode cX10_isSo 36 = .ok (.iload_n 2, 1) := by decide +kernel
theorem dX10_isSo_37 : decode cX10_isSo 37 = .ok (.iconst 3, 1) := by decide +kernel
theorem dX10_isSo_38 : decode cX10_isSo 38 = .ok (.iadd, 1) := by decide +kernel
theorem dX10_isSo_39 : decode cX10_isSo 39 = .ok (.iaload, 1) := by decide +kernel
theorem dX10_isSo_40 : decode cX10_isSo 40 = .ok (.aload_n 0, 1) := by decide +kernel
theorem dX10_isSo_41 : decode cX10_isSo 41 = .ok (.getfield 15, 3) := by decide +kernel
theorem dX10_isSo_44 : decode cX10_isSo 44 = .ok (.iconst 0, 1) := by decide +kernel
theorem dX10_isSo_45 : decode cX10_isSo 45 = .ok (.iaload, 1) := by decide +kernel
theorem dX10_isSo_46 : decode cX10_isSo 46 = .ok (.if_icmp .ne 14, 3) := by decide +kernel
theorem dX10_isSo_49 : decode cX10_isSo 49 = .ok (.iload_n 3, 1) := by decide +kernel
theorem dX10_isSo_50 : decode cX10_isSo 50 = .ok (.iconst (-1), 1) := by decide +kernel
theorem dX10_isSo_51 : decode cX10_isSo 51 = .ok (.if_icmp .eq 9, 3) := by decide +kernel
theorem dX10_isSo_54 : decode cX10_isSo 54 = .ok (.iload 4, 2) := by decide +kernel
theorem dX10_isSo_56 : decode cX10_isSo 56 = .ok (.iconst (-1), 1) := by decide +kernel
theorem dX10_isSo_57 : decode cX10_isSo 57 = .ok (.if_icmp .ne 5, 3) := by decide +kernel
theorem dX10_isSo_60 : decode cX10_isSo 60 = .ok (.iconst 0, 1) := by decide +kernel
theorem dX10_isSo_61 : decode cX10_isSo 61 = .ok (.ireturn, 1) := by decide +kernel
theorem dX10_isSo_62 : decode cX10_isSo 62 = .ok (.aload_n 0, 1) := by decide +kernel
theorem dX10_isSo_63 : decode cX10_isSo 63 = .ok (.iconst 1, 1) := by decide +kernel
theorem dX10_isSo_64 : decode cX10_isSo 64 = .ok (.iload_n 3, 1) := by decide +kernel
theorem dX10_isSo_65 : decode cX10_isSo 65 = .ok (.invokevirtual 195, 3) := by decide +kernel
theorem dX10_isSo_68 : decode cX10_isSo 68 = .ok (.aload_n 0, 1) := by decide +kernel
theorem dX10_isSo_69 : decode cX10_isSo 69 = .ok (.iconst 1, 1) := by decide +kernel
theorem dX10_isSo_70 : decode cX10_isSo 70 = .ok (.iload 4, 2) := by decide +kernel
theorem dX10_isSo_72 : decode cX10_isSo 72 = .ok (.invokevirtual 195, 3) := by decide +kernel
theorem dX10_isSo_75 : decode cX10_isSo 75 = .ok (.if_icmp .ne 7, 3) := by decide +kernel
theorem dX10_isSo_78 : decode cX10_isSo 78 = .ok (.iconst 1, 1) := by decide +kernel
theorem dX10_isSo_79 : decode cX10_isSo 79 = .ok (.goto 4, 3) := by decide +kernel
theorem dX10_isSo_82 : decode cX10_isSo 82 = .ok (.iconst 0, 1) := by decide +kernel
theorem dX10_isSo_83 : decode cX10_isSo 83 = .ok (.aload_n 0, 1) := by decide +kernel
theorem dX10_isSo_84 : decode cX10_isSo 84 = .ok (.getfield 15, 3) := by decide +kernel
theorem dX10_isSo_87 : decode cX10_isSo 87 = .ok (.iload_n 2, 1) := by decide +kernel
theorem dX10_isSo_88 : decode cX10_isSo 88 = .ok (.iconst 2, 1) := by decide +kernel
theorem dX10_isSo_89 : decode cX10_isSo 89 = .ok (.iadd, 1) := by decide +kernel
theorem dX10_isSo_90 : decode cX10_isSo 90 = .ok (.iaload, 1) := by decide +kernel
theorem dX10_isSo_91 : decode cX10_isSo 91 = .ok (.iconst 1, 1) := by decide +kernel
theorem dX10_isSo_92 : decode cX10_isSo 92 = .ok (.if_icmp .ne 7, 3) := by decide +kernel
theorem dX10_isSo_95 : decode cX10_isSo 95 = .ok (.iconst 1, 1) := by decide +kernel
theorem dX10_isSo_96 : decode cX10_isSo 96 = .ok (.goto 4, 3) := by decide +kernel
theorem dX10_isSo_99 : decode cX10_isSo 99 = .ok (.iconst 0, 1) := by decide +kernel
theorem dX10_isSo_100 : decode cX10_isSo 100 = .ok (.if_icmp .ne 7, 3) := by decide +kernel
theorem dX10_isSo_103 : decode cX10_isSo 103 = .ok (.iconst 1, 1) := by decide +kernel
theorem dX10_isSo_104 : decode cX10_isSo 104 = .ok (.goto 4, 3) := by decide +kernel
theorem dX10_isSo_107 : decode cX10_isSo 107 = .ok (.iconst 0, 1) := by decide +kernel
theorem dX10_isSo_108 : decode cX10_isSo 108 = .ok (.ireturn, 1) := by decide +kernel
theorem dX10_isAllSo_0 : decode cX10_isAllSo 0 = .ok (.iconst 0, 1) := by decide +kernel
theorem dX10_isAllSo_1 : decode cX10_isAllSo 1 = .ok (.istore_n 1, 1) := by decide +kernel
theorem dX10_isAllSo_2 : decode cX10_isAllSo 2 = .ok (.iload_n 1, 1) := by decide +kernel
theorem dX10_isAllSo_3 : decode cX10_isAllSo 3 = .ok (.aload_n 0, 1) := by decide +kernel
theorem dX10_isAllSo_4 : decode cX10_isAllSo 4 = .ok (.getfield 15, 3) := by decide +kernel
theorem dX10_isAllSo_7 : decode cX10_isAllSo 7 = .ok (.iconst 3, 1) := by decide +kernel
theorem dX10_isAllSo_8 : decode cX10_isAllSo 8 = .ok (.iaload, 1) := by decide +kernel
theorem dX10_isAllSo_9 : decode cX10_isAllSo 9 = .ok (.if_icmp .ge 19, 3) := by decide +kernel
theorem dX10_isAllSo_12 : decode cX10_isAllSo 12 = .ok (.aload_n 0, 1) := by decide +kernel
theorem dX10_isAllSo_13 : decode cX10_isAllSo 13 = .ok (.iload_n 1, 1) := by decide +kernel
theorem dX10_isAllSo_14 : decode cX10_isAllSo 14 = .ok (.invokevirtual 314, 3) := by decide +kernel
theorem dX10_isAllSo_17 : decode cX10_isAllSo 17 = .ok (.ifCond .ne 5, 3) := by decide +kernel
theorem dX10_isAllSo_20 : decode cX10_isAllSo 20 = .ok (.iconst 0, 1) := by decide +kernel
theorem dX10_isAllSo_21 : decode cX10_isAllSo 21 = .ok (.ireturn, 1) := by decide +kernel
theorem dX10_isAllSo_22 : decode cX10_isAllSo 22 = .ok (.iinc 1 1, 3) := by decide +kernel
theorem dX10_isAllSo_25 : decode cX10_isAllSo 25 = .ok (.goto (-23), 3) := by decide +kernel
theorem dX10_isAllSo_28 : decode cX10_isAllSo 28 = .ok (.iconst 1, 1) := by decide +kernel
theorem dX10_isAllSo_29 : decode cX10_isAllSo 29 = .ok (.ireturn, 1) := by decide +kernel
theorem dX10_fits_0 : decode cX10_fits 0 = .ok (.iload_n 1, 1) := by decide +kernel
theorem dX10_fits_1 : decode cX10_fits 1 = .ok (.i2l, 1) := by decide +kernel
theorem dX10_fits_2 : decode cX10_fits 2 = .ok (.lconst 0, 1) := by decide +kernel
theorem dX10_fits_3 : decode cX10_fits 3 = .ok (.lconst 1, 1) := by decide +kernel
theorem dX10_fits_4 : decode cX10_fits 4 = .ok (.invokestatic 85, 3) := by decide +kernel
theorem dX10_fits_7 : decode cX10_fits 7 = .ok (.ifCond .ne 5, 3) := by decide +kernel
theorem dX10_fits_10 : decode cX10_fits 10 = .ok (.iconst (-1), 1) := by decide +kernel
theorem dX10_fits_11 : decode cX10_fits 11 = .ok (.ireturn, 1) := by decide +kernel
theorem dX10_fits_12 : decode cX10_fits 12 = .ok (.iconst 0, 1) := by decide +kernel
theorem dX10_fits_13 : decode cX10_fits 13 = .ok (.istore_n 2, 1) := by decide +kernel
theorem dX10_fits_14 : decode cX10_fits 14 = .ok (.bipush (-5), 2) := by decide +kernel
theorem dX10_fits_16 : decode cX10_fits 16 = .ok (.istore_n 3, 1) := by decide +kernel
theorem dX10_fits_17 : decode cX10_fits 17 = .ok (.aload_n 0, 1) := by decide +kernel
theorem dX10_fits_18 : decode cX10_fits 18 = .ok (.invokevirtual 126, 3) := by decide +kernel
theorem dX10_fits_21 : decode cX10_fits 21 = .ok (.istore 4, 2) := by decide +kernel
theorem dX10_fits_23 : decode cX10_fits 23 = .ok (.iload 4, 2) := by decide +kernel
theorem dX10_fits_25 : decode cX10_fits 25 = .ok (.ifCond .lt 32, 3) := by decide +kernel
theorem dX10_fits_28 : decode cX10_fits 28 = .ok (.aload_n 0, 1) := by decide +kernel
theorem dX10_fits_29 : decode cX10_fits 29 = .ok (.iload 4, 2) := by decide +kernel
theorem dX10_fits_31 : decode cX10_fits 31 = .ok (.invokevirtual 130, 3) := by decide +kernel
theorem dX10_fits_34 : decode cX10_fits 34 = .ok (.pop, 1) := by decide +kernel
theorem dX10_fits_35 : decode cX10_fits 35 = .ok (.aload_n 0, 1) := by decide +kernel
theorem dX10_fits_36 : decode cX10_fits 36 = .ok (.invokevirtual 317, 3) := by decide +kernel
theorem dX10_fits_39 : decode cX10_fits 39 = .ok (.ifCond .ne 6, 3) := by decide +kernel
theorem dX10_fits_42 : decode cX10_fits 42 = .ok (.goto 9, 3) := by decide +kernel
theorem dX10_fits_45 : decode cX10_fits 45 = .ok (.iinc 2 1, 3) := by decide +kernel
theorem dX10_fits_48 : decode cX10_fits 48 = .ok (.iload 4, 2) := by decide +kernel
theorem dX10_fits_50 : decode cX10_fits 50 = .ok (.istore_n 3, 1) := by decide +kernel
theorem dX10_fits_51 : decode cX10_fits 51 = .ok (.iinc 4 (-1), 3) := by decide +kernel
theorem dX10_fits_54 : decode cX10_fits 54 = .ok (.goto (-31), 3) := by decide +kernel
theorem dX10_fits_57 : decode cX10_fits 57 = .ok (.iload_n 1, 1) := by decide +kernel
theorem dX10_fits_58 : decode cX10_fits 58 = .ok (.ifCond .ne 7, 3) := by decide +kernel
theorem dX10_fits_61 : decode cX10_fits 61 = .ok (.iload_n 2, 1) := by decide +kernel
theorem dX10_fits_62 : decode cX10_fits 62 = .ok (.goto 4, 3) := by decide +kernel
theorem dX10_fits_65 : decode cX10_fits 65 = .ok (.iload_n 3, 1) := by decide +kernel
theorem dX10_fits_66 : decode cX10_fits 66 = .ok (.ireturn, 1) := by decide +kernel
theorem dX10_event_0 : decode cX10_event 0 = .ok (.iload_n 1, 1) := by decide +kernel
theorem dX10_event_1 : decode cX10_event 1 = .ok (.iconst (-1), 1) := by decide +kernel
theorem dX10_event_2 : decode cX10_event 2 = .ok (.if_icmp .ne 12, 3) := by decide +kernel
theorem dX10_event_5 : decode cX10_event 5 = .ok (.aload_n 0, 1) := by decide +kernel
theorem dX10_event_6 : decode cX10_event 6 = .ok (.getfield 15, 3) := by decide +kernel
theorem dX10_event_9 : decode cX10_event 9 = .ok (.iconst 4, 1) := by decide +kernel
theorem dX10_event_10 : decode cX10_event 10 = .ok (.iconst 0, 1) := by decide +kernel
theorem dX10_event_11 : decode cX10_event 11 = .ok (.iastore, 1) := by decide +kernel
theorem dX10_event_12 : decode cX10_event 12 = .ok (.iconst 0, 1) := by decide +kernel
theorem dX10_event_13 : decode cX10_event 13 = .ok (.ireturn, 1) := by decide +kernel
theorem dX10_event_14 : decode cX10_event 14 = .ok (.iload_n 1, 1) := by decide +kernel
theorem dX10_event_15 : decode cX10_event 15 = .ok (.i2l, 1) := by decide +kernel
theorem dX10_event_16 : decode cX10_event 16 = .ok (.lconst 0, 1) := by decide +kernel
theorem dX10_event_17 : decode cX10_event 17 = .ok (.ldc2_w 81, 3) := by decide +kernel
theorem dX10_event_20 : decode cX10_event 20 = .ok (.invokestatic 85, 3) := by decide +kernel
theorem dX10_event_23 : decode cX10_event 23 = .ok (.ifCond .ne 5, 3) := by decide +kernel
theorem dX10_event_26 : decode cX10_event 26 = .ok (.iconst (-1), 1) := by decide +kernel
theorem dX10_event_27 : decode cX10_event 27 = .ok (.ireturn, 1) := by decide +kernel
theorem dX10_event_28 : decode cX10_event 28 = .ok (.iload_n 1, 1) := by decide +kernel
theorem dX10_event_29 : decode cX10_event 29 = .ok (.ifCond .ne 18, 3) := by decide +kernel
theorem dX10_event_32 : decode cX10_event 32 = .ok (.iload_n 2, 1) := by decide +kernel
theorem dX10_event_33 : decode cX10_event 33 = .ok (.i2l, 1) := by decide +kernel
theorem dX10_event_34 : decode cX10_event 34 = .ok (.lconst 1, 1) := by decide +kernel
theorem dX10_event_35 : decode cX10_event 35 = .ok (.ldc2_w 89, 3) := by decide +kernel
theorem dX10_event_38 : decode cX10_event 38 = .ok (.invokestatic 85, 3) := by decide +kernel
theorem dX10_event_41 : decode cX10_event 41 = .ok (.ifCond .ne 21, 3) := by decide +kernel
theorem dX10_event_44 : decode cX10_event 44 = .ok (.goto 15, 3) := by decide +kernel
theorem dX10_event_47 : decode cX10_event 47 = .ok (.iload_n 2, 1) := by decide +kernel
theorem dX10_event_48 : decode cX10_event 48 = .ok (.i2l, 1) := by decide +kernel
theorem dX10_event_49 : decode cX10_event 49 = .ok (.lconst 0, 1) := by decide +kernel
theorem dX10_event_50 : decode cX10_event 50 = .ok (.ldc2_w 91, 3) := by decide +kernel
theorem dX10_event_53 : decode cX10_event 53 = .ok (.invokestatic 85, 3) := by decide +kernel
theorem dX10_event_56 : decode cX10_event 56 = .ok (.ifCond .ne 6, 3) := by decide +kernel
theorem dX10_event_59 : decode cX10_event 59 = .ok (.bipush (-2), 2) := by decide +kernel
theorem dX10_event_61 : decode cX10_event 61 = .ok (.ireturn, 1) := by decide +kernel
theorem dX10_event_62 : decode cX10_event 62 = .ok (.aload_n 0, 1) := by decide +kernel
theorem dX10_event_63 : decode cX10_event 63 = .ok (.getfield 15, 3) := by decide +kernel
theorem dX10_event_66 : decode cX10_event 66 = .ok (.iconst 4, 1) := by decide +kernel
theorem dX10_event_67 : decode cX10_event 67 = .ok (.iaload, 1) := by decide +kernel
theorem dX10_event_68 : decode cX10_event 68 = .ok (.bipush 8, 2) := by decide +kernel
theorem dX10_event_70 : decode cX10_event 70 = .ok (.if_icmp .ne 6, 3) := by decide +kernel
theorem dX10_event_73 : decode cX10_event 73 = .ok (.bipush (-4), 2) := by decide +kernel
theorem dX10_event_75 : decode cX10_event 75 = .ok (.ireturn, 1) := by decide +kernel
theorem dX10_event_76 : decode cX10_event 76 = .ok (.aload_n 0, 1) := by decide +kernel
theorem dX10_event_77 : decode cX10_event 77 = .ok (.getfield 15, 3) := by decide +kernel
theorem dX10_event_80 : decode cX10_event 80 = .ok (.bipush 66, 2) := by decide +kernel
theorem dX10_event_82 : decode cX10_event 82 = .ok (.iconst 2, 1) := by decide +kernel
theorem dX10_event_83 : decode cX10_event 83 = .ok (.aload_n 0, 1) := by decide +kernel
theorem dX10_event_84 : decode cX10_event 84 = .ok (.getfield 15, 3) := by decide +kernel
theorem dX10_event_87 : decode cX10_event 87 = .ok (.iconst 4, 1) := by decide +kernel
theorem dX10_event_88 : decode cX10_event 88 = .ok (.iaload, 1) := by decide +kernel
theorem dX10_event_89 : decode cX10_event 89 = .ok (.imul, 1) := by decide +kernel
theorem dX10_event_90 : decode cX10_event 90 = .ok (.iadd, 1) := by decide +kernel
theorem dX10_event_91 : decode cX10_event 91 = .ok (.iload_n 1, 1) := by decide +kernel
theorem dX10_event_92 : decode cX10_event 92 = .ok (.iastore, 1) := by decide +kernel
theorem dX10_event_93 : decode cX10_event 93 = .ok (.aload_n 0, 1) := by decide +kernel
theorem dX10_event_94 : decode cX10_event 94 = .ok (.getfield 15, 3) := by decide +kernel
theorem dX10_event_97 : decode cX10_event 97 = .ok (.bipush 66, 2) := by decide +kernel
theorem dX10_event_99 : decode cX10_event 99 = .ok (.iconst 2, 1) := by decide +kernel
theorem dX10_event_100 : decode cX10_event 100 = .ok (.aload_n 0, 1) := by decide +kernel
theorem dX10_event_101 : decode cX10_event 101 = .ok (.getfield 15, 3) := by decide +kernel
theorem dX10_event_104 : decode cX10_event 104 = .ok (.iconst 4, 1) := by decide +kernel
theorem dX10_event_105 : decode cX10_event 105 = .ok (.iaload, 1) := by decide +kernel
theorem dX10_event_106 : decode cX10_event 106 = .ok (.imul, 1) := by decide +kernel
theorem dX10_event_107 : decode cX10_event 107 = .ok (.iadd, 1) := by decide +kernel
theorem dX10_event_108 : decode cX10_event 108 = .ok (.iconst 1, 1) := by decide +kernel
theorem dX10_event_109 : decode cX10_event 109 = .ok (.iadd, 1) := by decide +kernel
theorem dX10_event_110 : decode cX10_event 110 = .ok (.iload_n 2, 1) := by decide +kernel
theorem dX10_event_111 : decode cX10_event 111 = .ok (.iastore, 1) := by decide +kernel
theorem dX10_event_112 : decode cX10_event 112 = .ok (.aload_n 0, 1) := by decide +kernel
theorem dX10_event_113 : decode cX10_event 113 = .ok (.getfield 15, 3) := by decide +kernel
theorem dX10_event_116 : decode cX10_event 116 = .ok (.iconst 4, 1) := by decide +kernel
theorem dX10_event_117 : decode cX10_event 117 = .ok (.dup2, 1) := by decide +kernel
theorem dX10_event_118 : decode cX10_event 118 = .ok (.iaload, 1) := by decide +kernel
theorem dX10_event_119 : decode cX10_event 119 = .ok (.iconst 1, 1) := by decide +kernel
theorem dX10_event_120 : decode cX10_event 120 = .ok (.iadd, 1) := by decide +kernel
theorem dX10_event_121 : decode cX10_event 121 = .ok (.iastore, 1) := by decide +kernel
theorem dX10_event_122 : decode cX10_event 122 = .ok (.aload_n 0, 1) := by decide +kernel
theorem dX10_event_123 : decode cX10_event 123 = .ok (.getfield 15, 3) := by decide +kernel
theorem dX10_event_126 : decode cX10_event 126 = .ok (.iconst 4, 1) := by decide +kernel
theorem dX10_event_127 : decode cX10_event 127 = .ok (.iaload, 1) := by decide +kernel
theorem dX10_event_128 : decode cX10_event 128 = .ok (.ireturn, 1) := by decide +kernel
theorem dX10_happens_0 : decode cX10_happens 0 = .ok (.iload_n 1, 1) := by decide +kernel
theorem dX10_happens_1 : decode cX10_happens 1 = .ok (.ifCond .ne 12, 3) := by decide +kernel
theorem dX10_happens_4 : decode cX10_happens 4 = .ok (.aload_n 0, 1) := by decide +kernel
theorem dX10_happens_5 : decode cX10_happens 5 = .ok (.getfield 15, 3) := by decide +kernel
theorem dX10_happens_8 : decode cX10_happens 8 = .ok (.iconst 1, 1) := by decide +kernel
theorem dX10_happens_9 : decode cX10_happens 9 = .ok (.iload_n 2, 1) := by decide +kernel
theorem dX10_happens_10 : decode cX10_happens 10 = .ok (.iastore, 1) := by decide +kernel
theorem dX10_happens_11 : decode cX10_happens 11 = .ok (.iload_n 3, 1) := by decide +kernel
theorem dX10_happens_12 : decode cX10_happens 12 = .ok (.ireturn, 1) := by decide +kernel
theorem dX10_happens_13 : decode cX10_happens 13 = .ok (.iload_n 3, 1) := by decide +kernel
theorem dX10_happens_14 : decode cX10_happens 14 = .ok (.iload_n 2, 1) := by decide +kernel
theorem dX10_happens_15 : decode cX10_happens 15 = .ok (.invokestatic 110, 3) := by decide +kernel
theorem dX10_happens_18 : decode cX10_happens 18 = .ok (.ifCond .ne 5, 3) := by decide +kernel
theorem dX10_happens_21 : decode cX10_happens 21 = .ok (.iload_n 3, 1) := by decide +kernel
theorem dX10_happens_22 : decode cX10_happens 22 = .ok (.ireturn, 1) := by decide +kernel
theorem dX10_happens_23 : decode cX10_happens 23 = .ok (.iload_n 1, 1) := by decide +kernel
theorem dX10_happens_24 : decode cX10_happens 24 = .ok (.iconst 1, 1) := by decide +kernel
theorem dX10_happens_25 : decode cX10_happens 25 = .ok (.if_icmp .ne 11, 3) := by decide +kernel
theorem dX10_happens_28 : decode cX10_happens 28 = .ok (.iload_n 3, 1) := by decide +kernel
theorem dX10_happens_29 : decode cX10_happens 29 = .ok (.iconst 1, 1) := by decide +kernel
theorem dX10_happens_30 : decode cX10_happens 30 = .ok (.iload_n 2, 1) := by decide +kernel
theorem dX10_happens_31 : decode cX10_happens 31 = .ok (.ishl, 1) := by decide +kernel
theorem dX10_happens_32 : decode cX10_happens 32 = .ok (.iconst (-1), 1) := by decide +kernel
theorem dX10_happens_33 : decode cX10_happens 33 = .ok (.ixor, 1) := by decide +kernel
theorem dX10_happens_34 : decode cX10_happens 34 = .ok (.iand, 1) := by decide +kernel
theorem dX10_happens_35 : decode cX10_happens 35 = .ok (.ireturn, 1) := by decide +kernel
theorem dX10_happens_36 : decode cX10_happens 36 = .ok (.aload_n 0, 1) := by decide +kernel
theorem dX10_happens_37 : decode cX10_happens 37 = .ok (.getfield 15, 3) := by decide +kernel
theorem dX10_happens_40 : decode cX10_happens 40 = .ok (.bipush 33, 2) := by decide +kernel
theorem dX10_happens_42 : decode cX10_happens 42 = .ok (.iload_n 2, 1) := by decide +kernel
theorem dX10_happens_43 : decode cX10_happens 43 = .ok (.iadd, 1) := by decide +kernel
theorem dX10_happens_44 : decode cX10_happens 44 = .ok (.dup2, 1) := by decide +kernel
theorem dX10_happens_45 : decode cX10_happens 45 = .ok (.iaload, 1) := by decide +kernel
theorem dX10_happens_46 : decode cX10_happens 46 = .ok (.iconst 1, 1) := by decide +kernel
theorem dX10_happens_47 : decode cX10_happens 47 = .ok (.ixor, 1) := by decide +kernel
theorem dX10_happens_48 : decode cX10_happens 48 = .ok (.iastore, 1) := by decide +kernel
theorem dX10_happens_49 : decode cX10_happens 49 = .ok (.aload_n 0, 1) := by decide +kernel
theorem dX10_happens_50 : decode cX10_happens 50 = .ok (.iload_n 3, 1) := by decide +kernel
theorem dX10_happens_51 : decode cX10_happens 51 = .ok (.invokevirtual 130, 3) := by decide +kernel
theorem dX10_happens_54 : decode cX10_happens 54 = .ok (.ifCond .ne 16, 3) := by decide +kernel
theorem dX10_happens_57 : decode cX10_happens 57 = .ok (.aload_n 0, 1) := by decide +kernel
theorem dX10_happens_58 : decode cX10_happens 58 = .ok (.getfield 15, 3) := by decide +kernel
theorem dX10_happens_61 : decode cX10_happens 61 = .ok (.bipush 33, 2) := by decide +kernel
theorem dX10_happens_63 : decode cX10_happens 63 = .ok (.iload_n 2, 1) := by decide +kernel
theorem dX10_happens_64 : decode cX10_happens 64 = .ok (.iadd, 1) := by decide +kernel
theorem dX10_happens_65 : decode cX10_happens 65 = .ok (.dup2, 1) := by decide +kernel
theorem dX10_happens_66 : decode cX10_happens 66 = .ok (.iaload, 1) := by decide +kernel
theorem dX10_happens_67 : decode cX10_happens 67 = .ok (.iconst 1, 1) := by decide +kernel
theorem dX10_happens_68 : decode cX10_happens 68 = .ok (.ixor, 1) := by decide +kernel
theorem dX10_happens_69 : decode cX10_happens 69 = .ok (.iastore, 1) := by decide +kernel
theorem dX10_happens_70 : decode cX10_happens 70 = .ok (.iload_n 3, 1) := by decide +kernel
theorem dX10_happens_71 : decode cX10_happens 71 = .ok (.ireturn, 1) := by decide +kernel
theorem dX10_after_0 : decode cX10_after 0 = .ok (.aload_n 0, 1) := by decide +kernel
theorem dX10_after_1 : decode cX10_after 1 = .ok (.getfield 15, 3) := by decide +kernel
theorem dX10_after_4 : decode cX10_after 4 = .ok (.aload_n 0, 1) := by decide +kernel
theorem dX10_after_5 : decode cX10_after 5 = .ok (.getfield 65, 3) := by decide +kernel
theorem dX10_after_8 : decode cX10_after 8 = .ok (.invokestatic 321, 3) := by decide +kernel
theorem dX10_after_11 : decode cX10_after 11 = .ok (.aload_n 0, 1) := by decide +kernel
theorem dX10_after_12 : decode cX10_after 12 = .ok (.invokevirtual 126, 3) := by decide +kernel
theorem dX10_after_15 : decode cX10_after 15 = .ok (.istore_n 1, 1) := by decide +kernel
theorem dX10_after_16 : decode cX10_after 16 = .ok (.iconst 0, 1) := by decide +kernel
theorem dX10_after_17 : decode cX10_after 17 = .ok (.istore_n 2, 1) := by decide +kernel
theorem dX10_after_18 : decode cX10_after 18 = .ok (.iload_n 2, 1) := by decide +kernel
theorem dX10_after_19 : decode cX10_after 19 = .ok (.aload_n 0, 1) := by decide +kernel
theorem dX10_after_20 : decode cX10_after 20 = .ok (.getfield 15, 3) := by decide +kernel
theorem dX10_after_23 : decode cX10_after 23 = .ok (.iconst 4, 1) := by decide +kernel
theorem dX10_after_24 : decode cX10_after 24 = .ok (.iaload, 1) := by decide +kernel
theorem dX10_after_25 : decode cX10_after 25 = .ok (.if_icmp .ge 39, 3) := by decide +kernel
theorem dX10_after_28 : decode cX10_after 28 = .ok (.aload_n 0, 1) := by decide +kernel
theorem dX10_after_29 : decode cX10_after 29 = .ok (.aload_n 0, 1) := by decide +kernel
theorem dX10_after_30 : decode cX10_after 30 = .ok (.getfield 15, 3) := by decide +kernel
theorem dX10_after_33 : decode cX10_after 33 = .ok (.bipush 66, 2) := by decide +kernel
theorem dX10_after_35 : decode cX10_after 35 = .ok (.iconst 2, 1) := by decide +kernel
theorem dX10_after_36 : decode cX10_after 36 = .ok (.iload_n 2, 1) := by decide +kernel
theorem dX10_after_37 : decode cX10_after 37 = .ok (.imul, 1) := by decide +kernel
theorem dX10_after_38 : decode cX10_after 38 = .ok (.iadd, 1) := by decide +kernel
theorem dX10_after_39 : decode cX10_after 39 = .ok (.iaload, 1) := by decide +kernel
theorem dX10_after_40 : decode cX10_after 40 = .ok (.aload_n 0, 1) := by decide +kernel
theorem dX10_after_41 : decode cX10_after 41 = .ok (.getfield 15, 3) := by decide +kernel
theorem dX10_after_44 : decode cX10_after 44 = .ok (.bipush 66, 2) := by decide +kernel
theorem dX10_after_46 : decode cX10_after 46 = .ok (.iconst 2, 1) := by decide +kernel
theorem dX10_after_47 : decode cX10_after 47 = .ok (.iload_n 2, 1) := by decide +kernel
theorem dX10_after_48 : decode cX10_after 48 = .ok (.imul, 1) := by decide +kernel
theorem dX10_after_49 : decode cX10_after 49 = .ok (.iadd, 1) := by decide +kernel
theorem dX10_after_50 : decode cX10_after 50 = .ok (.iconst 1, 1) := by decide +kernel
theorem dX10_after_51 : decode cX10_after 51 = .ok (.iadd, 1) := by decide +kernel
theorem dX10_after_52 : decode cX10_after 52 = .ok (.iaload, 1) := by decide +kernel
theorem dX10_after_53 : decode cX10_after 53 = .ok (.iload_n 1, 1) := by decide +kernel
theorem dX10_after_54 : decode cX10_after 54 = .ok (.invokevirtual 325, 3) := by decide +kernel
theorem dX10_after_57 : decode cX10_after 57 = .ok (.istore_n 1, 1) := by decide +kernel
theorem dX10_after_58 : decode cX10_after 58 = .ok (.iinc 2 1, 3) := by decide +kernel
theorem dX10_after_61 : decode cX10_after 61 = .ok (.goto (-43), 3) := by decide +kernel
theorem dX10_after_64 : decode cX10_after 64 = .ok (.aload_n 0, 1) := by decide +kernel
theorem dX10_after_65 : decode cX10_after 65 = .ok (.iload_n 1, 1) := by decide +kernel
theorem dX10_after_66 : decode cX10_after 66 = .ok (.invokevirtual 130, 3) := by decide +kernel
theorem dX10_after_69 : decode cX10_after 69 = .ok (.pop, 1) := by decide +kernel
theorem dX10_after_70 : decode cX10_after 70 = .ok (.aload_n 0, 1) := by decide +kernel
theorem dX10_after_71 : decode cX10_after 71 = .ok (.iconst 1, 1) := by decide +kernel
theorem dX10_after_72 : decode cX10_after 72 = .ok (.invokevirtual 189, 3) := by decide +kernel
theorem dX10_after_75 : decode cX10_after 75 = .ok (.aload_n 0, 1) := by decide +kernel
theorem dX10_after_76 : decode cX10_after 76 = .ok (.getfield 65, 3) := by decide +kernel
theorem dX10_after_79 : decode cX10_after 79 = .ok (.aload_n 0, 1) := by decide +kernel
theorem dX10_after_80 : decode cX10_after 80 = .ok (.getfield 15, 3) := by decide +kernel
theorem dX10_after_83 : decode cX10_after 83 = .ok (.invokestatic 321, 3) := by decide +kernel
theorem dX10_after_86 : decode cX10_after 86 = .ok (.aload_n 0, 1) := by decide +kernel
theorem dX10_after_87 : decode cX10_after 87 = .ok (.getfield 183, 3) := by decide +kernel
theorem dX10_after_90 : decode cX10_after 90 = .ok (.ireturn, 1) := by decide +kernel
theorem dX10_judge_0 : decode cX10_judge 0 = .ok (.iload_n 1, 1) := by decide +kernel
theorem dX10_judge_1 : decode cX10_judge 1 = .ok (.invokestatic 222, 3) := by decide +kernel
theorem dX10_judge_4 : decode cX10_judge 4 = .ok (.ifCond .eq 10, 3) := by decide +kernel
theorem dX10_judge_7 : decode cX10_judge 7 = .ok (.iload_n 2, 1) := by decide +kernel
theorem dX10_judge_8 : decode cX10_judge 8 = .ok (.invokestatic 329, 3) := by decide +kernel
theorem dX10_judge_11 : decode cX10_judge 11 = .ok (.ifCond .ne 5, 3) := by decide +kernel
theorem dX10_judge_14 : decode cX10_judge 14 = .ok (.iconst (-1), 1) := by decide +kernel
theorem dX10_judge_15 : decode cX10_judge 15 = .ok (.ireturn, 1) := by decide +kernel
theorem dX10_judge_16 : decode cX10_judge 16 = .ok (.aload_n 0, 1) := by decide +kernel
theorem dX10_judge_17 : decode cX10_judge 17 = .ok (.getfield 68, 3) := by decide +kernel
theorem dX10_judge_20 : decode cX10_judge 20 = .ok (.iload_n 2, 1) := by decide +kernel
theorem dX10_judge_21 : decode cX10_judge 21 = .ok (.iaload, 1) := by decide +kernel
theorem dX10_judge_22 : decode cX10_judge 22 = .ok (.iconst (-1), 1) := by decide +kernel
theorem dX10_judge_23 : decode cX10_judge 23 = .ok (.if_icmp .eq 16, 3) := by decide +kernel
theorem dX10_judge_26 : decode cX10_judge 26 = .ok (.aload_n 0, 1) := by decide +kernel
theorem dX10_judge_27 : decode cX10_judge 27 = .ok (.getfield 68, 3) := by decide +kernel
theorem dX10_judge_30 : decode cX10_judge 30 = .ok (.iload_n 2, 1) := by decide +kernel
theorem dX10_judge_31 : decode cX10_judge 31 = .ok (.iaload, 1) := by decide +kernel
theorem dX10_judge_32 : decode cX10_judge 32 = .ok (.iconst 2, 1) := by decide +kernel
theorem dX10_judge_33 : decode cX10_judge 33 = .ok (.if_icmp .eq 6, 3) := by decide +kernel
theorem dX10_judge_36 : decode cX10_judge 36 = .ok (.bipush (-12), 2) := by decide +kernel
theorem dX10_judge_38 : decode cX10_judge 38 = .ok (.ireturn, 1) := by decide +kernel
theorem dX10_judge_39 : decode cX10_judge 39 = .ok (.aload_n 0, 1) := by decide +kernel
theorem dX10_judge_40 : decode cX10_judge 40 = .ok (.getfield 68, 3) := by decide +kernel
theorem dX10_judge_43 : decode cX10_judge 43 = .ok (.iload_n 2, 1) := by decide +kernel
theorem dX10_judge_44 : decode cX10_judge 44 = .ok (.iaload, 1) := by decide +kernel
theorem dX10_judge_45 : decode cX10_judge 45 = .ok (.iconst (-1), 1) := by decide +kernel
theorem dX10_judge_46 : decode cX10_judge 46 = .ok (.if_icmp .eq 7, 3) := by decide +kernel
theorem dX10_judge_49 : decode cX10_judge 49 = .ok (.iload_n 3, 1) := by decide +kernel
theorem dX10_judge_50 : decode cX10_judge 50 = .ok (.ifCond .ge 6, 3) := by decide +kernel
theorem dX10_judge_53 : decode cX10_judge 53 = .ok (.bipush 100, 2) := by decide +kernel
theorem dX10_judge_55 : decode cX10_judge 55 = .ok (.ireturn, 1) := by decide +kernel
theorem dX10_judge_56 : decode cX10_judge 56 = .ok (.aload_n 0, 1) := by decide +kernel
theorem dX10_judge_57 : decode cX10_judge 57 = .ok (.iload_n 1, 1) := by decide +kernel
theorem dX10_judge_58 : decode cX10_judge 58 = .ok (.invokevirtual 204, 3) := by decide +kernel
theorem dX10_judge_61 : decode cX10_judge 61 = .ok (.iconst 0, 1) := by decide +kernel
theorem dX10_judge_62 : decode cX10_judge 62 = .ok (.istore 4, 2) := by decide +kernel
theorem dX10_judge_64 : decode cX10_judge 64 = .ok (.iload 4, 2) := by decide +kernel
theorem dX10_judge_66 : decode cX10_judge 66 = .ok (.aload_n 0, 1) := by decide +kernel
theorem dX10_judge_67 : decode cX10_judge 67 = .ok (.getfield 183, 3) := by decide +kernel
theorem dX10_judge_70 : decode cX10_judge 70 = .ok (.if_icmp .ge 65, 3) := by decide +kernel
theorem dX10_judge_73 : decode cX10_judge 73 = .ok (.iload_n 3, 1) := by decide +kernel
theorem dX10_judge_74 : decode cX10_judge 74 = .ok (.i2l, 1) := by decide +kernel
theorem dX10_judge_75 : decode cX10_judge 75 = .ok (.iload 4, 2) := by decide +kernel
theorem dX10_judge_77 : decode cX10_judge 77 = .ok (.i2l, 1) := by decide +kernel
theorem dX10_judge_78 : decode cX10_judge 78 = .ok (.ladd, 1) := by decide +kernel
theorem dX10_judge_79 : decode cX10_judge 79 = .ok (.aload_n 0, 1) := by decide +kernel
theorem dX10_judge_80 : decode cX10_judge 80 = .ok (.getfield 71, 3) := by decide +kernel
theorem dX10_judge_83 : decode cX10_judge 83 = .ok (.iload_n 2, 1) := by decide +kernel
theorem dX10_judge_84 : decode cX10_judge 84 = .ok (.iaload, 1) := by decide +kernel
theorem dX10_judge_85 : decode cX10_judge 85 = .ok (.i2l, 1) := by decide +kernel
theorem dX10_judge_86 : decode cX10_judge 86 = .ok (.lcmp, 1) := by decide +kernel
theorem dX10_judge_87 : decode cX10_judge 87 = .ok (.ifCond .lt 9, 3) := by decide +kernel
theorem dX10_judge_90 : decode cX10_judge 90 = .ok (.bipush 100, 2) := by decide +kernel
theorem dX10_judge_92 : decode cX10_judge 92 = .ok (.iload 4, 2) := by decide +kernel
theorem dX10_judge_94 : decode cX10_judge 94 = .ok (.iadd, 1) := by decide +kernel
theorem dX10_judge_95 : decode cX10_judge 95 = .ok (.ireturn, 1) := by decide +kernel
theorem dX10_judge_96 : decode cX10_judge 96 = .ok (.aload_n 0, 1) := by decide +kernel
theorem dX10_judge_97 : decode cX10_judge 97 = .ok (.getfield 74, 3) := by decide +kernel
theorem dX10_judge_100 : decode cX10_judge 100 = .ok (.bipush 60, 2) := by decide +kernel
theorem dX10_judge_102 : decode cX10_judge 102 = .ok (.iload_n 2, 1) := by decide +kernel
theorem dX10_judge_103 : decode cX10_judge 103 = .ok (.imul, 1) := by decide +kernel
theorem dX10_judge_104 : decode cX10_judge 104 = .ok (.iload_n 3, 1) := by decide +kernel
theorem dX10_judge_105 : decode cX10_judge 105 = .ok (.iadd, 1) := by decide +kernel
theorem dX10_judge_106 : decode cX10_judge 106 = .ok (.iload 4, 2) := by decide +kernel
theorem dX10_judge_108 : decode cX10_judge 108 = .ok (.iadd, 1) := by decide +kernel
theorem dX10_judge_109 : decode cX10_judge 109 = .ok (.laload, 1) := by decide +kernel
theorem dX10_judge_110 : decode cX10_judge 110 = .ok (.aload_n 0, 1) := by decide +kernel
theorem dX10_judge_111 : decode cX10_judge 111 = .ok (.aload_n 0, 1) := by decide +kernel
theorem dX10_judge_112 : decode cX10_judge 112 = .ok (.getfield 40, 3) := by decide +kernel
theorem dX10_judge_115 : decode cX10_judge 115 = .ok (.iload 4, 2) := by decide +kernel
theorem dX10_judge_117 : decode cX10_judge 117 = .ok (.iaload, 1) := by decide +kernel
theorem dX10_judge_118 : decode cX10_judge 118 = .ok (.invokevirtual 236, 3) := by decide +kernel
theorem dX10_judge_121 : decode cX10_judge 121 = .ok (.i2l, 1) := by decide +kernel
theorem dX10_judge_122 : decode cX10_judge 122 = .ok (.lcmp, 1) := by decide +kernel
theorem dX10_judge_123 : decode cX10_judge 123 = .ok (.ifCond .eq 6, 3) := by decide +kernel
theorem dX10_judge_126 : decode cX10_judge 126 = .ok (.iload 4, 2) := by decide +kernel
theorem dX10_judge_128 : decode cX10_judge 128 = .ok (.ireturn, 1) := by decide +kernel
theorem dX10_judge_129 : decode cX10_judge 129 = .ok (.iinc 4 1, 3) := by decide +kernel
theorem dX10_judge_132 : decode cX10_judge 132 = .ok (.goto (-68), 3) := by decide +kernel
theorem dX10_judge_135 : decode cX10_judge 135 = .ok (.bipush (-5), 2) := by decide +kernel
theorem dX10_judge_137 : decode cX10_judge 137 = .ok (.ireturn, 1) := by decide +kernel
theorem dX10_moveCount_0 : decode cX10_moveCount 0 = .ok (.aload_n 0, 1) := by decide +kernel
theorem dX10_moveCount_1 : decode cX10_moveCount 1 = .ok (.invokevirtual 163, 3) := by decide +kernel
theorem dX10_moveCount_4 : decode cX10_moveCount 4 = .ok (.aload_n 0, 1) := by decide +kernel
theorem dX10_moveCount_5 : decode cX10_moveCount 5 = .ok (.getfield 107, 3) := by decide +kernel
theorem dX10_moveCount_8 : decode cX10_moveCount 8 = .ok (.ireturn, 1) := by decide +kernel
theorem dX10_image_0 : decode cX10_image 0 = .ok (.aload_n 0, 1) := by decide +kernel
theorem dX10_image_1 : decode cX10_image 1 = .ok (.getfield 15, 3) := by decide +kernel
theorem dX10_image_4 : decode cX10_image 4 = .ok (.aload_n 0, 1) := by decide +kernel
theorem dX10_image_5 : decode cX10_image 5 = .ok (.getfield 19, 3) := by decide +kernel
theorem dX10_image_8 : decode cX10_image 8 = .ok (.invokestatic 321, 3) := by decide +kernel
theorem dX10_image_11 : decode cX10_image 11 = .ok (.aload_n 0, 1) := by decide +kernel
theorem dX10_image_12 : decode cX10_image 12 = .ok (.iconst 1, 1) := by decide +kernel
theorem dX10_image_13 : decode cX10_image 13 = .ok (.putfield 332, 3) := by decide +kernel
theorem dX10_image_16 : decode cX10_image 16 = .ok (.aload_n 0, 1) := by decide +kernel
theorem dX10_image_17 : decode cX10_image 17 = .ok (.invokevirtual 336, 3) := by decide +kernel
theorem dX10_image_20 : decode cX10_image 20 = .ok (.ireturn, 1) := by decide +kernel
theorem dX10_undo_0 : decode cX10_undo 0 = .ok (.aload_n 0, 1) := by decide +kernel
theorem dX10_undo_1 : decode cX10_undo 1 = .ok (.getfield 332, 3) := by decide +kernel
theorem dX10_undo_4 : decode cX10_undo 4 = .ok (.ifCond .ne 6, 3) := by decide +kernel
theorem dX10_undo_7 : decode cX10_undo 7 = .ok (.bipush (-3), 2) := by decide +kernel
theorem dX10_undo_9 : decode cX10_undo 9 = .ok (.ireturn, 1) := by decide +kernel
theorem dX10_undo_10 : decode cX10_undo 10 = .ok (.aload_n 0, 1) := by decide +kernel
theorem dX10_undo_11 : decode cX10_undo 11 = .ok (.getfield 19, 3) := by decide +kernel
theorem dX10_undo_14 : decode cX10_undo 14 = .ok (.aload_n 0, 1) := by decide +kernel
theorem dX10_undo_15 : decode cX10_undo 15 = .ok (.getfield 15, 3) := by decide +kernel
theorem dX10_undo_18 : decode cX10_undo 18 = .ok (.invokestatic 321, 3) := by decide +kernel
theorem dX10_undo_21 : decode cX10_undo 21 = .ok (.aload_n 0, 1) := by decide +kernel
theorem dX10_undo_22 : decode cX10_undo 22 = .ok (.invokevirtual 336, 3) := by decide +kernel
theorem dX10_undo_25 : decode cX10_undo 25 = .ok (.ireturn, 1) := by decide +kernel
theorem dX10_count_0 : decode cX10_count 0 = .ok (.iload_n 1, 1) := by decide +kernel
theorem dX10_count_1 : decode cX10_count 1 = .ok (.ifCond .ne 12, 3) := by decide +kernel
theorem dX10_count_4 : decode cX10_count 4 = .ok (.aload_n 0, 1) := by decide +kernel
theorem dX10_count_5 : decode cX10_count 5 = .ok (.getfield 15, 3) := by decide +kernel
theorem dX10_count_8 : decode cX10_count 8 = .ok (.iconst 3, 1) := by decide +kernel
theorem dX10_count_9 : decode cX10_count 9 = .ok (.iaload, 1) := by decide +kernel
theorem dX10_count_10 : decode cX10_count 10 = .ok (.goto 31, 3) := by decide +kernel
theorem dX10_count_13 : decode cX10_count 13 = .ok (.iload_n 1, 1) := by decide +kernel
theorem dX10_count_14 : decode cX10_count 14 = .ok (.iconst 1, 1) := by decide +kernel
theorem dX10_count_15 : decode cX10_count 15 = .ok (.if_icmp .ne 12, 3) := by decide +kernel
theorem dX10_count_18 : decode cX10_count 18 = .ok (.aload_n 0, 1) := by decide +kernel
theorem dX10_count_19 : decode cX10_count 19 = .ok (.getfield 15, 3) := by decide +kernel
theorem dX10_count_22 : decode cX10_count 22 = .ok (.iconst 4, 1) := by decide +kernel
theorem dX10_count_23 : decode cX10_count 23 = .ok (.iaload, 1) := by decide +kernel
theorem dX10_count_24 : decode cX10_count 24 = .ok (.goto 17, 3) := by decide +kernel
theorem dX10_count_27 : decode cX10_count 27 = .ok (.iload_n 1, 1) := by decide +kernel
theorem dX10_count_28 : decode cX10_count 28 = .ok (.iconst 2, 1) := by decide +kernel
theorem dX10_count_29 : decode cX10_count 29 = .ok (.if_icmp .ne 10, 3) := by decide +kernel
theorem dX10_count_32 : decode cX10_count 32 = .ok (.aload_n 0, 1) := by decide +kernel
theorem dX10_count_33 : decode cX10_count 33 = .ok (.getfield 267, 3) := by decide +kernel
theorem dX10_count_36 : decode cX10_count 36 = .ok (.goto 5, 3) := by decide +kernel
theorem dX10_count_39 : decode cX10_count 39 = .ok (.bipush (-2), 2) := by decide +kernel
theorem dX10_count_41 : decode cX10_count 41 = .ok (.ireturn, 1) := by decide +kernel
theorem dX10_isTape_0 : decode cX10_isTape 0 = .ok (.iload_n 0, 1) := by decide +kernel
theorem dX10_isTape_1 : decode cX10_isTape 1 = .ok (.i2l, 1) := by decide +kernel
theorem dX10_isTape_2 : decode cX10_isTape 2 = .ok (.lconst 0, 1) := by decide +kernel
theorem dX10_isTape_3 : decode cX10_isTape 3 = .ok (.ldc2_w 339, 3) := by decide +kernel
theorem dX10_isTape_6 : decode cX10_isTape 6 = .ok (.invokestatic 85, 3) := by decide +kernel
theorem dX10_isTape_9 : decode cX10_isTape 9 = .ok (.ireturn, 1) := by decide +kernel
theorem dX10_tape_0 : decode cX10_tape 0 = .ok (.iload_n 1, 1) := by decide +kernel
theorem dX10_tape_1 : decode cX10_tape 1 = .ok (.invokestatic 329, 3) := by decide +kernel
theorem dX10_tape_4 : decode cX10_tape 4 = .ok (.ifCond .ne 5, 3) := by decide +kernel
theorem dX10_tape_7 : decode cX10_tape 7 = .ok (.iconst (-1), 1) := by decide +kernel
theorem dX10_tape_8 : decode cX10_tape 8 = .ok (.ireturn, 1) := by decide +kernel
theorem dX10_tape_9 : decode cX10_tape 9 = .ok (.iload_n 2, 1) := by decide +kernel
theorem dX10_tape_10 : decode cX10_tape 10 = .ok (.i2l, 1) := by decide +kernel
theorem dX10_tape_11 : decode cX10_tape 11 = .ok (.ldc2_w 341, 3) := by decide +kernel
theorem dX10_tape_14 : decode cX10_tape 14 = .ok (.ldc2_w 89, 3) := by decide +kernel
theorem dX10_tape_17 : decode cX10_tape 17 = .ok (.invokestatic 85, 3) := by decide +kernel
theorem dX10_tape_20 : decode cX10_tape 20 = .ok (.ifCond .eq 14, 3) := by decide +kernel
theorem dX10_tape_23 : decode cX10_tape 23 = .ok (.iload_n 2, 1) := by decide +kernel
theorem dX10_tape_24 : decode cX10_tape 24 = .ok (.iconst (-1), 1) := by decide +kernel
theorem dX10_tape_25 : decode cX10_tape 25 = .ok (.if_icmp .eq 12, 3) := by decide +kernel
theorem dX10_tape_28 : decode cX10_tape 28 = .ok (.iload_n 3, 1) := by decide +kernel
theorem dX10_tape_29 : decode cX10_tape 29 = .ok (.bipush 60, 2) := by decide +kernel
theorem dX10_tape_31 : decode cX10_tape 31 = .ok (.if_icmp .le 6, 3) := by decide +kernel
theorem dX10_tape_34 : decode cX10_tape 34 = .ok (.bipush (-2), 2) := by decide +kernel
theorem dX10_tape_36 : decode cX10_tape 36 = .ok (.ireturn, 1) := by decide +kernel
theorem dX10_tape_37 : decode cX10_tape 37 = .ok (.iload_n 2, 1) := by decide +kernel
theorem dX10_tape_38 : decode cX10_tape 38 = .ok (.iconst (-1), 1) := by decide +kernel
theorem dX10_tape_39 : decode cX10_tape 39 = .ok (.if_icmp .eq 10, 3) := by decide +kernel
theorem dX10_tape_42 : decode cX10_tape 42 = .ok (.iload_n 3, 1) := by decide +kernel
theorem dX10_tape_43 : decode cX10_tape 43 = .ok (.ifCond .ge 6, 3) := by decide +kernel
theorem dX10_tape_46 : decode cX10_tape 46 = .ok (.bipush (-14), 2) := by decide +kernel
theorem dX10_tape_48 : decode cX10_tape 48 = .ok (.ireturn, 1) := by decide +kernel
theorem dX10_tape_49 : decode cX10_tape 49 = .ok (.aload_n 0, 1) := by decide +kernel
theorem dX10_tape_50 : decode cX10_tape 50 = .ok (.getfield 68, 3) := by decide +kernel
theorem dX10_tape_53 : decode cX10_tape 53 = .ok (.iload_n 1, 1) := by decide +kernel
theorem dX10_tape_54 : decode cX10_tape 54 = .ok (.iload_n 2, 1) := by decide +kernel
theorem dX10_tape_55 : decode cX10_tape 55 = .ok (.iastore, 1) := by decide +kernel
theorem dX10_tape_56 : decode cX10_tape 56 = .ok (.aload_n 0, 1) := by decide +kernel
theorem dX10_tape_57 : decode cX10_tape 57 = .ok (.getfield 71, 3) := by decide +kernel
theorem dX10_tape_60 : decode cX10_tape 60 = .ok (.iload_n 1, 1) := by decide +kernel
theorem dX10_tape_61 : decode cX10_tape 61 = .ok (.iload_n 2, 1) := by decide +kernel
theorem dX10_tape_62 : decode cX10_tape 62 = .ok (.iconst (-1), 1) := by decide +kernel
theorem dX10_tape_63 : decode cX10_tape 63 = .ok (.if_icmp .ne 7, 3) := by decide +kernel
theorem dX10_tape_66 : decode cX10_tape 66 = .ok (.iconst 0, 1) := by decide +kernel
theorem dX10_tape_67 : decode cX10_tape 67 = .ok (.goto 4, 3) := by decide +kernel
theorem dX10_tape_70 : decode cX10_tape 70 = .ok (.iload_n 3, 1) := by decide +kernel
theorem dX10_tape_71 : decode cX10_tape 71 = .ok (.iastore, 1) := by decide +kernel
theorem dX10_tape_72 : decode cX10_tape 72 = .ok (.iconst 0, 1) := by decide +kernel
theorem dX10_tape_73 : decode cX10_tape 73 = .ok (.istore 4, 2) := by decide +kernel
theorem dX10_tape_75 : decode cX10_tape 75 = .ok (.iload 4, 2) := by decide +kernel
theorem dX10_tape_77 : decode cX10_tape 77 = .ok (.bipush 60, 2) := by decide +kernel
theorem dX10_tape_79 : decode cX10_tape 79 = .ok (.if_icmp .ge 22, 3) := by decide +kernel
theorem dX10_tape_82 : decode cX10_tape 82 = .ok (.aload_n 0, 1) := by decide +kernel
theorem dX10_tape_83 : decode cX10_tape 83 = .ok (.getfield 74, 3) := by decide +kernel
theorem dX10_tape_86 : decode cX10_tape 86 = .ok (.bipush 60, 2) := by decide +kernel
theorem dX10_tape_88 : decode cX10_tape 88 = .ok (.iload_n 1, 1) := by decide +kernel
theorem dX10_tape_89 : decode cX10_tape 89 = .ok (.imul, 1) := by decide +kernel
theorem dX10_tape_90 : decode cX10_tape 90 = .ok (.iload 4, 2) := by decide +kernel
theorem dX10_tape_92 : decode cX10_tape 92 = .ok (.iadd, 1) := by decide +kernel
theorem dX10_tape_93 : decode cX10_tape 93 = .ok (.lconst 0, 1) := by decide +kernel
theorem dX10_tape_94 : decode cX10_tape 94 = .ok (.lastore, 1) := by decide +kernel
theorem dX10_tape_95 : decode cX10_tape 95 = .ok (.iinc 4 1, 3) := by decide +kernel
theorem dX10_tape_98 : decode cX10_tape 98 = .ok (.goto (-23), 3) := by decide +kernel
theorem dX10_tape_101 : decode cX10_tape 101 = .ok (.iconst 1, 1) := by decide +kernel
theorem dX10_tape_102 : decode cX10_tape 102 = .ok (.ireturn, 1) := by decide +kernel
theorem dX10_item_0 : decode cX10_item 0 = .ok (.iload_n 1, 1) := by decide +kernel
theorem dX10_item_1 : decode cX10_item 1 = .ok (.invokestatic 329, 3) := by decide +kernel
theorem dX10_item_4 : decode cX10_item 4 = .ok (.ifCond .ne 5, 3) := by decide +kernel
theorem dX10_item_7 : decode cX10_item 7 = .ok (.iconst (-1), 1) := by decide +kernel
theorem dX10_item_8 : decode cX10_item 8 = .ok (.ireturn, 1) := by decide +kernel
theorem dX10_item_9 : decode cX10_item 9 = .ok (.aload_n 0, 1) := by decide +kernel
theorem dX10_item_10 : decode cX10_item 10 = .ok (.getfield 68, 3) := by decide +kernel
theorem dX10_item_13 : decode cX10_item 13 = .ok (.iload_n 1, 1) := by decide +kernel
theorem dX10_item_14 : decode cX10_item 14 = .ok (.iaload, 1) := by decide +kernel
theorem dX10_item_15 : decode cX10_item 15 = .ok (.iconst (-1), 1) := by decide +kernel
theorem dX10_item_16 : decode cX10_item 16 = .ok (.if_icmp .ne 6, 3) := by decide +kernel
theorem dX10_item_19 : decode cX10_item 19 = .ok (.bipush (-11), 2) := by decide +kernel
theorem dX10_item_21 : decode cX10_item 21 = .ok (.ireturn, 1) := by decide +kernel
theorem dX10_item_22 : decode cX10_item 22 = .ok (.iload_n 2, 1) := by decide +kernel
theorem dX10_item_23 : decode cX10_item 23 = .ok (.i2l, 1) := by decide +kernel
theorem dX10_item_24 : decode cX10_item 24 = .ok (.lconst 0, 1) := by decide +kernel
theorem dX10_item_25 : decode cX10_item 25 = .ok (.aload_n 0, 1) := by decide +kernel
theorem dX10_item_26 : decode cX10_item 26 = .ok (.getfield 71, 3) := by decide +kernel
theorem dX10_item_29 : decode cX10_item 29 = .ok (.iload_n 1, 1) := by decide +kernel
theorem dX10_item_30 : decode cX10_item 30 = .ok (.iaload, 1) := by decide +kernel
theorem dX10_item_31 : decode cX10_item 31 = .ok (.iconst 1, 1) := by decide +kernel
theorem dX10_item_32 : decode cX10_item 32 = .ok (.isub, 1) := by decide +kernel
theorem dX10_item_33 : decode cX10_item 33 = .ok (.i2l, 1) := by decide +kernel
theorem dX10_item_34 : decode cX10_item 34 = .ok (.invokestatic 85, 3) := by decide +kernel
theorem dX10_item_37 : decode cX10_item 37 = .ok (.ifCond .ne 6, 3) := by decide +kernel
theorem dX10_item_40 : decode cX10_item 40 = .ok (.bipush (-13), 2) := by decide +kernel
theorem dX10_item_42 : decode cX10_item 42 = .ok (.ireturn, 1) := by decide +kernel
theorem dX10_item_43 : decode cX10_item 43 = .ok (.aload_n 0, 1) := by decide +kernel
theorem dX10_item_44 : decode cX10_item 44 = .ok (.getfield 68, 3) := by decide +kernel
theorem dX10_item_47 : decode cX10_item 47 = .ok (.iload_n 1, 1) := by decide +kernel
theorem dX10_item_48 : decode cX10_item 48 = .ok (.iaload, 1) := by decide +kernel
theorem dX10_item_49 : decode cX10_item 49 = .ok (.istore 5, 2) := by decide +kernel
theorem dX10_item_51 : decode cX10_item 51 = .ok (.aload_n 0, 1) := by decide +kernel
theorem dX10_item_52 : decode cX10_item 52 = .ok (.getfield 74, 3) := by decide +kernel
theorem dX10_item_55 : decode cX10_item 55 = .ok (.bipush 60, 2) := by decide +kernel
theorem dX10_item_57 : decode cX10_item 57 = .ok (.iload_n 1, 1) := by decide +kernel
theorem dX10_item_58 : decode cX10_item 58 = .ok (.imul, 1) := by decide +kernel
theorem dX10_item_59 : decode cX10_item 59 = .ok (.iload_n 2, 1) := by decide +kernel
theorem dX10_item_60 : decode cX10_item 60 = .ok (.iadd, 1) := by decide +kernel
theorem dX10_item_61 : decode cX10_item 61 = .ok (.iload 5, 2) := by decide +kernel
theorem dX10_item_63 : decode cX10_item 63 = .ok (.ifCond .ne 10, 3) := by decide +kernel
theorem dX10_item_66 : decode cX10_item 66 = .ok (.lload_n 3, 1) := by decide +kernel
theorem dX10_item_67 : decode cX10_item 67 = .ok (.l2i, 1) := by decide +kernel
theorem dX10_item_68 : decode cX10_item 68 = .ok (.i2b, 1) := by decide +kernel
theorem dX10_item_69 : decode cX10_item 69 = .ok (.i2l, 1) := by decide +kernel
theorem dX10_item_70 : decode cX10_item 70 = .ok (.goto 49, 3) := by decide +kernel
theorem dX10_item_73 : decode cX10_item 73 = .ok (.iload 5, 2) := by decide +kernel
theorem dX10_item_75 : decode cX10_item 75 = .ok (.iconst 1, 1) := by decide +kernel
theorem dX10_item_76 : decode cX10_item 76 = .ok (.if_icmp .ne 10, 3) := by decide +kernel
theorem dX10_item_79 : decode cX10_item 79 = .ok (.lload_n 3, 1) := by decide +kernel
theorem dX10_item_80 : decode cX10_item 80 = .ok (.l2i, 1) := by decide +kernel
theorem dX10_item_81 : decode cX10_item 81 = .ok (.i2s, 1) := by decide +kernel
theorem dX10_item_82 : decode cX10_item 82 = .ok (.i2l, 1) := by decide +kernel
theorem dX10_item_83 : decode cX10_item 83 = .ok (.goto 36, 3) := by decide +kernel
theorem dX10_item_86 : decode cX10_item 86 = .ok (.iload 5, 2) := by decide +kernel
theorem dX10_item_88 : decode cX10_item 88 = .ok (.iconst 2, 1) := by decide +kernel
theorem dX10_item_89 : decode cX10_item 89 = .ok (.if_icmp .ne 9, 3) := by decide +kernel
theorem dX10_item_92 : decode cX10_item 92 = .ok (.lload_n 3, 1) := by decide +kernel
theorem dX10_item_93 : decode cX10_item 93 = .ok (.l2i, 1) := by decide +kernel
theorem dX10_item_94 : decode cX10_item 94 = .ok (.i2l, 1) := by decide +kernel
theorem dX10_item_95 : decode cX10_item 95 = .ok (.goto 24, 3) := by decide +kernel
theorem dX10_item_98 : decode cX10_item 98 = .ok (.iload 5, 2) := by decide +kernel
theorem dX10_item_100 : decode cX10_item 100 = .ok (.iconst 3, 1) := by decide +kernel
theorem dX10_item_101 : decode cX10_item 101 = .ok (.if_icmp .ne 7, 3) := by decide +kernel
theorem dX10_item_104 : decode cX10_item 104 = .ok (.lload_n 3, 1) := by decide +kernel
theorem dX10_item_105 : decode cX10_item 105 = .ok (.goto 14, 3) := by decide +kernel
theorem dX10_item_108 : decode cX10_item 108 = .ok (.lload_n 3, 1) := by decide +kernel
theorem dX10_item_109 : decode cX10_item 109 = .ok (.lconst 0, 1) := by decide +kernel
theorem dX10_item_110 : decode cX10_item 110 = .ok (.lcmp, 1) := by decide +kernel
theorem dX10_item_111 : decode cX10_item 111 = .ok (.ifCond .eq 7, 3) := by decide +kernel
theorem dX10_item_114 : decode cX10_item 114 = .ok (.lconst 1, 1) := by decide +kernel
theorem dX10_item_115 : decode cX10_item 115 = .ok (.goto 4, 3) := by decide +kernel
theorem dX10_item_118 : decode cX10_item 118 = .ok (.lconst 0, 1) := by decide +kernel
theorem dX10_item_119 : decode cX10_item 119 = .ok (.lastore, 1) := by decide +kernel
theorem dX10_item_120 : decode cX10_item 120 = .ok (.iconst 1, 1) := by decide +kernel
theorem dX10_item_121 : decode cX10_item 121 = .ok (.ireturn, 1) := by decide +kernel
theorem dX10_peek_0 : decode cX10_peek 0 = .ok (.iload_n 1, 1) := by decide +kernel
theorem dX10_peek_1 : decode cX10_peek 1 = .ok (.invokestatic 329, 3) := by decide +kernel
theorem dX10_peek_4 : decode cX10_peek 4 = .ok (.ifCond .eq 45, 3) := by decide +kernel
theorem dX10_peek_7 : decode cX10_peek 7 = .ok (.aload_n 0, 1) := by decide +kernel
theorem dX10_peek_8 : decode cX10_peek 8 = .ok (.getfield 68, 3) := by decide +kernel
theorem dX10_peek_11 : decode cX10_peek 11 = .ok (.iload_n 1, 1) := by decide +kernel
theorem dX10_peek_12 : decode cX10_peek 12 = .ok (.iaload, 1) := by decide +kernel
theorem dX10_peek_13 : decode cX10_peek 13 = .ok (.iconst (-1), 1) := by decide +kernel
theorem dX10_peek_14 : decode cX10_peek 14 = .ok (.if_icmp .eq 35, 3) := by decide +kernel
theorem dX10_peek_17 : decode cX10_peek 17 = .ok (.iload_n 2, 1) := by decide +kernel
theorem dX10_peek_18 : decode cX10_peek 18 = .ok (.i2l, 1) := by decide +kernel
theorem dX10_peek_19 : decode cX10_peek 19 = .ok (.lconst 0, 1) := by decide +kernel
theorem dX10_peek_20 : decode cX10_peek 20 = .ok (.aload_n 0, 1) := by decide +kernel
theorem dX10_peek_21 : decode cX10_peek 21 = .ok (.getfield 71, 3) := by decide +kernel
theorem dX10_peek_24 : decode cX10_peek 24 = .ok (.iload_n 1, 1) := by decide +kernel
theorem dX10_peek_25 : decode cX10_peek 25 = .ok (.iaload, 1) := by decide +kernel
theorem dX10_peek_26 : decode cX10_peek 26 = .ok (.iconst 1, 1) := by decide +kernel
theorem dX10_peek_27 : decode cX10_peek 27 = .ok (.isub, 1) := by decide +kernel
theorem dX10_peek_28 : decode cX10_peek 28 = .ok (.i2l, 1) := by decide +kernel
theorem dX10_peek_29 : decode cX10_peek 29 = .ok (.invokestatic 85, 3) := by decide +kernel
theorem dX10_peek_32 : decode cX10_peek 32 = .ok (.ifCond .eq 17, 3) := by decide +kernel
theorem dX10_peek_35 : decode cX10_peek 35 = .ok (.aload_n 0, 1) := by decide +kernel
theorem dX10_peek_36 : decode cX10_peek 36 = .ok (.getfield 74, 3) := by decide +kernel
theorem dX10_peek_39 : decode cX10_peek 39 = .ok (.bipush 60, 2) := by decide +kernel
theorem dX10_peek_41 : decode cX10_peek 41 = .ok (.iload_n 1, 1) := by decide +kernel
theorem dX10_peek_42 : decode cX10_peek 42 = .ok (.imul, 1) := by decide +kernel
theorem dX10_peek_43 : decode cX10_peek 43 = .ok (.iload_n 2, 1) := by decide +kernel
theorem dX10_peek_44 : decode cX10_peek 44 = .ok (.iadd, 1) := by decide +kernel
theorem dX10_peek_45 : decode cX10_peek 45 = .ok (.laload, 1) := by decide +kernel
theorem dX10_peek_46 : decode cX10_peek 46 = .ok (.goto 6, 3) := by decide +kernel
theorem dX10_peek_49 : decode cX10_peek 49 = .ok (.ldc2_w 228, 3) := by decide +kernel
theorem dX10_peek_52 : decode cX10_peek 52 = .ok (.lreturn, 1) := by decide +kernel
theorem dX10_shift_0 : decode cX10_shift 0 = .ok (.iload_n 1, 1) := by decide +kernel
theorem dX10_shift_1 : decode cX10_shift 1 = .ok (.invokestatic 329, 3) := by decide +kernel
theorem dX10_shift_4 : decode cX10_shift 4 = .ok (.ifCond .eq 10, 3) := by decide +kernel
theorem dX10_shift_7 : decode cX10_shift 7 = .ok (.iload_n 3, 1) := by decide +kernel
theorem dX10_shift_8 : decode cX10_shift 8 = .ok (.invokestatic 329, 3) := by decide +kernel
theorem dX10_shift_11 : decode cX10_shift 11 = .ok (.ifCond .ne 5, 3) := by decide +kernel
theorem dX10_shift_14 : decode cX10_shift 14 = .ok (.iconst (-1), 1) := by decide +kernel
theorem dX10_shift_15 : decode cX10_shift 15 = .ok (.ireturn, 1) := by decide +kernel
theorem dX10_shift_16 : decode cX10_shift 16 = .ok (.aload_n 0, 1) := by decide +kernel
theorem dX10_shift_17 : decode cX10_shift 17 = .ok (.getfield 68, 3) := by decide +kernel
theorem dX10_shift_20 : decode cX10_shift 20 = .ok (.iload_n 1, 1) := by decide +kernel
theorem dX10_shift_21 : decode cX10_shift 21 = .ok (.iaload, 1) := by decide +kernel
theorem dX10_shift_22 : decode cX10_shift 22 = .ok (.iconst (-1), 1) := by decide +kernel
theorem dX10_shift_23 : decode cX10_shift 23 = .ok (.if_icmp .eq 13, 3) := by decide +kernel
theorem dX10_shift_26 : decode cX10_shift 26 = .ok (.aload_n 0, 1) := by decide +kernel
theorem dX10_shift_27 : decode cX10_shift 27 = .ok (.getfield 68, 3) := by decide +kernel
theorem dX10_shift_30 : decode cX10_shift 30 = .ok (.iload_n 3, 1) := by decide +kernel
theorem dX10_shift_31 : decode cX10_shift 31 = .ok (.iaload, 1) := by decide +kernel
theorem dX10_shift_32 : decode cX10_shift 32 = .ok (.iconst (-1), 1) := by decide +kernel
theorem dX10_shift_33 : decode cX10_shift 33 = .ok (.if_icmp .ne 6, 3) := by decide +kernel
theorem dX10_shift_36 : decode cX10_shift 36 = .ok (.bipush (-11), 2) := by decide +kernel
theorem dX10_shift_38 : decode cX10_shift 38 = .ok (.ireturn, 1) := by decide +kernel
theorem dX10_shift_39 : decode cX10_shift 39 = .ok (.aload_n 0, 1) := by decide +kernel
theorem dX10_shift_40 : decode cX10_shift 40 = .ok (.getfield 68, 3) := by decide +kernel
theorem dX10_shift_43 : decode cX10_shift 43 = .ok (.iload_n 1, 1) := by decide +kernel
theorem dX10_shift_44 : decode cX10_shift 44 = .ok (.iaload, 1) := by decide +kernel
theorem dX10_shift_45 : decode cX10_shift 45 = .ok (.aload_n 0, 1) := by decide +kernel
theorem dX10_shift_46 : decode cX10_shift 46 = .ok (.getfield 68, 3) := by decide +kernel
theorem dX10_shift_49 : decode cX10_shift 49 = .ok (.iload_n 3, 1) := by decide +kernel
theorem dX10_shift_50 : decode cX10_shift 50 = .ok (.iaload, 1) := by decide +kernel
theorem dX10_shift_51 : decode cX10_shift 51 = .ok (.if_icmp .eq 6, 3) := by decide +kernel
theorem dX10_shift_54 : decode cX10_shift 54 = .ok (.bipush (-12), 2) := by decide +kernel
theorem dX10_shift_56 : decode cX10_shift 56 = .ok (.ireturn, 1) := by decide +kernel
theorem dX10_shift_57 : decode cX10_shift 57 = .ok (.iload 5, 2) := by decide +kernel
theorem dX10_shift_59 : decode cX10_shift 59 = .ok (.ifCond .lt 39, 3) := by decide +kernel
theorem dX10_shift_62 : decode cX10_shift 62 = .ok (.iload_n 2, 1) := by decide +kernel
theorem dX10_shift_63 : decode cX10_shift 63 = .ok (.ifCond .lt 35, 3) := by decide +kernel
theorem dX10_shift_66 : decode cX10_shift 66 = .ok (.iload 4, 2) := by decide +kernel
theorem dX10_shift_68 : decode cX10_shift 68 = .ok (.ifCond .lt 30, 3) := by decide +kernel
theorem dX10_shift_71 : decode cX10_shift 71 = .ok (.iload_n 2, 1) := by decide +kernel
theorem dX10_shift_72 : decode cX10_shift 72 = .ok (.aload_n 0, 1) := by decide +kernel
theorem dX10_shift_73 : decode cX10_shift 73 = .ok (.getfield 71, 3) := by decide +kernel
theorem dX10_shift_76 : decode cX10_shift 76 = .ok (.iload_n 1, 1) := by decide +kernel
theorem dX10_shift_77 : decode cX10_shift 77 = .ok (.iaload, 1) := by decide +kernel
theorem dX10_shift_78 : decode cX10_shift 78 = .ok (.iload 5, 2) := by decide +kernel
theorem dX10_shift_80 : decode cX10_shift 80 = .ok (.isub, 1) := by decide +kernel
theorem dX10_shift_81 : decode cX10_shift 81 = .ok (.if_icmp .gt 17, 3) := by decide +kernel
theorem dX10_shift_84 : decode cX10_shift 84 = .ok (.iload 4, 2) := by decide +kernel
theorem dX10_shift_86 : decode cX10_shift 86 = .ok (.aload_n 0, 1) := by decide +kernel
theorem dX10_shift_87 : decode cX10_shift 87 = .ok (.getfield 71, 3) := by decide +kernel
theorem dX10_shift_90 : decode cX10_shift 90 = .ok (.iload_n 3, 1) := by decide +kernel
theorem dX10_shift_91 : decode cX10_shift 91 = .ok (.iaload, 1) := by decide +kernel
theorem dX10_shift_92 : decode cX10_shift 92 = .ok (.iload 5, 2) := by decide +kernel
theorem dX10_shift_94 : decode cX10_shift 94 = .ok (.isub, 1) := by decide +kernel
theorem dX10_shift_95 : decode cX10_shift 95 = .ok (.if_icmp .le 6, 3) := by decide +kernel
theorem dX10_shift_98 : decode cX10_shift 98 = .ok (.bipush (-13), 2) := by decide +kernel
theorem dX10_shift_100 : decode cX10_shift 100 = .ok (.ireturn, 1) := by decide +kernel
theorem dX10_shift_101 : decode cX10_shift 101 = .ok (.iload_n 1, 1) := by decide +kernel
theorem dX10_shift_102 : decode cX10_shift 102 = .ok (.iload_n 3, 1) := by decide +kernel
theorem dX10_shift_103 : decode cX10_shift 103 = .ok (.if_icmp .ne 13, 3) := by decide +kernel
theorem dX10_shift_106 : decode cX10_shift 106 = .ok (.iload_n 2, 1) := by decide +kernel
theorem dX10_shift_107 : decode cX10_shift 107 = .ok (.iload 4, 2) := by decide +kernel
theorem dX10_shift_109 : decode cX10_shift 109 = .ok (.if_icmp .ge 7, 3) := by decide +kernel
theorem dX10_shift_112 : decode cX10_shift 112 = .ok (.iconst 1, 1) := by decide +kernel
theorem dX10_shift_113 : decode cX10_shift 113 = .ok (.goto 4, 3) := by decide +kernel
theorem dX10_shift_116 : decode cX10_shift 116 = .ok (.iconst 0, 1) := by decide +kernel
theorem dX10_shift_117 : decode cX10_shift 117 = .ok (.istore 6, 2) := by decide +kernel
theorem dX10_shift_119 : decode cX10_shift 119 = .ok (.iconst 0, 1) := by decide +kernel
theorem dX10_shift_120 : decode cX10_shift 120 = .ok (.istore 7, 2) := by decide +kernel
theorem dX10_shift_122 : decode cX10_shift 122 = .ok (.iload 7, 2) := by decide +kernel
theorem dX10_shift_124 : decode cX10_shift 124 = .ok (.iload 5, 2) := by decide +kernel
theorem dX10_shift_126 : decode cX10_shift 126 = .ok (.if_icmp .ge 57, 3) := by decide +kernel
theorem dX10_shift_129 : decode cX10_shift 129 = .ok (.iload 6, 2) := by decide +kernel
theorem dX10_shift_131 : decode cX10_shift 131 = .ok (.ifCond .eq 13, 3) := by decide +kernel
theorem dX10_shift_134 : decode cX10_shift 134 = .ok (.iload 5, 2) := by decide +kernel
theorem dX10_shift_136 : decode cX10_shift 136 = .ok (.iconst 1, 1) := by decide +kernel
theorem dX10_shift_137 : decode cX10_shift 137 = .ok (.isub, 1) := by decide +kernel
theorem dX10_shift_138 : decode cX10_shift 138 = .ok (.iload 7, 2) := by decide +kernel
theorem dX10_shift_140 : decode cX10_shift 140 = .ok (.isub, 1) := by decide +kernel
theorem dX10_shift_141 : decode cX10_shift 141 = .ok (.goto 5, 3) := by decide +kernel
theorem dX10_shift_144 : decode cX10_shift 144 = .ok (.iload 7, 2) := by decide +kernel
theorem dX10_shift_146 : decode cX10_shift 146 = .ok (.istore 8, 2) := by decide +kernel
theorem dX10_shift_148 : decode cX10_shift 148 = .ok (.aload_n 0, 1) := by decide +kernel
theorem dX10_shift_149 : decode cX10_shift 149 = .ok (.getfield 74, 3) := by decide +kernel
theorem dX10_shift_152 : decode cX10_shift 152 = .ok (.bipush 60, 2) := by decide +kernel
theorem dX10_shift_154 : decode cX10_shift 154 = .ok (.iload_n 3, 1) := by decide +kernel
theorem dX10_shift_155 : decode cX10_shift 155 = .ok (.imul, 1) := by decide +kernel
theorem dX10_shift_156 : decode cX10_shift 156 = .ok (.iload 4, 2) := by decide +kernel
theorem dX10_shift_158 : decode cX10_shift 158 = .ok (.iadd, 1) := by decide +kernel
theorem dX10_shift_159 : decode cX10_shift 159 = .ok (.iload 8, 2) := by decide +kernel
theorem dX10_shift_161 : decode cX10_shift 161 = .ok (.iadd, 1) := by decide +kernel
theorem dX10_shift_162 : decode cX10_shift 162 = .ok (.aload_n 0, 1) := by decide +kernel
theorem dX10_shift_163 : decode cX10_shift 163 = .ok (.getfield 74, 3) := by decide +kernel
theorem dX10_shift_166 : decode cX10_shift 166 = .ok (.bipush 60, 2) := by decide +kernel
theorem dX10_shift_168 : decode cX10_shift 168 = .ok (.iload_n 1, 1) := by decide +kernel
theorem dX10_shift_169 : decode cX10_shift 169 = .ok (.imul, 1) := by decide +kernel
theorem dX10_shift_170 : decode cX10_shift 170 = .ok (.iload_n 2, 1) := by decide +kernel
theorem dX10_shift_171 : decode cX10_shift 171 = .ok (.iadd, 1) := by decide +kernel
theorem dX10_shift_172 : decode cX10_shift 172 = .ok (.iload 8, 2) := by decide +kernel
theorem dX10_shift_174 : decode cX10_shift 174 = .ok (.iadd, 1) := by decide +kernel
theorem dX10_shift_175 : decode cX10_shift 175 = .ok (.laload, 1) := by decide +kernel
theorem dX10_shift_176 : decode cX10_shift 176 = .ok (.lastore, 1) := by decide +kernel
theorem dX10_shift_177 : decode cX10_shift 177 = .ok (.iinc 7 1, 3) := by decide +kernel
theorem dX10_shift_180 : decode cX10_shift 180 = .ok (.goto (-58), 3) := by decide +kernel
theorem dX10_shift_183 : decode cX10_shift 183 = .ok (.iload 5, 2) := by decide +kernel
theorem dX10_shift_185 : decode cX10_shift 185 = .ok (.ireturn, 1) := by decide +kernel
theorem dJxe99ae_isNaN_b9ae7_0 : decode cJxe99ae_isNaN_b9ae7 0 = .ok (.dload_n 0, 1) := by decide +kernel
theorem dJxe99ae_isNaN_b9ae7_1 : decode cJxe99ae_isNaN_b9ae7 1 = .ok (.dload_n 0, 1) := by decide +kernel
theorem dJxe99ae_isNaN_b9ae7_2 : decode cJxe99ae_isNaN_b9ae7 2 = .ok (.dcmp .l, 1) := by decide +kernel
theorem dJxe99ae_isNaN_b9ae7_3 : decode cJxe99ae_isNaN_b9ae7 3 = .ok (.ifCond .eq 7, 3) := by decide +kernel
theorem dJxe99ae_isNaN_b9ae7_6 : decode cJxe99ae_isNaN_b9ae7 6 = .ok (.iconst 1, 1) := by decide +kernel
theorem dJxe99ae_isNaN_b9ae7_7 : decode cJxe99ae_isNaN_b9ae7 7 = .ok (.goto 4, 3) := by decide +kernel
theorem dJxe99ae_isNaN_b9ae7_10 : decode cJxe99ae_isNaN_b9ae7 10 = .ok (.iconst 0, 1) := by decide +kernel
theorem dJxe99ae_isNaN_b9ae7_11 : decode cJxe99ae_isNaN_b9ae7 11 = .ok (.ireturn, 1) := by decide +kernel
theorem dJxe99ae_doubleToLongBits_ccdee_0 : decode cJxe99ae_doubleToLongBits_ccdee 0 = .ok (.dload_n 0, 1) := by decide +kernel
theorem dJxe99ae_doubleToLongBits_ccdee_1 : decode cJxe99ae_doubleToLongBits_ccdee 1 = .ok (.invokestatic 122, 3) := by decide +kernel
theorem dJxe99ae_doubleToLongBits_ccdee_4 : decode cJxe99ae_doubleToLongBits_ccdee 4 = .ok (.ifCond .ne 8, 3) := by decide +kernel
theorem dJxe99ae_doubleToLongBits_ccdee_7 : decode cJxe99ae_doubleToLongBits_ccdee 7 = .ok (.dload_n 0, 1) := by decide +kernel
theorem dJxe99ae_doubleToLongBits_ccdee_8 : decode cJxe99ae_doubleToLongBits_ccdee 8 = .ok (.invokestatic 134, 3) := by decide +kernel
theorem dJxe99ae_doubleToLongBits_ccdee_11 : decode cJxe99ae_doubleToLongBits_ccdee 11 = .ok (.lreturn, 1) := by decide +kernel
theorem dJxe99ae_doubleToLongBits_ccdee_12 : decode cJxe99ae_doubleToLongBits_ccdee 12 = .ok (.ldc2_w 137, 3) := by decide +kernel
theorem dJxe99ae_doubleToLongBits_ccdee_15 : decode cJxe99ae_doubleToLongBits_ccdee 15 = .ok (.lreturn, 1) := by decide +kernel
theorem dJxf58ca_isNaN_12338_0 : decode cJxf58ca_isNaN_12338 0 = .ok (.fload_n 0, 1) := by decide +kernel
theorem dJxf58ca_isNaN_12338_1 : decode cJxf58ca_isNaN_12338 1 = .ok (.fload_n 0, 1) := by decide +kernel
theorem dJxf58ca_isNaN_12338_2 : decode cJxf58ca_isNaN_12338 2 = .ok (.fcmp .l, 1) := by decide +kernel
theorem dJxf58ca_isNaN_12338_3 : decode cJxf58ca_isNaN_12338 3 = .ok (.ifCond .eq 7, 3) := by decide +kernel
theorem dJxf58ca_isNaN_12338_6 : decode cJxf58ca_isNaN_12338 6 = .ok (.iconst 1, 1) := by decide +kernel
theorem dJxf58ca_isNaN_12338_7 : decode cJxf58ca_isNaN_12338 7 = .ok (.goto 4, 3) := by decide +kernel
theorem dJxf58ca_isNaN_12338_10 : decode cJxf58ca_isNaN_12338 10 = .ok (.iconst 0, 1) := by decide +kernel
theorem dJxf58ca_isNaN_12338_11 : decode cJxf58ca_isNaN_12338 11 = .ok (.ireturn, 1) := by decide +kernel
theorem dJxf58ca_floatToIntBits_5c35a_0 : decode cJxf58ca_floatToIntBits_5c35a 0 = .ok (.fload_n 0, 1) := by decide +kernel
theorem dJxf58ca_floatToIntBits_5c35a_1 : decode cJxf58ca_floatToIntBits_5c35a 1 = .ok (.invokestatic 59, 3) := by decide +kernel
theorem dJxf58ca_floatToIntBits_5c35a_4 : decode cJxf58ca_floatToIntBits_5c35a 4 = .ok (.ifCond .ne 8, 3) := by decide +kernel
theorem dJxf58ca_floatToIntBits_5c35a_7 : decode cJxf58ca_floatToIntBits_5c35a 7 = .ok (.fload_n 0, 1) := by decide +kernel
theorem dJxf58ca_floatToIntBits_5c35a_8 : decode cJxf58ca_floatToIntBits_5c35a 8 = .ok (.invokestatic 74, 3) := by decide +kernel
theorem dJxf58ca_floatToIntBits_5c35a_11 : decode cJxf58ca_floatToIntBits_5c35a 11 = .ok (.ireturn, 1) := by decide +kernel
theorem dJxf58ca_floatToIntBits_5c35a_12 : decode cJxf58ca_floatToIntBits_5c35a 12 = .ok (.ldc 77, 2) := by decide +kernel
theorem dJxf58ca_floatToIntBits_5c35a_14 : decode cJxf58ca_floatToIntBits_5c35a 14 = .ok (.ireturn, 1) := by decide +kernel
theorem dJ9_min_7cf53_0 : decode cJ9_min_7cf53 0 = .ok (.iload_n 0, 1) := by decide +kernel
theorem dJ9_min_7cf53_1 : decode cJ9_min_7cf53 1 = .ok (.iload_n 1, 1) := by decide +kernel
theorem dJ9_min_7cf53_2 : decode cJ9_min_7cf53 2 = .ok (.if_icmp .gt 7, 3) := by decide +kernel
theorem dJ9_min_7cf53_5 : decode cJ9_min_7cf53 5 = .ok (.iload_n 0, 1) := by decide +kernel
theorem dJ9_min_7cf53_6 : decode cJ9_min_7cf53 6 = .ok (.goto 4, 3) := by decide +kernel
theorem dJ9_min_7cf53_9 : decode cJ9_min_7cf53 9 = .ok (.iload_n 1, 1) := by decide +kernel
theorem dJ9_min_7cf53_10 : decode cJ9_min_7cf53 10 = .ok (.ireturn, 1) := by decide +kernel
