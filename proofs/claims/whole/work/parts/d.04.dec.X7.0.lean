theorem dX7_init_0 : decode cX7_init 0 = .ok (.aload_n 0, 1) := by decide +kernel
theorem dX7_init_1 : decode cX7_init 1 = .ok (.invokespecial 3, 3) := by decide +kernel
theorem dX7_init_4 : decode cX7_init 4 = .ok (.aload_n 0, 1) := by decide +kernel
theorem dX7_init_5 : decode cX7_init 5 = .ok (.iconst 4, 1) := by decide +kernel
theorem dX7_init_6 : decode cX7_init 6 = .ok (.newarray .long, 2) := by decide +kernel
theorem dX7_init_8 : decode cX7_init 8 = .ok (.putfield 11, 3) := by decide +kernel
theorem dX7_init_11 : decode cX7_init 11 = .ok (.aload_n 0, 1) := by decide +kernel
theorem dX7_init_12 : decode cX7_init 12 = .ok (.iconst 4, 1) := by decide +kernel
theorem dX7_init_13 : decode cX7_init 13 = .ok (.newarray .long, 2) := by decide +kernel
theorem dX7_init_15 : decode cX7_init 15 = .ok (.putfield 15, 3) := by decide +kernel
theorem dX7_init_18 : decode cX7_init 18 = .ok (.aload_n 0, 1) := by decide +kernel
theorem dX7_init_19 : decode cX7_init 19 = .ok (.iconst (-1), 1) := by decide +kernel
theorem dX7_init_20 : decode cX7_init 20 = .ok (.putfield 18, 3) := by decide +kernel
theorem dX7_init_23 : decode cX7_init 23 = .ok (.return_, 1) := by decide +kernel
theorem dX7_clear_0 : decode cX7_clear 0 = .ok (.iconst 0, 1) := by decide +kernel
theorem dX7_clear_1 : decode cX7_clear 1 = .ok (.istore_n 1, 1) := by decide +kernel
theorem dX7_clear_2 : decode cX7_clear 2 = .ok (.iload_n 1, 1) := by decide +kernel
theorem dX7_clear_3 : decode cX7_clear 3 = .ok (.iconst 4, 1) := by decide +kernel
theorem dX7_clear_4 : decode cX7_clear 4 = .ok (.if_icmp .ge 16, 3) := by decide +kernel
theorem dX7_clear_7 : decode cX7_clear 7 = .ok (.aload_n 0, 1) := by decide +kernel
theorem dX7_clear_8 : decode cX7_clear 8 = .ok (.getfield 11, 3) := by decide +kernel
theorem dX7_clear_11 : decode cX7_clear 11 = .ok (.iload_n 1, 1) := by decide +kernel
theorem dX7_clear_12 : decode cX7_clear 12 = .ok (.lconst 0, 1) := by decide +kernel
theorem dX7_clear_13 : decode cX7_clear 13 = .ok (.lastore, 1) := by decide +kernel
theorem dX7_clear_14 : decode cX7_clear 14 = .ok (.iinc 1 1, 3) := by decide +kernel
theorem dX7_clear_17 : decode cX7_clear 17 = .ok (.goto (-15), 3) := by decide +kernel
theorem dX7_clear_20 : decode cX7_clear 20 = .ok (.aload_n 0, 1) := by decide +kernel
theorem dX7_clear_21 : decode cX7_clear 21 = .ok (.iconst (-1), 1) := by decide +kernel
theorem dX7_clear_22 : decode cX7_clear 22 = .ok (.putfield 18, 3) := by decide +kernel
theorem dX7_clear_25 : decode cX7_clear 25 = .ok (.aload_n 0, 1) := by decide +kernel
theorem dX7_clear_26 : decode cX7_clear 26 = .ok (.iconst 0, 1) := by decide +kernel
theorem dX7_clear_27 : decode cX7_clear 27 = .ok (.putfield 22, 3) := by decide +kernel
theorem dX7_clear_30 : decode cX7_clear 30 = .ok (.return_, 1) := by decide +kernel
theorem dX7_addWorths_0 : decode cX7_addWorths 0 = .ok (.iconst 0, 1) := by decide +kernel
theorem dX7_addWorths_1 : decode cX7_addWorths 1 = .ok (.istore 7, 2) := by decide +kernel
theorem dX7_addWorths_3 : decode cX7_addWorths 3 = .ok (.iload 7, 2) := by decide +kernel
theorem dX7_addWorths_5 : decode cX7_addWorths 5 = .ok (.aload_n 1, 1) := by decide +kernel
theorem dX7_addWorths_6 : decode cX7_addWorths 6 = .ok (.getfield 26, 3) := by decide +kernel
theorem dX7_addWorths_9 : decode cX7_addWorths 9 = .ok (.if_icmp .ge 82, 3) := by decide +kernel
theorem dX7_addWorths_12 : decode cX7_addWorths 12 = .ok (.iload 5, 2) := by decide +kernel
theorem dX7_addWorths_14 : decode cX7_addWorths 14 = .ok (.ifCond .ne 7, 3) := by decide +kernel
theorem dX7_addWorths_17 : decode cX7_addWorths 17 = .ok (.iconst (-1), 1) := by decide +kernel
theorem dX7_addWorths_18 : decode cX7_addWorths 18 = .ok (.goto 13, 3) := by decide +kernel
theorem dX7_addWorths_21 : decode cX7_addWorths 21 = .ok (.aload_n 1, 1) := by decide +kernel
theorem dX7_addWorths_22 : decode cX7_addWorths 22 = .ok (.iload 7, 2) := by decide +kernel
theorem dX7_addWorths_24 : decode cX7_addWorths 24 = .ok (.iload 5, 2) := by decide +kernel
theorem dX7_addWorths_26 : decode cX7_addWorths 26 = .ok (.iload 6, 2) := by decide +kernel
theorem dX7_addWorths_28 : decode cX7_addWorths 28 = .ok (.invokestatic 31, 3) := by decide +kernel
theorem dX7_addWorths_31 : decode cX7_addWorths 31 = .ok (.istore 8, 2) := by decide +kernel
theorem dX7_addWorths_33 : decode cX7_addWorths 33 = .ok (.aload_n 1, 1) := by decide +kernel
theorem dX7_addWorths_34 : decode cX7_addWorths 34 = .ok (.iload 7, 2) := by decide +kernel
theorem dX7_addWorths_36 : decode cX7_addWorths 36 = .ok (.invokevirtual 35, 3) := by decide +kernel
theorem dX7_addWorths_39 : decode cX7_addWorths 39 = .ok (.ifCond .ne 46, 3) := by decide +kernel
theorem dX7_addWorths_42 : decode cX7_addWorths 42 = .ok (.iload 5, 2) := by decide +kernel
theorem dX7_addWorths_44 : decode cX7_addWorths 44 = .ok (.ifCond .eq 9, 3) := by decide +kernel
theorem dX7_addWorths_47 : decode cX7_addWorths 47 = .ok (.iload 8, 2) := by decide +kernel
theorem dX7_addWorths_49 : decode cX7_addWorths 49 = .ok (.iconst (-1), 1) := by decide +kernel
theorem dX7_addWorths_50 : decode cX7_addWorths 50 = .ok (.if_icmp .eq 35, 3) := by decide +kernel
theorem dX7_addWorths_53 : decode cX7_addWorths 53 = .ok (.aload_n 0, 1) := by decide +kernel
theorem dX7_addWorths_54 : decode cX7_addWorths 54 = .ok (.aload_n 1, 1) := by decide +kernel
theorem dX7_addWorths_55 : decode cX7_addWorths 55 = .ok (.iload 7, 2) := by decide +kernel
theorem dX7_addWorths_57 : decode cX7_addWorths 57 = .ok (.aload_n 2, 1) := by decide +kernel
theorem dX7_addWorths_58 : decode cX7_addWorths 58 = .ok (.aload_n 3, 1) := by decide +kernel
theorem dX7_addWorths_59 : decode cX7_addWorths 59 = .ok (.iload 8, 2) := by decide +kernel
theorem dX7_addWorths_61 : decode cX7_addWorths 61 = .ok (.invokevirtual 39, 3) := by decide +kernel
theorem dX7_addWorths_64 : decode cX7_addWorths 64 = .ok (.aload_n 0, 1) := by decide +kernel
theorem dX7_addWorths_65 : decode cX7_addWorths 65 = .ok (.aload_n 1, 1) := by decide +kernel
theorem dX7_addWorths_66 : decode cX7_addWorths 66 = .ok (.getfield 43, 3) := by decide +kernel
theorem dX7_addWorths_69 : decode cX7_addWorths 69 = .ok (.iload 7, 2) := by decide +kernel
theorem dX7_addWorths_71 : decode cX7_addWorths 71 = .ok (.iaload, 1) := by decide +kernel
theorem dX7_addWorths_72 : decode cX7_addWorths 72 = .ok (.i2l, 1) := by decide +kernel
theorem dX7_addWorths_73 : decode cX7_addWorths 73 = .ok (.aload_n 1, 1) := by decide +kernel
theorem dX7_addWorths_74 : decode cX7_addWorths 74 = .ok (.iload 7, 2) := by decide +kernel
theorem dX7_addWorths_76 : decode cX7_addWorths 76 = .ok (.aload 4, 2) := by decide +kernel
theorem dX7_addWorths_78 : decode cX7_addWorths 78 = .ok (.invokestatic 47, 3) := by decide +kernel
theorem dX7_addWorths_81 : decode cX7_addWorths 81 = .ok (.lmul, 1) := by decide +kernel
theorem dX7_addWorths_82 : decode cX7_addWorths 82 = .ok (.invokevirtual 51, 3) := by decide +kernel
theorem dX7_addWorths_85 : decode cX7_addWorths 85 = .ok (.iinc 7 1, 3) := by decide +kernel
theorem dX7_addWorths_88 : decode cX7_addWorths 88 = .ok (.goto (-85), 3) := by decide +kernel
theorem dX7_addWorths_91 : decode cX7_addWorths 91 = .ok (.return_, 1) := by decide +kernel
theorem dX7_findCut_0 : decode cX7_findCut 0 = .ok (.iconst 0, 1) := by decide +kernel
theorem dX7_findCut_1 : decode cX7_findCut 1 = .ok (.istore 4, 2) := by decide +kernel
theorem dX7_findCut_3 : decode cX7_findCut 3 = .ok (.iload 4, 2) := by decide +kernel
theorem dX7_findCut_5 : decode cX7_findCut 5 = .ok (.aload_n 0, 1) := by decide +kernel
theorem dX7_findCut_6 : decode cX7_findCut 6 = .ok (.getfield 55, 3) := by decide +kernel
theorem dX7_findCut_9 : decode cX7_findCut 9 = .ok (.iload_n 1, 1) := by decide +kernel
theorem dX7_findCut_10 : decode cX7_findCut 10 = .ok (.iaload, 1) := by decide +kernel
theorem dX7_findCut_11 : decode cX7_findCut 11 = .ok (.if_icmp .ge 34, 3) := by decide +kernel
theorem dX7_findCut_14 : decode cX7_findCut 14 = .ok (.aload_n 0, 1) := by decide +kernel
theorem dX7_findCut_15 : decode cX7_findCut 15 = .ok (.iload_n 1, 1) := by decide +kernel
theorem dX7_findCut_16 : decode cX7_findCut 16 = .ok (.iload 4, 2) := by decide +kernel
theorem dX7_findCut_18 : decode cX7_findCut 18 = .ok (.invokevirtual 58, 3) := by decide +kernel
theorem dX7_findCut_21 : decode cX7_findCut 21 = .ok (.iload_n 2, 1) := by decide +kernel
theorem dX7_findCut_22 : decode cX7_findCut 22 = .ok (.if_icmp .ne 17, 3) := by decide +kernel
theorem dX7_findCut_25 : decode cX7_findCut 25 = .ok (.aload_n 0, 1) := by decide +kernel
theorem dX7_findCut_26 : decode cX7_findCut 26 = .ok (.iload_n 1, 1) := by decide +kernel
theorem dX7_findCut_27 : decode cX7_findCut 27 = .ok (.iload 4, 2) := by decide +kernel
theorem dX7_findCut_29 : decode cX7_findCut 29 = .ok (.invokevirtual 62, 3) := by decide +kernel
theorem dX7_findCut_32 : decode cX7_findCut 32 = .ok (.iload_n 3, 1) := by decide +kernel
theorem dX7_findCut_33 : decode cX7_findCut 33 = .ok (.if_icmp .ne 6, 3) := by decide +kernel
theorem dX7_findCut_36 : decode cX7_findCut 36 = .ok (.iload 4, 2) := by decide +kernel
theorem dX7_findCut_38 : decode cX7_findCut 38 = .ok (.ireturn, 1) := by decide +kernel
theorem dX7_findCut_39 : decode cX7_findCut 39 = .ok (.iinc 4 1, 3) := by decide +kernel
theorem dX7_findCut_42 : decode cX7_findCut 42 = .ok (.goto (-39), 3) := by decide +kernel
theorem dX7_findCut_45 : decode cX7_findCut 45 = .ok (.iconst (-1), 1) := by decide +kernel
theorem dX7_findCut_46 : decode cX7_findCut 46 = .ok (.ireturn, 1) := by decide +kernel
theorem dX7_divideByJoins_0 : decode cX7_divideByJoins 0 = .ok (.iconst 0, 1) := by decide +kernel
theorem dX7_divideByJoins_1 : decode cX7_divideByJoins 1 = .ok (.istore 6, 2) := by decide +kernel
theorem dX7_divideByJoins_3 : decode cX7_divideByJoins 3 = .ok (.iload 6, 2) := by decide +kernel
theorem dX7_divideByJoins_5 : decode cX7_divideByJoins 5 = .ok (.iconst 4, 1) := by decide +kernel
theorem dX7_divideByJoins_6 : decode cX7_divideByJoins 6 = .ok (.if_icmp .ge 23, 3) := by decide +kernel
theorem dX7_divideByJoins_9 : decode cX7_divideByJoins 9 = .ok (.aload_n 0, 1) := by decide +kernel
theorem dX7_divideByJoins_10 : decode cX7_divideByJoins 10 = .ok (.getfield 15, 3) := by decide +kernel
theorem dX7_divideByJoins_13 : decode cX7_divideByJoins 13 = .ok (.iload 6, 2) := by decide +kernel
theorem dX7_divideByJoins_15 : decode cX7_divideByJoins 15 = .ok (.aload_n 1, 1) := by decide +kernel
theorem dX7_divideByJoins_16 : decode cX7_divideByJoins 16 = .ok (.getfield 65, 3) := by decide +kernel
theorem dX7_divideByJoins_19 : decode cX7_divideByJoins 19 = .ok (.iload_n 2, 1) := by decide +kernel
theorem dX7_divideByJoins_20 : decode cX7_divideByJoins 20 = .ok (.iaload, 1) := by decide +kernel
theorem dX7_divideByJoins_21 : decode cX7_divideByJoins 21 = .ok (.i2l, 1) := by decide +kernel
theorem dX7_divideByJoins_22 : decode cX7_divideByJoins 22 = .ok (.lastore, 1) := by decide +kernel
theorem dX7_divideByJoins_23 : decode cX7_divideByJoins 23 = .ok (.iinc 6 1, 3) := by decide +kernel
theorem dX7_divideByJoins_26 : decode cX7_divideByJoins 26 = .ok (.goto (-23), 3) := by decide +kernel
theorem dX7_divideByJoins_29 : decode cX7_divideByJoins 29 = .ok (.iconst 0, 1) := by decide +kernel
theorem dX7_divideByJoins_30 : decode cX7_divideByJoins 30 = .ok (.istore 6, 2) := by decide +kernel
theorem dX7_divideByJoins_32 : decode cX7_divideByJoins 32 = .ok (.iload 6, 2) := by decide +kernel
theorem dX7_divideByJoins_34 : decode cX7_divideByJoins 34 = .ok (.aload_n 1, 1) := by decide +kernel
theorem dX7_divideByJoins_35 : decode cX7_divideByJoins 35 = .ok (.getfield 55, 3) := by decide +kernel
theorem dX7_divideByJoins_38 : decode cX7_divideByJoins 38 = .ok (.iload_n 2, 1) := by decide +kernel
theorem dX7_divideByJoins_39 : decode cX7_divideByJoins 39 = .ok (.iaload, 1) := by decide +kernel
theorem dX7_divideByJoins_40 : decode cX7_divideByJoins 40 = .ok (.if_icmp .ge 134, 3) := by decide +kernel
theorem dX7_divideByJoins_43 : decode cX7_divideByJoins 43 = .ok (.iload 6, 2) := by decide +kernel
theorem dX7_divideByJoins_45 : decode cX7_divideByJoins 45 = .ok (.iload 5, 2) := by decide +kernel
theorem dX7_divideByJoins_47 : decode cX7_divideByJoins 47 = .ok (.if_icmp .eq 121, 3) := by decide +kernel
theorem dX7_divideByJoins_50 : decode cX7_divideByJoins 50 = .ok (.aload 4, 2) := by decide +kernel
theorem dX7_divideByJoins_52 : decode cX7_divideByJoins 52 = .ok (.aload_n 1, 1) := by decide +kernel
theorem dX7_divideByJoins_53 : decode cX7_divideByJoins 53 = .ok (.iload_n 2, 1) := by decide +kernel
theorem dX7_divideByJoins_54 : decode cX7_divideByJoins 54 = .ok (.iload 6, 2) := by decide +kernel
theorem dX7_divideByJoins_56 : decode cX7_divideByJoins 56 = .ok (.invokevirtual 58, 3) := by decide +kernel
theorem dX7_divideByJoins_59 : decode cX7_divideByJoins 59 = .ok (.invokevirtual 68, 3) := by decide +kernel
theorem dX7_divideByJoins_62 : decode cX7_divideByJoins 62 = .ok (.i2l, 1) := by decide +kernel
theorem dX7_divideByJoins_63 : decode cX7_divideByJoins 63 = .ok (.lstore 7, 2) := by decide +kernel
theorem dX7_divideByJoins_65 : decode cX7_divideByJoins 65 = .ok (.aload_n 3, 1) := by decide +kernel
theorem dX7_divideByJoins_66 : decode cX7_divideByJoins 66 = .ok (.getfield 73, 3) := by decide +kernel
theorem dX7_divideByJoins_69 : decode cX7_divideByJoins 69 = .ok (.aload_n 1, 1) := by decide +kernel
theorem dX7_divideByJoins_70 : decode cX7_divideByJoins 70 = .ok (.iload_n 2, 1) := by decide +kernel
theorem dX7_divideByJoins_71 : decode cX7_divideByJoins 71 = .ok (.iload 6, 2) := by decide +kernel
theorem dX7_divideByJoins_73 : decode cX7_divideByJoins 73 = .ok (.invokevirtual 62, 3) := by decide +kernel
theorem dX7_divideByJoins_76 : decode cX7_divideByJoins 76 = .ok (.iaload, 1) := by decide +kernel
theorem dX7_divideByJoins_77 : decode cX7_divideByJoins 77 = .ok (.i2l, 1) := by decide +kernel
theorem dX7_divideByJoins_78 : decode cX7_divideByJoins 78 = .ok (.lstore 9, 2) := by decide +kernel
theorem dX7_divideByJoins_80 : decode cX7_divideByJoins 80 = .ok (.lload 7, 2) := by decide +kernel
theorem dX7_divideByJoins_82 : decode cX7_divideByJoins 82 = .ok (.lload 7, 2) := by decide +kernel
theorem dX7_divideByJoins_84 : decode cX7_divideByJoins 84 = .ok (.lmul, 1) := by decide +kernel
theorem dX7_divideByJoins_85 : decode cX7_divideByJoins 85 = .ok (.lload 9, 2) := by decide +kernel
theorem dX7_divideByJoins_87 : decode cX7_divideByJoins 87 = .ok (.lload 9, 2) := by decide +kernel
theorem dX7_divideByJoins_89 : decode cX7_divideByJoins 89 = .ok (.lmul, 1) := by decide +kernel
theorem dX7_divideByJoins_90 : decode cX7_divideByJoins 90 = .ok (.lsub, 1) := by decide +kernel
theorem dX7_divideByJoins_91 : decode cX7_divideByJoins 91 = .ok (.lstore 11, 2) := by decide +kernel
theorem dX7_divideByJoins_93 : decode cX7_divideByJoins 93 = .ok (.lload 11, 2) := by decide +kernel
theorem dX7_divideByJoins_95 : decode cX7_divideByJoins 95 = .ok (.lconst 0, 1) := by decide +kernel
theorem dX7_divideByJoins_96 : decode cX7_divideByJoins 96 = .ok (.lcmp, 1) := by decide +kernel
theorem dX7_divideByJoins_97 : decode cX7_divideByJoins 97 = .ok (.ifCond .ne 22, 3) := by decide +kernel
theorem dX7_divideByJoins_100 : decode cX7_divideByJoins 100 = .ok (.aload_n 0, 1) := by decide +kernel
theorem dX7_divideByJoins_101 : decode cX7_divideByJoins 101 = .ok (.getfield 18, 3) := by decide +kernel
theorem dX7_divideByJoins_104 : decode cX7_divideByJoins 104 = .ok (.iconst (-1), 1) := by decide +kernel
theorem dX7_divideByJoins_105 : decode cX7_divideByJoins 105 = .ok (.if_icmp .ne 14, 3) := by decide +kernel
theorem dX7_divideByJoins_108 : decode cX7_divideByJoins 108 = .ok (.aload_n 0, 1) := by decide +kernel
theorem dX7_divideByJoins_109 : decode cX7_divideByJoins 109 = .ok (.aload_n 1, 1) := by decide +kernel
theorem dX7_divideByJoins_110 : decode cX7_divideByJoins 110 = .ok (.iload_n 2, 1) := by decide +kernel
theorem dX7_divideByJoins_111 : decode cX7_divideByJoins 111 = .ok (.iload 6, 2) := by decide +kernel
theorem dX7_divideByJoins_113 : decode cX7_divideByJoins 113 = .ok (.invokevirtual 58, 3) := by decide +kernel
theorem dX7_divideByJoins_116 : decode cX7_divideByJoins 116 = .ok (.putfield 18, 3) := by decide +kernel
theorem dX7_divideByJoins_119 : decode cX7_divideByJoins 119 = .ok (.iconst 0, 1) := by decide +kernel
theorem dX7_divideByJoins_120 : decode cX7_divideByJoins 120 = .ok (.istore 13, 2) := by decide +kernel
theorem dX7_divideByJoins_122 : decode cX7_divideByJoins 122 = .ok (.iload 13, 2) := by decide +kernel
theorem dX7_divideByJoins_124 : decode cX7_divideByJoins 124 = .ok (.iconst 4, 1) := by decide +kernel
theorem dX7_divideByJoins_125 : decode cX7_divideByJoins 125 = .ok (.if_icmp .ge 43, 3) := by decide +kernel
theorem dX7_divideByJoins_128 : decode cX7_divideByJoins 128 = .ok (.getstatic 78, 3) := by decide +kernel
theorem dX7_divideByJoins_131 : decode cX7_divideByJoins 131 = .ok (.iload 13, 2) := by decide +kernel
theorem dX7_divideByJoins_133 : decode cX7_divideByJoins 133 = .ok (.iaload, 1) := by decide +kernel
theorem dX7_divideByJoins_134 : decode cX7_divideByJoins 134 = .ok (.i2l, 1) := by decide +kernel
theorem dX7_divideByJoins_135 : decode cX7_divideByJoins 135 = .ok (.lstore 14, 2) := by decide +kernel
theorem dX7_divideByJoins_137 : decode cX7_divideByJoins 137 = .ok (.aload_n 0, 1) := by decide +kernel
theorem dX7_divideByJoins_138 : decode cX7_divideByJoins 138 = .ok (.getfield 15, 3) := by decide +kernel
theorem dX7_divideByJoins_141 : decode cX7_divideByJoins 141 = .ok (.iload 13, 2) := by decide +kernel
theorem dX7_divideByJoins_143 : decode cX7_divideByJoins 143 = .ok (.aload_n 0, 1) := by decide +kernel
theorem dX7_divideByJoins_144 : decode cX7_divideByJoins 144 = .ok (.getfield 15, 3) := by decide +kernel
theorem dX7_divideByJoins_147 : decode cX7_divideByJoins 147 = .ok (.iload 13, 2) := by decide +kernel
theorem dX7_divideByJoins_149 : decode cX7_divideByJoins 149 = .ok (.laload, 1) := by decide +kernel
theorem dX7_divideByJoins_150 : decode cX7_divideByJoins 150 = .ok (.lload 11, 2) := by decide +kernel
theorem dX7_divideByJoins_152 : decode cX7_divideByJoins 152 = .ok (.lload 14, 2) := by decide +kernel
theorem dX7_divideByJoins_154 : decode cX7_divideByJoins 154 = .ok (.invokestatic 81, 3) := by decide +kernel
theorem dX7_divideByJoins_157 : decode cX7_divideByJoins 157 = .ok (.lmul, 1) := by decide +kernel
theorem dX7_divideByJoins_158 : decode cX7_divideByJoins 158 = .ok (.lload 14, 2) := by decide +kernel
theorem dX7_divideByJoins_160 : decode cX7_divideByJoins 160 = .ok (.lrem, 1) := by decide +kernel
theorem dX7_divideByJoins_161 : decode cX7_divideByJoins 161 = .ok (.lastore, 1) := by decide +kernel
theorem dX7_divideByJoins_162 : decode cX7_divideByJoins 162 = .ok (.iinc 13 1, 3) := by decide +kernel
theorem dX7_divideByJoins_165 : decode cX7_divideByJoins 165 = .ok (.goto (-43), 3) := by decide +kernel
theorem dX7_divideByJoins_168 : decode cX7_divideByJoins 168 = .ok (.iinc 6 1, 3) := by decide +kernel
theorem dX7_divideByJoins_171 : decode cX7_divideByJoins 171 = .ok (.goto (-139), 3) := by decide +kernel
theorem dX7_divideByJoins_174 : decode cX7_divideByJoins 174 = .ok (.return_, 1) := by decide +kernel
theorem dX7_above_0 : decode cX7_above 0 = .ok (.aload_n 0, 1) := by decide +kernel
theorem dX7_above_1 : decode cX7_above 1 = .ok (.iload_n 1, 1) := by decide +kernel
theorem dX7_above_2 : decode cX7_above 2 = .ok (.invokevirtual 87, 3) := by decide +kernel
theorem dX7_above_5 : decode cX7_above 5 = .ok (.istore_n 3, 1) := by decide +kernel
theorem dX7_above_6 : decode cX7_above 6 = .ok (.aload_n 0, 1) := by decide +kernel
theorem dX7_above_7 : decode cX7_above 7 = .ok (.getfield 90, 3) := by decide +kernel
theorem dX7_above_10 : decode cX7_above 10 = .ok (.iload_n 3, 1) := by decide +kernel
theorem dX7_above_11 : decode cX7_above 11 = .ok (.iaload, 1) := by decide +kernel
theorem dX7_above_12 : decode cX7_above 12 = .ok (.i2l, 1) := by decide +kernel
theorem dX7_above_13 : decode cX7_above 13 = .ok (.lstore 4, 2) := by decide +kernel
theorem dX7_above_15 : decode cX7_above 15 = .ok (.iconst 0, 1) := by decide +kernel
theorem dX7_above_16 : decode cX7_above 16 = .ok (.istore 6, 2) := by decide +kernel
theorem dX7_above_18 : decode cX7_above 18 = .ok (.iload 6, 2) := by decide +kernel
theorem dX7_above_20 : decode cX7_above 20 = .ok (.iconst 3, 1) := by decide +kernel
theorem dX7_above_21 : decode cX7_above 21 = .ok (.if_icmp .ge 59, 3) := by decide +kernel
theorem dX7_above_24 : decode cX7_above 24 = .ok (.iload 6, 2) := by decide +kernel
theorem dX7_above_26 : decode cX7_above 26 = .ok (.aload_n 2, 1) := by decide +kernel
theorem dX7_above_27 : decode cX7_above 27 = .ok (.arraylength, 1) := by decide +kernel
theorem dX7_above_28 : decode cX7_above 28 = .ok (.if_icmp .ge 52, 3) := by decide +kernel
theorem dX7_above_31 : decode cX7_above 31 = .ok (.aload_n 0, 1) := by decide +kernel
theorem dX7_above_32 : decode cX7_above 32 = .ok (.getfield 93, 3) := by decide +kernel
theorem dX7_above_35 : decode cX7_above 35 = .ok (.iload_n 3, 1) := by decide +kernel
theorem dX7_above_36 : decode cX7_above 36 = .ok (.iaload, 1) := by decide +kernel
theorem dX7_above_37 : decode cX7_above 37 = .ok (.iconst 2, 1) := by decide +kernel
theorem dX7_above_38 : decode cX7_above 38 = .ok (.iconst 2, 1) := by decide +kernel
theorem dX7_above_39 : decode cX7_above 39 = .ok (.iload 6, 2) := by decide +kernel
theorem dX7_above_41 : decode cX7_above 41 = .ok (.isub, 1) := by decide +kernel
theorem dX7_above_42 : decode cX7_above 42 = .ok (.imul, 1) := by decide +kernel
theorem dX7_above_43 : decode cX7_above 43 = .ok (.ishr, 1) := by decide +kernel
theorem dX7_above_44 : decode cX7_above 44 = .ok (.iconst 3, 1) := by decide +kernel
theorem dX7_above_45 : decode cX7_above 45 = .ok (.iand, 1) := by decide +kernel
theorem dX7_above_46 : decode cX7_above 46 = .ok (.istore 7, 2) := by decide +kernel
theorem dX7_above_48 : decode cX7_above 48 = .ok (.iconst 0, 1) := by decide +kernel
theorem dX7_above_49 : decode cX7_above 49 = .ok (.istore 8, 2) := by decide +kernel
theorem dX7_above_51 : decode cX7_above 51 = .ok (.iload 8, 2) := by decide +kernel
theorem dX7_above_53 : decode cX7_above 53 = .ok (.iload 7, 2) := by decide +kernel
theorem dX7_above_55 : decode cX7_above 55 = .ok (.if_icmp .ge 19, 3) := by decide +kernel
theorem dX7_above_58 : decode cX7_above 58 = .ok (.lload 4, 2) := by decide +kernel
theorem dX7_above_60 : decode cX7_above 60 = .ok (.aload_n 2, 1) := by decide +kernel
theorem dX7_above_61 : decode cX7_above 61 = .ok (.iload 6, 2) := by decide +kernel
theorem dX7_above_63 : decode cX7_above 63 = .ok (.iaload, 1) := by decide +kernel
theorem dX7_above_64 : decode cX7_above 64 = .ok (.i2l, 1) := by decide +kernel
theorem dX7_above_65 : decode cX7_above 65 = .ok (.lmul, 1) := by decide +kernel
theorem dX7_above_66 : decode cX7_above 66 = .ok (.lstore 4, 2) := by decide +kernel
theorem dX7_above_68 : decode cX7_above 68 = .ok (.iinc 8 1, 3) := by decide +kernel
theorem dX7_above_71 : decode cX7_above 71 = .ok (.goto (-20), 3) := by decide +kernel
theorem dX7_above_74 : decode cX7_above 74 = .ok (.iinc 6 1, 3) := by decide +kernel
theorem dX7_above_77 : decode cX7_above 77 = .ok (.goto (-59), 3) := by decide +kernel
theorem dX7_above_80 : decode cX7_above 80 = .ok (.lload 4, 2) := by decide +kernel
theorem dX7_above_82 : decode cX7_above 82 = .ok (.lreturn, 1) := by decide +kernel
theorem dX7_addTerm_0 : decode cX7_addTerm 0 = .ok (.iconst 0, 1) := by decide +kernel
theorem dX7_addTerm_1 : decode cX7_addTerm 1 = .ok (.istore_n 3, 1) := by decide +kernel
theorem dX7_addTerm_2 : decode cX7_addTerm 2 = .ok (.iload_n 3, 1) := by decide +kernel
theorem dX7_addTerm_3 : decode cX7_addTerm 3 = .ok (.iconst 4, 1) := by decide +kernel
theorem dX7_addTerm_4 : decode cX7_addTerm 4 = .ok (.if_icmp .ge 74, 3) := by decide +kernel
theorem dX7_addTerm_7 : decode cX7_addTerm 7 = .ok (.getstatic 78, 3) := by decide +kernel
theorem dX7_addTerm_10 : decode cX7_addTerm 10 = .ok (.iload_n 3, 1) := by decide +kernel
theorem dX7_addTerm_11 : decode cX7_addTerm 11 = .ok (.iaload, 1) := by decide +kernel
theorem dX7_addTerm_12 : decode cX7_addTerm 12 = .ok (.i2l, 1) := by decide +kernel
theorem dX7_addTerm_13 : decode cX7_addTerm 13 = .ok (.lstore 4, 2) := by decide +kernel
theorem dX7_addTerm_15 : decode cX7_addTerm 15 = .ok (.aload_n 0, 1) := by decide +kernel
theorem dX7_addTerm_16 : decode cX7_addTerm 16 = .ok (.getfield 15, 3) := by decide +kernel
theorem dX7_addTerm_19 : decode cX7_addTerm 19 = .ok (.iload_n 3, 1) := by decide +kernel
theorem dX7_addTerm_20 : decode cX7_addTerm 20 = .ok (.laload, 1) := by decide +kernel
theorem dX7_addTerm_21 : decode cX7_addTerm 21 = .ok (.lconst 0, 1) := by decide +kernel
theorem dX7_addTerm_22 : decode cX7_addTerm 22 = .ok (.lcmp, 1) := by decide +kernel
theorem dX7_addTerm_23 : decode cX7_addTerm 23 = .ok (.ifCond .ne 8, 3) := by decide +kernel
theorem dX7_addTerm_26 : decode cX7_addTerm 26 = .ok (.aload_n 0, 1) := by decide +kernel
theorem dX7_addTerm_27 : decode cX7_addTerm 27 = .ok (.iconst 1, 1) := by decide +kernel
theorem dX7_addTerm_28 : decode cX7_addTerm 28 = .ok (.putfield 22, 3) := by decide +kernel
theorem dX7_addTerm_31 : decode cX7_addTerm 31 = .ok (.lload_n 1, 1) := by decide +kernel
theorem dX7_addTerm_32 : decode cX7_addTerm 32 = .ok (.lload 4, 2) := by decide +kernel
theorem dX7_addTerm_34 : decode cX7_addTerm 34 = .ok (.invokestatic 81, 3) := by decide +kernel
theorem dX7_addTerm_37 : decode cX7_addTerm 37 = .ok (.aload_n 0, 1) := by decide +kernel
theorem dX7_addTerm_38 : decode cX7_addTerm 38 = .ok (.getfield 15, 3) := by decide +kernel
theorem dX7_addTerm_41 : decode cX7_addTerm 41 = .ok (.iload_n 3, 1) := by decide +kernel
theorem dX7_addTerm_42 : decode cX7_addTerm 42 = .ok (.laload, 1) := by decide +kernel
theorem dX7_addTerm_43 : decode cX7_addTerm 43 = .ok (.lload 4, 2) := by decide +kernel
theorem dX7_addTerm_45 : decode cX7_addTerm 45 = .ok (.invokestatic 96, 3) := by decide +kernel
theorem dX7_addTerm_48 : decode cX7_addTerm 48 = .ok (.lmul, 1) := by decide +kernel
theorem dX7_addTerm_49 : decode cX7_addTerm 49 = .ok (.lload 4, 2) := by decide +kernel
theorem dX7_addTerm_51 : decode cX7_addTerm 51 = .ok (.lrem, 1) := by decide +kernel
theorem dX7_addTerm_52 : decode cX7_addTerm 52 = .ok (.lstore 6, 2) := by decide +kernel
theorem dX7_addTerm_54 : decode cX7_addTerm 54 = .ok (.aload_n 0, 1) := by decide +kernel
theorem dX7_addTerm_55 : decode cX7_addTerm 55 = .ok (.getfield 11, 3) := by decide +kernel
theorem dX7_addTerm_58 : decode cX7_addTerm 58 = .ok (.iload_n 3, 1) := by decide +kernel
theorem dX7_addTerm_59 : decode cX7_addTerm 59 = .ok (.aload_n 0, 1) := by decide +kernel
theorem dX7_addTerm_60 : decode cX7_addTerm 60 = .ok (.getfield 11, 3) := by decide +kernel
theorem dX7_addTerm_63 : decode cX7_addTerm 63 = .ok (.iload_n 3, 1) := by decide +kernel
theorem dX7_addTerm_64 : decode cX7_addTerm 64 = .ok (.laload, 1) := by decide +kernel
theorem dX7_addTerm_65 : decode cX7_addTerm 65 = .ok (.lload 6, 2) := by decide +kernel
theorem dX7_addTerm_67 : decode cX7_addTerm 67 = .ok (.ladd, 1) := by decide +kernel
theorem dX7_addTerm_68 : decode cX7_addTerm 68 = .ok (.lload 4, 2) := by decide +kernel
theorem dX7_addTerm_70 : decode cX7_addTerm 70 = .ok (.lrem, 1) := by decide +kernel
theorem dX7_addTerm_71 : decode cX7_addTerm 71 = .ok (.lastore, 1) := by decide +kernel
theorem dX7_addTerm_72 : decode cX7_addTerm 72 = .ok (.iinc 3 1, 3) := by decide +kernel
theorem dX7_addTerm_75 : decode cX7_addTerm 75 = .ok (.goto (-73), 3) := by decide +kernel
theorem dX7_addTerm_78 : decode cX7_addTerm 78 = .ok (.return_, 1) := by decide +kernel
theorem dX7_addProduct_0 : decode cX7_addProduct 0 = .ok (.aload_n 0, 1) := by decide +kernel
theorem dX7_addProduct_1 : decode cX7_addProduct 1 = .ok (.getfield 18, 3) := by decide +kernel
theorem dX7_addProduct_4 : decode cX7_addProduct 4 = .ok (.iconst (-1), 1) := by decide +kernel
theorem dX7_addProduct_5 : decode cX7_addProduct 5 = .ok (.if_icmp .ne 26, 3) := by decide +kernel
theorem dX7_addProduct_8 : decode cX7_addProduct 8 = .ok (.aload_n 0, 1) := by decide +kernel
theorem dX7_addProduct_9 : decode cX7_addProduct 9 = .ok (.aload_n 1, 1) := by decide +kernel
theorem dX7_addProduct_10 : decode cX7_addProduct 10 = .ok (.getfield 18, 3) := by decide +kernel
theorem dX7_addProduct_13 : decode cX7_addProduct 13 = .ok (.iconst (-1), 1) := by decide +kernel
theorem dX7_addProduct_14 : decode cX7_addProduct 14 = .ok (.if_icmp .eq 10, 3) := by decide +kernel
theorem dX7_addProduct_17 : decode cX7_addProduct 17 = .ok (.aload_n 1, 1) := by decide +kernel
theorem dX7_addProduct_18 : decode cX7_addProduct 18 = .ok (.getfield 18, 3) := by decide +kernel
theorem dX7_addProduct_21 : decode cX7_addProduct 21 = .ok (.goto 7, 3) := by decide +kernel
theorem dX7_addProduct_24 : decode cX7_addProduct 24 = .ok (.aload_n 2, 1) := by decide +kernel
theorem dX7_addProduct_25 : decode cX7_addProduct 25 = .ok (.getfield 18, 3) := by decide +kernel
theorem dX7_addProduct_28 : decode cX7_addProduct 28 = .ok (.putfield 18, 3) := by decide +kernel
theorem dX7_addProduct_31 : decode cX7_addProduct 31 = .ok (.aload_n 0, 1) := by decide +kernel
theorem dX7_addProduct_32 : decode cX7_addProduct 32 = .ok (.aload_n 0, 1) := by decide +kernel
theorem dX7_addProduct_33 : decode cX7_addProduct 33 = .ok (.getfield 22, 3) := by decide +kernel
theorem dX7_addProduct_36 : decode cX7_addProduct 36 = .ok (.ifCond .ne 17, 3) := by decide +kernel
theorem dX7_addProduct_39 : decode cX7_addProduct 39 = .ok (.aload_n 1, 1) := by decide +kernel
theorem dX7_addProduct_40 : decode cX7_addProduct 40 = .ok (.getfield 22, 3) := by decide +kernel
theorem dX7_addProduct_43 : decode cX7_addProduct 43 = .ok (.ifCond .ne 10, 3) := by decide +kernel
theorem dX7_addProduct_46 : decode cX7_addProduct 46 = .ok (.aload_n 2, 1) := by decide +kernel
theorem dX7_addProduct_47 : decode cX7_addProduct 47 = .ok (.getfield 22, 3) := by decide +kernel
theorem dX7_addProduct_50 : decode cX7_addProduct 50 = .ok (.ifCond .eq 7, 3) := by decide +kernel
theorem dX7_addProduct_53 : decode cX7_addProduct 53 = .ok (.iconst 1, 1) := by decide +kernel
theorem dX7_addProduct_54 : decode cX7_addProduct 54 = .ok (.goto 4, 3) := by decide +kernel
theorem dX7_addProduct_57 : decode cX7_addProduct 57 = .ok (.iconst 0, 1) := by decide +kernel
theorem dX7_addProduct_58 : decode cX7_addProduct 58 = .ok (.putfield 22, 3) := by decide +kernel
theorem dX7_addProduct_61 : decode cX7_addProduct 61 = .ok (.iconst 0, 1) := by decide +kernel
theorem dX7_addProduct_62 : decode cX7_addProduct 62 = .ok (.istore_n 3, 1) := by decide +kernel
theorem dX7_addProduct_63 : decode cX7_addProduct 63 = .ok (.iload_n 3, 1) := by decide +kernel
theorem dX7_addProduct_64 : decode cX7_addProduct 64 = .ok (.iconst 4, 1) := by decide +kernel
theorem dX7_addProduct_65 : decode cX7_addProduct 65 = .ok (.if_icmp .ge 42, 3) := by decide +kernel
theorem dX7_addProduct_68 : decode cX7_addProduct 68 = .ok (.aload_n 0, 1) := by decide +kernel
theorem dX7_addProduct_69 : decode cX7_addProduct 69 = .ok (.getfield 11, 3) := by decide +kernel
theorem dX7_addProduct_72 : decode cX7_addProduct 72 = .ok (.iload_n 3, 1) := by decide +kernel
theorem dX7_addProduct_73 : decode cX7_addProduct 73 = .ok (.aload_n 0, 1) := by decide +kernel
theorem dX7_addProduct_74 : decode cX7_addProduct 74 = .ok (.getfield 11, 3) := by decide +kernel
theorem dX7_addProduct_77 : decode cX7_addProduct 77 = .ok (.iload_n 3, 1) := by decide +kernel
theorem dX7_addProduct_78 : decode cX7_addProduct 78 = .ok (.laload, 1) := by decide +kernel
theorem dX7_addProduct_79 : decode cX7_addProduct 79 = .ok (.aload_n 1, 1) := by decide +kernel
theorem dX7_addProduct_80 : decode cX7_addProduct 80 = .ok (.getfield 11, 3) := by decide +kernel
theorem dX7_addProduct_83 : decode cX7_addProduct 83 = .ok (.iload_n 3, 1) := by decide +kernel
theorem dX7_addProduct_84 : decode cX7_addProduct 84 = .ok (.laload, 1) := by decide +kernel
theorem dX7_addProduct_85 : decode cX7_addProduct 85 = .ok (.aload_n 2, 1) := by decide +kernel
theorem dX7_addProduct_86 : decode cX7_addProduct 86 = .ok (.getfield 11, 3) := by decide +kernel
theorem dX7_addProduct_89 : decode cX7_addProduct 89 = .ok (.iload_n 3, 1) := by decide +kernel
theorem dX7_addProduct_90 : decode cX7_addProduct 90 = .ok (.laload, 1) := by decide +kernel
theorem dX7_addProduct_91 : decode cX7_addProduct 91 = .ok (.lmul, 1) := by decide +kernel
theorem dX7_addProduct_92 : decode cX7_addProduct 92 = .ok (.ladd, 1) := by decide +kernel
theorem dX7_addProduct_93 : decode cX7_addProduct 93 = .ok (.getstatic 78, 3) := by decide +kernel
theorem dX7_addProduct_96 : decode cX7_addProduct 96 = .ok (.iload_n 3, 1) := by decide +kernel
theorem dX7_addProduct_97 : decode cX7_addProduct 97 = .ok (.iaload, 1) := by decide +kernel
theorem dX7_addProduct_98 : decode cX7_addProduct 98 = .ok (.i2l, 1) := by decide +kernel
theorem dX7_addProduct_99 : decode cX7_addProduct 99 = .ok (.lrem, 1) := by decide +kernel
theorem dX7_addProduct_100 : decode cX7_addProduct 100 = .ok (.lastore, 1) := by decide +kernel
theorem dX7_addProduct_101 : decode cX7_addProduct 101 = .ok (.iinc 3 1, 3) := by decide +kernel
theorem dX7_addProduct_104 : decode cX7_addProduct 104 = .ok (.goto (-41), 3) := by decide +kernel
theorem dX7_addProduct_107 : decode cX7_addProduct 107 = .ok (.return_, 1) := by decide +kernel
theorem dX7_restBy_0 : decode cX7_restBy 0 = .ok (.iload_n 1, 1) := by decide +kernel
theorem dX7_restBy_1 : decode cX7_restBy 1 = .ok (.ifCond .lt 18, 3) := by decide +kernel
theorem dX7_restBy_4 : decode cX7_restBy 4 = .ok (.iload_n 1, 1) := by decide +kernel
theorem dX7_restBy_5 : decode cX7_restBy 5 = .ok (.iconst 4, 1) := by decide +kernel
theorem dX7_restBy_6 : decode cX7_restBy 6 = .ok (.if_icmp .ge 13, 3) := by decide +kernel
theorem dX7_restBy_9 : decode cX7_restBy 9 = .ok (.aload_n 0, 1) := by decide +kernel
theorem dX7_restBy_10 : decode cX7_restBy 10 = .ok (.getfield 11, 3) := by decide +kernel
theorem dX7_restBy_13 : decode cX7_restBy 13 = .ok (.iload_n 1, 1) := by decide +kernel
theorem dX7_restBy_14 : decode cX7_restBy 14 = .ok (.laload, 1) := by decide +kernel
theorem dX7_restBy_15 : decode cX7_restBy 15 = .ok (.l2i, 1) := by decide +kernel
theorem dX7_restBy_16 : decode cX7_restBy 16 = .ok (.goto 4, 3) := by decide +kernel
theorem dX7_restBy_19 : decode cX7_restBy 19 = .ok (.iconst (-1), 1) := by decide +kernel
theorem dX7_restBy_20 : decode cX7_restBy 20 = .ok (.ireturn, 1) := by decide +kernel
theorem dX7_inverse_0 : decode cX7_inverse 0 = .ok (.lload_n 2, 1) := by decide +kernel
theorem dX7_inverse_1 : decode cX7_inverse 1 = .ok (.ldc2_w 99, 3) := by decide +kernel
theorem dX7_inverse_4 : decode cX7_inverse 4 = .ok (.lcmp, 1) := by decide +kernel
theorem dX7_inverse_5 : decode cX7_inverse 5 = .ok (.ifCond .ge 5, 3) := by decide +kernel
theorem dX7_inverse_8 : decode cX7_inverse 8 = .ok (.lconst 0, 1) := by decide +kernel
theorem dX7_inverse_9 : decode cX7_inverse 9 = .ok (.lreturn, 1) := by decide +kernel
theorem dX7_inverse_10 : decode cX7_inverse 10 = .ok (.lconst 1, 1) := by decide +kernel
theorem dX7_inverse_11 : decode cX7_inverse 11 = .ok (.lstore 4, 2) := by decide +kernel
theorem dX7_inverse_13 : decode cX7_inverse 13 = .ok (.lload_n 0, 1) := by decide +kernel
theorem dX7_inverse_14 : decode cX7_inverse 14 = .ok (.lload_n 2, 1) := by decide +kernel
theorem dX7_inverse_15 : decode cX7_inverse 15 = .ok (.lrem, 1) := by decide +kernel
theorem dX7_inverse_16 : decode cX7_inverse 16 = .ok (.lstore 6, 2) := by decide +kernel
theorem dX7_inverse_18 : decode cX7_inverse 18 = .ok (.lload_n 2, 1) := by decide +kernel
theorem dX7_inverse_19 : decode cX7_inverse 19 = .ok (.ldc2_w 99, 3) := by decide +kernel
theorem dX7_inverse_22 : decode cX7_inverse 22 = .ok (.lsub, 1) := by decide +kernel
theorem dX7_inverse_23 : decode cX7_inverse 23 = .ok (.lstore 8, 2) := by decide +kernel
theorem dX7_inverse_25 : decode cX7_inverse 25 = .ok (.lload 8, 2) := by decide +kernel
theorem dX7_inverse_27 : decode cX7_inverse 27 = .ok (.lconst 0, 1) := by decide +kernel
theorem dX7_inverse_28 : decode cX7_inverse 28 = .ok (.lcmp, 1) := by decide +kernel
theorem dX7_inverse_29 : decode cX7_inverse 29 = .ok (.ifCond .le 39, 3) := by decide +kernel
theorem dX7_inverse_32 : decode cX7_inverse 32 = .ok (.lload 8, 2) := by decide +kernel
theorem dX7_inverse_34 : decode cX7_inverse 34 = .ok (.lconst 1, 1) := by decide +kernel
theorem dX7_inverse_35 : decode cX7_inverse 35 = .ok (.land, 1) := by decide +kernel
theorem dX7_inverse_36 : decode cX7_inverse 36 = .ok (.lconst 0, 1) := by decide +kernel
theorem dX7_inverse_37 : decode cX7_inverse 37 = .ok (.lcmp, 1) := by decide +kernel
theorem dX7_inverse_38 : decode cX7_inverse 38 = .ok (.ifCond .eq 12, 3) := by decide +kernel
theorem dX7_inverse_41 : decode cX7_inverse 41 = .ok (.lload 4, 2) := by decide +kernel
theorem dX7_inverse_43 : decode cX7_inverse 43 = .ok (.lload 6, 2) := by decide +kernel
theorem dX7_inverse_45 : decode cX7_inverse 45 = .ok (.lmul, 1) := by decide +kernel
theorem dX7_inverse_46 : decode cX7_inverse 46 = .ok (.lload_n 2, 1) := by decide +kernel
theorem dX7_inverse_47 : decode cX7_inverse 47 = .ok (.lrem, 1) := by decide +kernel
theorem dX7_inverse_48 : decode cX7_inverse 48 = .ok (.lstore 4, 2) := by decide +kernel
theorem dX7_inverse_50 : decode cX7_inverse 50 = .ok (.lload 6, 2) := by decide +kernel
theorem dX7_inverse_52 : decode cX7_inverse 52 = .ok (.lload 6, 2) := by decide +kernel
theorem dX7_inverse_54 : decode cX7_inverse 54 = .ok (.lmul, 1) := by decide +kernel
theorem dX7_inverse_55 : decode cX7_inverse 55 = .ok (.lload_n 2, 1) := by decide +kernel
theorem dX7_inverse_56 : decode cX7_inverse 56 = .ok (.lrem, 1) := by decide +kernel
theorem dX7_inverse_57 : decode cX7_inverse 57 = .ok (.lstore 6, 2) := by decide +kernel
theorem dX7_inverse_59 : decode cX7_inverse 59 = .ok (.lload 8, 2) := by decide +kernel
theorem dX7_inverse_61 : decode cX7_inverse 61 = .ok (.iconst 1, 1) := by decide +kernel
theorem dX7_inverse_62 : decode cX7_inverse 62 = .ok (.lshr, 1) := by decide +kernel
theorem dX7_inverse_63 : decode cX7_inverse 63 = .ok (.lstore 8, 2) := by decide +kernel
theorem dX7_inverse_65 : decode cX7_inverse 65 = .ok (.goto (-40), 3) := by decide +kernel
theorem dX7_inverse_68 : decode cX7_inverse 68 = .ok (.lload 4, 2) := by decide +kernel
theorem dX7_inverse_70 : decode cX7_inverse 70 = .ok (.lreturn, 1) := by decide +kernel
theorem dX7_findFraction_0 : decode cX7_findFraction 0 = .ok (.aload_n 0, 1) := by decide +kernel
theorem dX7_findFraction_1 : decode cX7_findFraction 1 = .ok (.getfield 22, 3) := by decide +kernel
theorem dX7_findFraction_4 : decode cX7_findFraction 4 = .ok (.ifCond .eq 5, 3) := by decide +kernel
theorem dX7_findFraction_7 : decode cX7_findFraction 7 = .ok (.iconst 0, 1) := by decide +kernel
theorem dX7_findFraction_8 : decode cX7_findFraction 8 = .ok (.ireturn, 1) := by decide +kernel
theorem dX7_findFraction_9 : decode cX7_findFraction 9 = .ok (.getstatic 78, 3) := by decide +kernel
theorem dX7_findFraction_12 : decode cX7_findFraction 12 = .ok (.iconst 0, 1) := by decide +kernel
theorem dX7_findFraction_13 : decode cX7_findFraction 13 = .ok (.iaload, 1) := by decide +kernel
theorem dX7_findFraction_14 : decode cX7_findFraction 14 = .ok (.i2l, 1) := by decide +kernel
theorem dX7_findFraction_15 : decode cX7_findFraction 15 = .ok (.getstatic 78, 3) := by decide +kernel
theorem dX7_findFraction_18 : decode cX7_findFraction 18 = .ok (.iconst 1, 1) := by decide +kernel
theorem dX7_findFraction_19 : decode cX7_findFraction 19 = .ok (.iaload, 1) := by decide +kernel
theorem dX7_findFraction_20 : decode cX7_findFraction 20 = .ok (.i2l, 1) := by decide +kernel
theorem dX7_findFraction_21 : decode cX7_findFraction 21 = .ok (.lmul, 1) := by decide +kernel
theorem dX7_findFraction_22 : decode cX7_findFraction 22 = .ok (.getstatic 78, 3) := by decide +kernel
theorem dX7_findFraction_25 : decode cX7_findFraction 25 = .ok (.iconst 2, 1) := by decide +kernel
theorem dX7_findFraction_26 : decode cX7_findFraction 26 = .ok (.iaload, 1) := by decide +kernel
theorem dX7_findFraction_27 : decode cX7_findFraction 27 = .ok (.i2l, 1) := by decide +kernel
theorem dX7_findFraction_28 : decode cX7_findFraction 28 = .ok (.lmul, 1) := by decide +kernel
theorem dX7_findFraction_29 : decode cX7_findFraction 29 = .ok (.lstore_n 1, 1) := by decide +kernel
theorem dX7_findFraction_30 : decode cX7_findFraction 30 = .ok (.aload_n 0, 1) := by decide +kernel
theorem dX7_findFraction_31 : decode cX7_findFraction 31 = .ok (.invokevirtual 101, 3) := by decide +kernel
theorem dX7_findFraction_34 : decode cX7_findFraction 34 = .ok (.lstore_n 3, 1) := by decide +kernel
theorem dX7_findFraction_35 : decode cX7_findFraction 35 = .ok (.lconst 0, 1) := by decide +kernel
theorem dX7_findFraction_36 : decode cX7_findFraction 36 = .ok (.lstore 5, 2) := by decide +kernel
theorem dX7_findFraction_38 : decode cX7_findFraction 38 = .ok (.lconst 1, 1) := by decide +kernel
theorem dX7_findFraction_39 : decode cX7_findFraction 39 = .ok (.lstore 7, 2) := by decide +kernel
theorem dX7_findFraction_41 : decode cX7_findFraction 41 = .ok (.iconst 0, 1) := by decide +kernel
theorem dX7_findFraction_42 : decode cX7_findFraction 42 = .ok (.istore 9, 2) := by decide +kernel
theorem dX7_findFraction_44 : decode cX7_findFraction 44 = .ok (.iload 9, 2) := by decide +kernel
theorem dX7_findFraction_46 : decode cX7_findFraction 46 = .ok (.bipush 100, 2) := by decide +kernel
theorem dX7_findFraction_48 : decode cX7_findFraction 48 = .ok (.if_icmp .ge 53, 3) := by decide +kernel
theorem dX7_findFraction_51 : decode cX7_findFraction 51 = .ok (.lload_n 3, 1) := by decide +kernel
theorem dX7_findFraction_52 : decode cX7_findFraction 52 = .ok (.ldc2_w 105, 3) := by decide +kernel
theorem dX7_findFraction_55 : decode cX7_findFraction 55 = .ok (.lcmp, 1) := by decide +kernel
theorem dX7_findFraction_56 : decode cX7_findFraction 56 = .ok (.ifCond .le 45, 3) := by decide +kernel
theorem dX7_findFraction_59 : decode cX7_findFraction 59 = .ok (.lload_n 1, 1) := by decide +kernel
theorem dX7_findFraction_60 : decode cX7_findFraction 60 = .ok (.lload_n 3, 1) := by decide +kernel
theorem dX7_findFraction_61 : decode cX7_findFraction 61 = .ok (.ldiv, 1) := by decide +kernel
theorem dX7_findFraction_62 : decode cX7_findFraction 62 = .ok (.lstore 10, 2) := by decide +kernel
theorem dX7_findFraction_64 : decode cX7_findFraction 64 = .ok (.lload_n 1, 1) := by decide +kernel
theorem dX7_findFraction_65 : decode cX7_findFraction 65 = .ok (.lload 10, 2) := by decide +kernel
theorem dX7_findFraction_67 : decode cX7_findFraction 67 = .ok (.lload_n 3, 1) := by decide +kernel
theorem dX7_findFraction_68 : decode cX7_findFraction 68 = .ok (.lmul, 1) := by decide +kernel
theorem dX7_findFraction_69 : decode cX7_findFraction 69 = .ok (.lsub, 1) := by decide +kernel
theorem dX7_findFraction_70 : decode cX7_findFraction 70 = .ok (.lstore 12, 2) := by decide +kernel
theorem dX7_findFraction_72 : decode cX7_findFraction 72 = .ok (.lload 5, 2) := by decide +kernel
theorem dX7_findFraction_74 : decode cX7_findFraction 74 = .ok (.lload 10, 2) := by decide +kernel
theorem dX7_findFraction_76 : decode cX7_findFraction 76 = .ok (.lload 7, 2) := by decide +kernel
theorem dX7_findFraction_78 : decode cX7_findFraction 78 = .ok (.lmul, 1) := by decide +kernel
theorem dX7_findFraction_79 : decode cX7_findFraction 79 = .ok (.lsub, 1) := by decide +kernel
theorem dX7_findFraction_80 : decode cX7_findFraction 80 = .ok (.lstore 14, 2) := by decide +kernel
theorem dX7_findFraction_82 : decode cX7_findFraction 82 = .ok (.lload_n 3, 1) := by decide +kernel
theorem dX7_findFraction_83 : decode cX7_findFraction 83 = .ok (.lstore_n 1, 1) := by decide +kernel
theorem dX7_findFraction_84 : decode cX7_findFraction 84 = .ok (.lload 12, 2) := by decide +kernel
theorem dX7_findFraction_86 : decode cX7_findFraction 86 = .ok (.lstore_n 3, 1) := by decide +kernel
theorem dX7_findFraction_87 : decode cX7_findFraction 87 = .ok (.lload 7, 2) := by decide +kernel
theorem dX7_findFraction_89 : decode cX7_findFraction 89 = .ok (.lstore 5, 2) := by decide +kernel
theorem dX7_findFraction_91 : decode cX7_findFraction 91 = .ok (.lload 14, 2) := by decide +kernel
theorem dX7_findFraction_93 : decode cX7_findFraction 93 = .ok (.lstore 7, 2) := by decide +kernel
theorem dX7_findFraction_95 : decode cX7_findFraction 95 = .ok (.iinc 9 1, 3) := by decide +kernel
theorem dX7_findFraction_98 : decode cX7_findFraction 98 = .ok (.goto (-54), 3) := by decide +kernel
theorem dX7_findFraction_101 : decode cX7_findFraction 101 = .ok (.lload_n 3, 1) := by decide +kernel
theorem dX7_findFraction_102 : decode cX7_findFraction 102 = .ok (.ldc2_w 105, 3) := by decide +kernel
theorem dX7_findFraction_105 : decode cX7_findFraction 105 = .ok (.lcmp, 1) := by decide +kernel
theorem dX7_findFraction_106 : decode cX7_findFraction 106 = .ok (.ifCond .gt 32, 3) := by decide +kernel
theorem dX7_findFraction_109 : decode cX7_findFraction 109 = .ok (.aload_n 0, 1) := by decide +kernel
theorem dX7_findFraction_110 : decode cX7_findFraction 110 = .ok (.lload 7, 2) := by decide +kernel
theorem dX7_findFraction_112 : decode cX7_findFraction 112 = .ok (.lconst 0, 1) := by decide +kernel
theorem dX7_findFraction_113 : decode cX7_findFraction 113 = .ok (.lcmp, 1) := by decide +kernel
theorem dX7_findFraction_114 : decode cX7_findFraction 114 = .ok (.ifCond .ge 8, 3) := by decide +kernel
theorem dX7_findFraction_117 : decode cX7_findFraction 117 = .ok (.lload_n 3, 1) := by decide +kernel
theorem dX7_findFraction_118 : decode cX7_findFraction 118 = .ok (.lneg, 1) := by decide +kernel
theorem dX7_findFraction_119 : decode cX7_findFraction 119 = .ok (.goto 4, 3) := by decide +kernel
theorem dX7_findFraction_122 : decode cX7_findFraction 122 = .ok (.lload_n 3, 1) := by decide +kernel
theorem dX7_findFraction_123 : decode cX7_findFraction 123 = .ok (.lload 7, 2) := by decide +kernel
theorem dX7_findFraction_125 : decode cX7_findFraction 125 = .ok (.invokestatic 107, 3) := by decide +kernel
theorem dX7_findFraction_128 : decode cX7_findFraction 128 = .ok (.invokevirtual 111, 3) := by decide +kernel
theorem dX7_findFraction_131 : decode cX7_findFraction 131 = .ok (.ifCond .eq 7, 3) := by decide +kernel
theorem dX7_findFraction_134 : decode cX7_findFraction 134 = .ok (.iconst 1, 1) := by decide +kernel
theorem dX7_findFraction_135 : decode cX7_findFraction 135 = .ok (.goto 4, 3) := by decide +kernel
theorem dX7_findFraction_138 : decode cX7_findFraction 138 = .ok (.iconst 0, 1) := by decide +kernel
theorem dX7_findFraction_139 : decode cX7_findFraction 139 = .ok (.ireturn, 1) := by decide +kernel
theorem dX7_takeFraction_0 : decode cX7_takeFraction 0 = .ok (.lload_n 3, 1) := by decide +kernel
theorem dX7_takeFraction_1 : decode cX7_takeFraction 1 = .ok (.lconst 1, 1) := by decide +kernel
theorem dX7_takeFraction_2 : decode cX7_takeFraction 2 = .ok (.lcmp, 1) := by decide +kernel
theorem dX7_takeFraction_3 : decode cX7_takeFraction 3 = .ok (.ifCond .lt 24, 3) := by decide +kernel
theorem dX7_takeFraction_6 : decode cX7_takeFraction 6 = .ok (.lload_n 3, 1) := by decide +kernel
theorem dX7_takeFraction_7 : decode cX7_takeFraction 7 = .ok (.ldc2_w 105, 3) := by decide +kernel
theorem dX7_takeFraction_10 : decode cX7_takeFraction 10 = .ok (.lcmp, 1) := by decide +kernel
theorem dX7_takeFraction_11 : decode cX7_takeFraction 11 = .ok (.ifCond .gt 16, 3) := by decide +kernel
theorem dX7_takeFraction_14 : decode cX7_takeFraction 14 = .ok (.lload_n 1, 1) := by decide +kernel
theorem dX7_takeFraction_15 : decode cX7_takeFraction 15 = .ok (.invokestatic 107, 3) := by decide +kernel
theorem dX7_takeFraction_18 : decode cX7_takeFraction 18 = .ok (.lload_n 3, 1) := by decide +kernel
theorem dX7_takeFraction_19 : decode cX7_takeFraction 19 = .ok (.invokestatic 115, 3) := by decide +kernel
theorem dX7_takeFraction_22 : decode cX7_takeFraction 22 = .ok (.lconst 1, 1) := by decide +kernel
theorem dX7_takeFraction_23 : decode cX7_takeFraction 23 = .ok (.lcmp, 1) := by decide +kernel
theorem dX7_takeFraction_24 : decode cX7_takeFraction 24 = .ok (.ifCond .eq 5, 3) := by decide +kernel
theorem dX7_takeFraction_27 : decode cX7_takeFraction 27 = .ok (.iconst 0, 1) := by decide +kernel
theorem dX7_takeFraction_28 : decode cX7_takeFraction 28 = .ok (.ireturn, 1) := by decide +kernel
theorem dX7_takeFraction_29 : decode cX7_takeFraction 29 = .ok (.getstatic 78, 3) := by decide +kernel
theorem dX7_takeFraction_32 : decode cX7_takeFraction 32 = .ok (.iconst 3, 1) := by decide +kernel
theorem dX7_takeFraction_33 : decode cX7_takeFraction 33 = .ok (.iaload, 1) := by decide +kernel
theorem dX7_takeFraction_34 : decode cX7_takeFraction 34 = .ok (.i2l, 1) := by decide +kernel
theorem dX7_takeFraction_35 : decode cX7_takeFraction 35 = .ok (.lstore 5, 2) := by decide +kernel
theorem dX7_takeFraction_37 : decode cX7_takeFraction 37 = .ok (.lload_n 1, 1) := by decide +kernel
theorem dX7_takeFraction_38 : decode cX7_takeFraction 38 = .ok (.lload_n 3, 1) := by decide +kernel
theorem dX7_takeFraction_39 : decode cX7_takeFraction 39 = .ok (.aload_n 0, 1) := by decide +kernel
theorem dX7_takeFraction_40 : decode cX7_takeFraction 40 = .ok (.getfield 11, 3) := by decide +kernel
theorem dX7_takeFraction_43 : decode cX7_takeFraction 43 = .ok (.iconst 3, 1) := by decide +kernel
theorem dX7_takeFraction_44 : decode cX7_takeFraction 44 = .ok (.laload, 1) := by decide +kernel
theorem dX7_takeFraction_45 : decode cX7_takeFraction 45 = .ok (.lmul, 1) := by decide +kernel
theorem dX7_takeFraction_46 : decode cX7_takeFraction 46 = .ok (.lsub, 1) := by decide +kernel
theorem dX7_takeFraction_47 : decode cX7_takeFraction 47 = .ok (.lload 5, 2) := by decide +kernel
theorem dX7_takeFraction_49 : decode cX7_takeFraction 49 = .ok (.invokestatic 81, 3) := by decide +kernel
theorem dX7_takeFraction_52 : decode cX7_takeFraction 52 = .ok (.lconst 0, 1) := by decide +kernel
theorem dX7_takeFraction_53 : decode cX7_takeFraction 53 = .ok (.lcmp, 1) := by decide +kernel
theorem dX7_takeFraction_54 : decode cX7_takeFraction 54 = .ok (.ifCond .eq 5, 3) := by decide +kernel
theorem dX7_takeFraction_57 : decode cX7_takeFraction 57 = .ok (.iconst 0, 1) := by decide +kernel
theorem dX7_takeFraction_58 : decode cX7_takeFraction 58 = .ok (.ireturn, 1) := by decide +kernel
theorem dX7_takeFraction_59 : decode cX7_takeFraction 59 = .ok (.aload_n 0, 1) := by decide +kernel
theorem dX7_takeFraction_60 : decode cX7_takeFraction 60 = .ok (.lload_n 1, 1) := by decide +kernel
theorem dX7_takeFraction_61 : decode cX7_takeFraction 61 = .ok (.putfield 118, 3) := by decide +kernel
theorem dX7_takeFraction_64 : decode cX7_takeFraction 64 = .ok (.aload_n 0, 1) := by decide +kernel
theorem dX7_takeFraction_65 : decode cX7_takeFraction 65 = .ok (.lload_n 3, 1) := by decide +kernel
theorem dX7_takeFraction_66 : decode cX7_takeFraction 66 = .ok (.putfield 122, 3) := by decide +kernel
theorem dX7_takeFraction_69 : decode cX7_takeFraction 69 = .ok (.iconst 1, 1) := by decide +kernel
theorem dX7_takeFraction_70 : decode cX7_takeFraction 70 = .ok (.ireturn, 1) := by decide +kernel
theorem dX7_joinedRests_0 : decode cX7_joinedRests 0 = .ok (.getstatic 78, 3) := by decide +kernel
theorem dX7_joinedRests_3 : decode cX7_joinedRests 3 = .ok (.iconst 0, 1) := by decide +kernel
theorem dX7_joinedRests_4 : decode cX7_joinedRests 4 = .ok (.iaload, 1) := by decide +kernel
theorem dX7_joinedRests_5 : decode cX7_joinedRests 5 = .ok (.i2l, 1) := by decide +kernel
theorem dX7_joinedRests_6 : decode cX7_joinedRests 6 = .ok (.lstore_n 1, 1) := by decide +kernel
theorem dX7_joinedRests_7 : decode cX7_joinedRests 7 = .ok (.getstatic 78, 3) := by decide +kernel
theorem dX7_joinedRests_10 : decode cX7_joinedRests 10 = .ok (.iconst 1, 1) := by decide +kernel
theorem dX7_joinedRests_11 : decode cX7_joinedRests 11 = .ok (.iaload, 1) := by decide +kernel
theorem dX7_joinedRests_12 : decode cX7_joinedRests 12 = .ok (.i2l, 1) := by decide +kernel
theorem dX7_joinedRests_13 : decode cX7_joinedRests 13 = .ok (.lstore_n 3, 1) := by decide +kernel
theorem dX7_joinedRests_14 : decode cX7_joinedRests 14 = .ok (.getstatic 78, 3) := by decide +kernel
theorem dX7_joinedRests_17 : decode cX7_joinedRests 17 = .ok (.iconst 2, 1) := by decide +kernel
theorem dX7_joinedRests_18 : decode cX7_joinedRests 18 = .ok (.iaload, 1) := by decide +kernel
theorem dX7_joinedRests_19 : decode cX7_joinedRests 19 = .ok (.i2l, 1) := by decide +kernel
theorem dX7_joinedRests_20 : decode cX7_joinedRests 20 = .ok (.lstore 5, 2) := by decide +kernel
theorem dX7_joinedRests_22 : decode cX7_joinedRests 22 = .ok (.aload_n 0, 1) := by decide +kernel
theorem dX7_joinedRests_23 : decode cX7_joinedRests 23 = .ok (.getfield 11, 3) := by decide +kernel
theorem dX7_joinedRests_26 : decode cX7_joinedRests 26 = .ok (.iconst 1, 1) := by decide +kernel
theorem dX7_joinedRests_27 : decode cX7_joinedRests 27 = .ok (.laload, 1) := by decide +kernel
theorem dX7_joinedRests_28 : decode cX7_joinedRests 28 = .ok (.aload_n 0, 1) := by decide +kernel
theorem dX7_joinedRests_29 : decode cX7_joinedRests 29 = .ok (.getfield 11, 3) := by decide +kernel
theorem dX7_joinedRests_32 : decode cX7_joinedRests 32 = .ok (.iconst 0, 1) := by decide +kernel
theorem dX7_joinedRests_33 : decode cX7_joinedRests 33 = .ok (.laload, 1) := by decide +kernel
theorem dX7_joinedRests_34 : decode cX7_joinedRests 34 = .ok (.lsub, 1) := by decide +kernel
theorem dX7_joinedRests_35 : decode cX7_joinedRests 35 = .ok (.lload_n 1, 1) := by decide +kernel
theorem dX7_joinedRests_36 : decode cX7_joinedRests 36 = .ok (.lload_n 3, 1) := by decide +kernel
theorem dX7_joinedRests_37 : decode cX7_joinedRests 37 = .ok (.invokestatic 96, 3) := by decide +kernel
theorem dX7_joinedRests_40 : decode cX7_joinedRests 40 = .ok (.lmul, 1) := by decide +kernel
theorem dX7_joinedRests_41 : decode cX7_joinedRests 41 = .ok (.lload_n 3, 1) := by decide +kernel
theorem dX7_joinedRests_42 : decode cX7_joinedRests 42 = .ok (.invokestatic 81, 3) := by decide +kernel
theorem dX7_joinedRests_45 : decode cX7_joinedRests 45 = .ok (.lstore 7, 2) := by decide +kernel
theorem dX7_joinedRests_47 : decode cX7_joinedRests 47 = .ok (.aload_n 0, 1) := by decide +kernel
theorem dX7_joinedRests_48 : decode cX7_joinedRests 48 = .ok (.getfield 11, 3) := by decide +kernel
theorem dX7_joinedRests_51 : decode cX7_joinedRests 51 = .ok (.iconst 0, 1) := by decide +kernel
theorem dX7_joinedRests_52 : decode cX7_joinedRests 52 = .ok (.laload, 1) := by decide +kernel
theorem dX7_joinedRests_53 : decode cX7_joinedRests 53 = .ok (.lload_n 1, 1) := by decide +kernel
theorem dX7_joinedRests_54 : decode cX7_joinedRests 54 = .ok (.lload 7, 2) := by decide +kernel
theorem dX7_joinedRests_56 : decode cX7_joinedRests 56 = .ok (.lmul, 1) := by decide +kernel
theorem dX7_joinedRests_57 : decode cX7_joinedRests 57 = .ok (.ladd, 1) := by decide +kernel
theorem dX7_joinedRests_58 : decode cX7_joinedRests 58 = .ok (.lstore 9, 2) := by decide +kernel
theorem dX7_joinedRests_60 : decode cX7_joinedRests 60 = .ok (.lload_n 1, 1) := by decide +kernel
theorem dX7_joinedRests_61 : decode cX7_joinedRests 61 = .ok (.lload_n 3, 1) := by decide +kernel
theorem dX7_joinedRests_62 : decode cX7_joinedRests 62 = .ok (.lmul, 1) := by decide +kernel
theorem dX7_joinedRests_63 : decode cX7_joinedRests 63 = .ok (.lstore 11, 2) := by decide +kernel
theorem dX7_joinedRests_65 : decode cX7_joinedRests 65 = .ok (.aload_n 0, 1) := by decide +kernel
theorem dX7_joinedRests_66 : decode cX7_joinedRests 66 = .ok (.getfield 11, 3) := by decide +kernel
theorem dX7_joinedRests_69 : decode cX7_joinedRests 69 = .ok (.iconst 2, 1) := by decide +kernel
theorem dX7_joinedRests_70 : decode cX7_joinedRests 70 = .ok (.laload, 1) := by decide +kernel
theorem dX7_joinedRests_71 : decode cX7_joinedRests 71 = .ok (.lload 9, 2) := by decide +kernel
theorem dX7_joinedRests_73 : decode cX7_joinedRests 73 = .ok (.lsub, 1) := by decide +kernel
theorem dX7_joinedRests_74 : decode cX7_joinedRests 74 = .ok (.lload 5, 2) := by decide +kernel
theorem dX7_joinedRests_76 : decode cX7_joinedRests 76 = .ok (.invokestatic 81, 3) := by decide +kernel
theorem dX7_joinedRests_79 : decode cX7_joinedRests 79 = .ok (.lload 11, 2) := by decide +kernel
theorem dX7_joinedRests_81 : decode cX7_joinedRests 81 = .ok (.lload 5, 2) := by decide +kernel
theorem dX7_joinedRests_83 : decode cX7_joinedRests 83 = .ok (.invokestatic 96, 3) := by decide +kernel
theorem dX7_joinedRests_86 : decode cX7_joinedRests 86 = .ok (.lmul, 1) := by decide +kernel
theorem dX7_joinedRests_87 : decode cX7_joinedRests 87 = .ok (.lload 5, 2) := by decide +kernel
theorem dX7_joinedRests_89 : decode cX7_joinedRests 89 = .ok (.lrem, 1) := by decide +kernel
theorem dX7_joinedRests_90 : decode cX7_joinedRests 90 = .ok (.lstore 13, 2) := by decide +kernel
theorem dX7_joinedRests_92 : decode cX7_joinedRests 92 = .ok (.lload 9, 2) := by decide +kernel
theorem dX7_joinedRests_94 : decode cX7_joinedRests 94 = .ok (.lload 11, 2) := by decide +kernel
theorem dX7_joinedRests_96 : decode cX7_joinedRests 96 = .ok (.lload 13, 2) := by decide +kernel
theorem dX7_joinedRests_98 : decode cX7_joinedRests 98 = .ok (.lmul, 1) := by decide +kernel
theorem dX7_joinedRests_99 : decode cX7_joinedRests 99 = .ok (.ladd, 1) := by decide +kernel
theorem dX7_joinedRests_100 : decode cX7_joinedRests 100 = .ok (.lreturn, 1) := by decide +kernel
theorem dX7_divisorOf_0 : decode cX7_divisorOf 0 = .ok (.lload_n 0, 1) := by decide +kernel
theorem dX7_divisorOf_1 : decode cX7_divisorOf 1 = .ok (.lstore 4, 2) := by decide +kernel
theorem dX7_divisorOf_3 : decode cX7_divisorOf 3 = .ok (.lload_n 2, 1) := by decide +kernel
theorem dX7_divisorOf_4 : decode cX7_divisorOf 4 = .ok (.lstore 6, 2) := by decide +kernel
theorem dX7_divisorOf_6 : decode cX7_divisorOf 6 = .ok (.iconst 0, 1) := by decide +kernel
theorem dX7_divisorOf_7 : decode cX7_divisorOf 7 = .ok (.istore 8, 2) := by decide +kernel
theorem dX7_divisorOf_9 : decode cX7_divisorOf 9 = .ok (.iload 8, 2) := by decide +kernel
theorem dX7_divisorOf_11 : decode cX7_divisorOf 11 = .ok (.bipush 100, 2) := by decide +kernel
theorem dX7_divisorOf_13 : decode cX7_divisorOf 13 = .ok (.if_icmp .ge 31, 3) := by decide +kernel
theorem dX7_divisorOf_16 : decode cX7_divisorOf 16 = .ok (.lload 6, 2) := by decide +kernel
theorem dX7_divisorOf_18 : decode cX7_divisorOf 18 = .ok (.lconst 0, 1) := by decide +kernel
theorem dX7_divisorOf_19 : decode cX7_divisorOf 19 = .ok (.lcmp, 1) := by decide +kernel
theorem dX7_divisorOf_20 : decode cX7_divisorOf 20 = .ok (.ifCond .eq 24, 3) := by decide +kernel
theorem dX7_divisorOf_23 : decode cX7_divisorOf 23 = .ok (.lload 4, 2) := by decide +kernel
theorem dX7_divisorOf_25 : decode cX7_divisorOf 25 = .ok (.lload 6, 2) := by decide +kernel
theorem dX7_divisorOf_27 : decode cX7_divisorOf 27 = .ok (.lrem, 1) := by decide +kernel
theorem dX7_divisorOf_28 : decode cX7_divisorOf 28 = .ok (.lstore 9, 2) := by decide +kernel
theorem dX7_divisorOf_30 : decode cX7_divisorOf 30 = .ok (.lload 6, 2) := by decide +kernel
theorem dX7_divisorOf_32 : decode cX7_divisorOf 32 = .ok (.lstore 4, 2) := by decide +kernel
theorem dX7_divisorOf_34 : decode cX7_divisorOf 34 = .ok (.lload 9, 2) := by decide +kernel
theorem dX7_divisorOf_36 : decode cX7_divisorOf 36 = .ok (.lstore 6, 2) := by decide +kernel
theorem dX7_divisorOf_38 : decode cX7_divisorOf 38 = .ok (.iinc 8 1, 3) := by decide +kernel
theorem dX7_divisorOf_41 : decode cX7_divisorOf 41 = .ok (.goto (-32), 3) := by decide +kernel
theorem dX7_divisorOf_44 : decode cX7_divisorOf 44 = .ok (.lload 4, 2) := by decide +kernel
theorem dX7_divisorOf_46 : decode cX7_divisorOf 46 = .ok (.lreturn, 1) := by decide +kernel

