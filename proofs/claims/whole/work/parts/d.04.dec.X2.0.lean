theorem dX2_init_0 : decode cX2_init 0 = .ok (.aload_n 0, 1) := by decide +kernel
theorem dX2_init_1 : decode cX2_init 1 = .ok (.invokespecial 3, 3) := by decide +kernel
theorem dX2_init_4 : decode cX2_init 4 = .ok (.aload_n 0, 1) := by decide +kernel
theorem dX2_init_5 : decode cX2_init 5 = .ok (.bipush 25, 2) := by decide +kernel
theorem dX2_init_7 : decode cX2_init 7 = .ok (.newarray .int, 2) := by decide +kernel
theorem dX2_init_9 : decode cX2_init 9 = .ok (.putfield 9, 3) := by decide +kernel
theorem dX2_init_12 : decode cX2_init 12 = .ok (.aload_n 0, 1) := by decide +kernel
theorem dX2_init_13 : decode cX2_init 13 = .ok (.bipush 12, 2) := by decide +kernel
theorem dX2_init_15 : decode cX2_init 15 = .ok (.newarray .long, 2) := by decide +kernel
theorem dX2_init_17 : decode cX2_init 17 = .ok (.putfield 13, 3) := by decide +kernel
theorem dX2_init_20 : decode cX2_init 20 = .ok (.aload_n 0, 1) := by decide +kernel
theorem dX2_init_21 : decode cX2_init 21 = .ok (.bipush 12, 2) := by decide +kernel
theorem dX2_init_23 : decode cX2_init 23 = .ok (.newarray .long, 2) := by decide +kernel
theorem dX2_init_25 : decode cX2_init 25 = .ok (.putfield 17, 3) := by decide +kernel
theorem dX2_init_28 : decode cX2_init 28 = .ok (.return_, 1) := by decide +kernel
theorem dX2_clear_0 : decode cX2_clear 0 = .ok (.iconst 0, 1) := by decide +kernel
theorem dX2_clear_1 : decode cX2_clear 1 = .ok (.istore_n 1, 1) := by decide +kernel
theorem dX2_clear_2 : decode cX2_clear 2 = .ok (.iload_n 1, 1) := by decide +kernel
theorem dX2_clear_3 : decode cX2_clear 3 = .ok (.bipush 25, 2) := by decide +kernel
theorem dX2_clear_5 : decode cX2_clear 5 = .ok (.if_icmp .ge 16, 3) := by decide +kernel
theorem dX2_clear_8 : decode cX2_clear 8 = .ok (.aload_n 0, 1) := by decide +kernel
theorem dX2_clear_9 : decode cX2_clear 9 = .ok (.getfield 9, 3) := by decide +kernel
theorem dX2_clear_12 : decode cX2_clear 12 = .ok (.iload_n 1, 1) := by decide +kernel
theorem dX2_clear_13 : decode cX2_clear 13 = .ok (.iconst 0, 1) := by decide +kernel
theorem dX2_clear_14 : decode cX2_clear 14 = .ok (.iastore, 1) := by decide +kernel
theorem dX2_clear_15 : decode cX2_clear 15 = .ok (.iinc 1 1, 3) := by decide +kernel
theorem dX2_clear_18 : decode cX2_clear 18 = .ok (.goto (-16), 3) := by decide +kernel
theorem dX2_clear_21 : decode cX2_clear 21 = .ok (.iconst 0, 1) := by decide +kernel
theorem dX2_clear_22 : decode cX2_clear 22 = .ok (.istore_n 1, 1) := by decide +kernel
theorem dX2_clear_23 : decode cX2_clear 23 = .ok (.iload_n 1, 1) := by decide +kernel
theorem dX2_clear_24 : decode cX2_clear 24 = .ok (.bipush 12, 2) := by decide +kernel
theorem dX2_clear_26 : decode cX2_clear 26 = .ok (.if_icmp .ge 16, 3) := by decide +kernel
theorem dX2_clear_29 : decode cX2_clear 29 = .ok (.aload_n 0, 1) := by decide +kernel
theorem dX2_clear_30 : decode cX2_clear 30 = .ok (.getfield 13, 3) := by decide +kernel
theorem dX2_clear_33 : decode cX2_clear 33 = .ok (.iload_n 1, 1) := by decide +kernel
theorem dX2_clear_34 : decode cX2_clear 34 = .ok (.lconst 0, 1) := by decide +kernel
theorem dX2_clear_35 : decode cX2_clear 35 = .ok (.lastore, 1) := by decide +kernel
theorem dX2_clear_36 : decode cX2_clear 36 = .ok (.iinc 1 1, 3) := by decide +kernel
theorem dX2_clear_39 : decode cX2_clear 39 = .ok (.goto (-16), 3) := by decide +kernel
theorem dX2_clear_42 : decode cX2_clear 42 = .ok (.return_, 1) := by decide +kernel
theorem dX2_widen_0 : decode cX2_widen 0 = .ok (.iconst 0, 1) := by decide +kernel
theorem dX2_widen_1 : decode cX2_widen 1 = .ok (.istore_n 3, 1) := by decide +kernel
theorem dX2_widen_2 : decode cX2_widen 2 = .ok (.iload_n 3, 1) := by decide +kernel
theorem dX2_widen_3 : decode cX2_widen 3 = .ok (.bipush 25, 2) := by decide +kernel
theorem dX2_widen_5 : decode cX2_widen 5 = .ok (.if_icmp .ge 33, 3) := by decide +kernel
theorem dX2_widen_8 : decode cX2_widen 8 = .ok (.aload_n 0, 1) := by decide +kernel
theorem dX2_widen_9 : decode cX2_widen 9 = .ok (.getfield 9, 3) := by decide +kernel
theorem dX2_widen_12 : decode cX2_widen 12 = .ok (.iload_n 3, 1) := by decide +kernel
theorem dX2_widen_13 : decode cX2_widen 13 = .ok (.aload_n 0, 1) := by decide +kernel
theorem dX2_widen_14 : decode cX2_widen 14 = .ok (.getfield 9, 3) := by decide +kernel
theorem dX2_widen_17 : decode cX2_widen 17 = .ok (.iload_n 3, 1) := by decide +kernel
theorem dX2_widen_18 : decode cX2_widen 18 = .ok (.iaload, 1) := by decide +kernel
theorem dX2_widen_19 : decode cX2_widen 19 = .ok (.getstatic 20, 3) := by decide +kernel
theorem dX2_widen_22 : decode cX2_widen 22 = .ok (.iload_n 3, 1) := by decide +kernel
theorem dX2_widen_23 : decode cX2_widen 23 = .ok (.iaload, 1) := by decide +kernel
theorem dX2_widen_24 : decode cX2_widen 24 = .ok (.lload_n 1, 1) := by decide +kernel
theorem dX2_widen_25 : decode cX2_widen 25 = .ok (.invokestatic 23, 3) := by decide +kernel
theorem dX2_widen_28 : decode cX2_widen 28 = .ok (.invokestatic 27, 3) := by decide +kernel
theorem dX2_widen_31 : decode cX2_widen 31 = .ok (.iastore, 1) := by decide +kernel
theorem dX2_widen_32 : decode cX2_widen 32 = .ok (.iinc 3 1, 3) := by decide +kernel
theorem dX2_widen_35 : decode cX2_widen 35 = .ok (.goto (-33), 3) := by decide +kernel
theorem dX2_widen_38 : decode cX2_widen 38 = .ok (.return_, 1) := by decide +kernel
theorem dX2_add_0 : decode cX2_add 0 = .ok (.lload_n 1, 1) := by decide +kernel
theorem dX2_add_1 : decode cX2_add 1 = .ok (.lconst 0, 1) := by decide +kernel
theorem dX2_add_2 : decode cX2_add 2 = .ok (.lcmp, 1) := by decide +kernel
theorem dX2_add_3 : decode cX2_add 3 = .ok (.ifCond .ne 4, 3) := by decide +kernel
theorem dX2_add_6 : decode cX2_add 6 = .ok (.return_, 1) := by decide +kernel
theorem dX2_add_7 : decode cX2_add 7 = .ok (.lload_n 1, 1) := by decide +kernel
theorem dX2_add_8 : decode cX2_add 8 = .ok (.invokestatic 33, 3) := by decide +kernel
theorem dX2_add_11 : decode cX2_add 11 = .ok (.lstore 5, 2) := by decide +kernel
theorem dX2_add_13 : decode cX2_add 13 = .ok (.iconst 0, 1) := by decide +kernel
theorem dX2_add_14 : decode cX2_add 14 = .ok (.istore 7, 2) := by decide +kernel
theorem dX2_add_16 : decode cX2_add 16 = .ok (.iload 7, 2) := by decide +kernel
theorem dX2_add_18 : decode cX2_add 18 = .ok (.bipush 12, 2) := by decide +kernel
theorem dX2_add_20 : decode cX2_add 20 = .ok (.if_icmp .ge 29, 3) := by decide +kernel
theorem dX2_add_23 : decode cX2_add 23 = .ok (.aload_n 0, 1) := by decide +kernel
theorem dX2_add_24 : decode cX2_add 24 = .ok (.getfield 17, 3) := by decide +kernel
theorem dX2_add_27 : decode cX2_add 27 = .ok (.iload 7, 2) := by decide +kernel
theorem dX2_add_29 : decode cX2_add 29 = .ok (.lload 5, 2) := by decide +kernel
theorem dX2_add_31 : decode cX2_add 31 = .ok (.ldc2_w 37, 3) := by decide +kernel
theorem dX2_add_34 : decode cX2_add 34 = .ok (.land, 1) := by decide +kernel
theorem dX2_add_35 : decode cX2_add 35 = .ok (.lastore, 1) := by decide +kernel
theorem dX2_add_36 : decode cX2_add 36 = .ok (.lload 5, 2) := by decide +kernel
theorem dX2_add_38 : decode cX2_add 38 = .ok (.bipush 30, 2) := by decide +kernel
theorem dX2_add_40 : decode cX2_add 40 = .ok (.lshr, 1) := by decide +kernel
theorem dX2_add_41 : decode cX2_add 41 = .ok (.lstore 5, 2) := by decide +kernel
theorem dX2_add_43 : decode cX2_add 43 = .ok (.iinc 7 1, 3) := by decide +kernel
theorem dX2_add_46 : decode cX2_add 46 = .ok (.goto (-30), 3) := by decide +kernel
theorem dX2_add_49 : decode cX2_add 49 = .ok (.iconst 0, 1) := by decide +kernel
theorem dX2_add_50 : decode cX2_add 50 = .ok (.istore 7, 2) := by decide +kernel
theorem dX2_add_52 : decode cX2_add 52 = .ok (.iload 7, 2) := by decide +kernel
theorem dX2_add_54 : decode cX2_add 54 = .ok (.bipush 25, 2) := by decide +kernel
theorem dX2_add_56 : decode cX2_add 56 = .ok (.if_icmp .ge 49, 3) := by decide +kernel
theorem dX2_add_59 : decode cX2_add 59 = .ok (.getstatic 20, 3) := by decide +kernel
theorem dX2_add_62 : decode cX2_add 62 = .ok (.iload 7, 2) := by decide +kernel
theorem dX2_add_64 : decode cX2_add 64 = .ok (.iaload, 1) := by decide +kernel
theorem dX2_add_65 : decode cX2_add 65 = .ok (.lload_n 3, 1) := by decide +kernel
theorem dX2_add_66 : decode cX2_add 66 = .ok (.invokestatic 23, 3) := by decide +kernel
theorem dX2_add_69 : decode cX2_add 69 = .ok (.istore 8, 2) := by decide +kernel
theorem dX2_add_71 : decode cX2_add 71 = .ok (.iload 8, 2) := by decide +kernel
theorem dX2_add_73 : decode cX2_add 73 = .ok (.aload_n 0, 1) := by decide +kernel
theorem dX2_add_74 : decode cX2_add 74 = .ok (.getfield 9, 3) := by decide +kernel
theorem dX2_add_77 : decode cX2_add 77 = .ok (.iload 7, 2) := by decide +kernel
theorem dX2_add_79 : decode cX2_add 79 = .ok (.iaload, 1) := by decide +kernel
theorem dX2_add_80 : decode cX2_add 80 = .ok (.if_icmp .ge 19, 3) := by decide +kernel
theorem dX2_add_83 : decode cX2_add 83 = .ok (.aload_n 0, 1) := by decide +kernel
theorem dX2_add_84 : decode cX2_add 84 = .ok (.getstatic 20, 3) := by decide +kernel
theorem dX2_add_87 : decode cX2_add 87 = .ok (.iload 7, 2) := by decide +kernel
theorem dX2_add_89 : decode cX2_add 89 = .ok (.iaload, 1) := by decide +kernel
theorem dX2_add_90 : decode cX2_add 90 = .ok (.invokevirtual 39, 3) := by decide +kernel
theorem dX2_add_93 : decode cX2_add 93 = .ok (.iinc 8 1, 3) := by decide +kernel
theorem dX2_add_96 : decode cX2_add 96 = .ok (.goto (-25), 3) := by decide +kernel
theorem dX2_add_99 : decode cX2_add 99 = .ok (.iinc 7 1, 3) := by decide +kernel
theorem dX2_add_102 : decode cX2_add 102 = .ok (.goto (-50), 3) := by decide +kernel
theorem dX2_add_105 : decode cX2_add 105 = .ok (.iconst 0, 1) := by decide +kernel
theorem dX2_add_106 : decode cX2_add 106 = .ok (.istore 7, 2) := by decide +kernel
theorem dX2_add_108 : decode cX2_add 108 = .ok (.iload 7, 2) := by decide +kernel
theorem dX2_add_110 : decode cX2_add 110 = .ok (.bipush 12, 2) := by decide +kernel
theorem dX2_add_112 : decode cX2_add 112 = .ok (.if_icmp .ge 43, 3) := by decide +kernel
theorem dX2_add_115 : decode cX2_add 115 = .ok (.aload_n 0, 1) := by decide +kernel
theorem dX2_add_116 : decode cX2_add 116 = .ok (.getfield 13, 3) := by decide +kernel
theorem dX2_add_119 : decode cX2_add 119 = .ok (.iload 7, 2) := by decide +kernel
theorem dX2_add_121 : decode cX2_add 121 = .ok (.dup2, 1) := by decide +kernel
theorem dX2_add_122 : decode cX2_add 122 = .ok (.laload, 1) := by decide +kernel
theorem dX2_add_123 : decode cX2_add 123 = .ok (.lload_n 1, 1) := by decide +kernel
theorem dX2_add_124 : decode cX2_add 124 = .ok (.lconst 0, 1) := by decide +kernel
theorem dX2_add_125 : decode cX2_add 125 = .ok (.lcmp, 1) := by decide +kernel
theorem dX2_add_126 : decode cX2_add 126 = .ok (.ifCond .ge 14, 3) := by decide +kernel
theorem dX2_add_129 : decode cX2_add 129 = .ok (.aload_n 0, 1) := by decide +kernel
theorem dX2_add_130 : decode cX2_add 130 = .ok (.getfield 17, 3) := by decide +kernel
theorem dX2_add_133 : decode cX2_add 133 = .ok (.iload 7, 2) := by decide +kernel
theorem dX2_add_135 : decode cX2_add 135 = .ok (.laload, 1) := by decide +kernel
theorem dX2_add_136 : decode cX2_add 136 = .ok (.lneg, 1) := by decide +kernel
theorem dX2_add_137 : decode cX2_add 137 = .ok (.goto 10, 3) := by decide +kernel
theorem dX2_add_140 : decode cX2_add 140 = .ok (.aload_n 0, 1) := by decide +kernel
theorem dX2_add_141 : decode cX2_add 141 = .ok (.getfield 17, 3) := by decide +kernel
theorem dX2_add_144 : decode cX2_add 144 = .ok (.iload 7, 2) := by decide +kernel
theorem dX2_add_146 : decode cX2_add 146 = .ok (.laload, 1) := by decide +kernel
theorem dX2_add_147 : decode cX2_add 147 = .ok (.ladd, 1) := by decide +kernel
theorem dX2_add_148 : decode cX2_add 148 = .ok (.lastore, 1) := by decide +kernel
theorem dX2_add_149 : decode cX2_add 149 = .ok (.iinc 7 1, 3) := by decide +kernel
theorem dX2_add_152 : decode cX2_add 152 = .ok (.goto (-44), 3) := by decide +kernel
theorem dX2_add_155 : decode cX2_add 155 = .ok (.return_, 1) := by decide +kernel
theorem dX2_reduce_0 : decode cX2_reduce 0 = .ok (.aload_n 0, 1) := by decide +kernel
theorem dX2_reduce_1 : decode cX2_reduce 1 = .ok (.iconst 0, 1) := by decide +kernel
theorem dX2_reduce_2 : decode cX2_reduce 2 = .ok (.invokevirtual 43, 3) := by decide +kernel
theorem dX2_reduce_5 : decode cX2_reduce 5 = .ok (.lconst 0, 1) := by decide +kernel
theorem dX2_reduce_6 : decode cX2_reduce 6 = .ok (.lcmp, 1) := by decide +kernel
theorem dX2_reduce_7 : decode cX2_reduce 7 = .ok (.ifCond .ge 7, 3) := by decide +kernel
theorem dX2_reduce_10 : decode cX2_reduce 10 = .ok (.iconst 1, 1) := by decide +kernel
theorem dX2_reduce_11 : decode cX2_reduce 11 = .ok (.goto 4, 3) := by decide +kernel
theorem dX2_reduce_14 : decode cX2_reduce 14 = .ok (.iconst 0, 1) := by decide +kernel
theorem dX2_reduce_15 : decode cX2_reduce 15 = .ok (.istore_n 1, 1) := by decide +kernel
theorem dX2_reduce_16 : decode cX2_reduce 16 = .ok (.iconst 0, 1) := by decide +kernel
theorem dX2_reduce_17 : decode cX2_reduce 17 = .ok (.istore_n 2, 1) := by decide +kernel
theorem dX2_reduce_18 : decode cX2_reduce 18 = .ok (.iload_n 2, 1) := by decide +kernel
theorem dX2_reduce_19 : decode cX2_reduce 19 = .ok (.bipush 12, 2) := by decide +kernel
theorem dX2_reduce_21 : decode cX2_reduce 21 = .ok (.if_icmp .ge 26, 3) := by decide +kernel
theorem dX2_reduce_24 : decode cX2_reduce 24 = .ok (.iload_n 1, 1) := by decide +kernel
theorem dX2_reduce_25 : decode cX2_reduce 25 = .ok (.ifCond .eq 22, 3) := by decide +kernel
theorem dX2_reduce_28 : decode cX2_reduce 28 = .ok (.aload_n 0, 1) := by decide +kernel
theorem dX2_reduce_29 : decode cX2_reduce 29 = .ok (.getfield 13, 3) := by decide +kernel
theorem dX2_reduce_32 : decode cX2_reduce 32 = .ok (.iload_n 2, 1) := by decide +kernel
theorem dX2_reduce_33 : decode cX2_reduce 33 = .ok (.aload_n 0, 1) := by decide +kernel
theorem dX2_reduce_34 : decode cX2_reduce 34 = .ok (.getfield 13, 3) := by decide +kernel
theorem dX2_reduce_37 : decode cX2_reduce 37 = .ok (.iload_n 2, 1) := by decide +kernel
theorem dX2_reduce_38 : decode cX2_reduce 38 = .ok (.laload, 1) := by decide +kernel
theorem dX2_reduce_39 : decode cX2_reduce 39 = .ok (.lneg, 1) := by decide +kernel
theorem dX2_reduce_40 : decode cX2_reduce 40 = .ok (.lastore, 1) := by decide +kernel
theorem dX2_reduce_41 : decode cX2_reduce 41 = .ok (.iinc 2 1, 3) := by decide +kernel
theorem dX2_reduce_44 : decode cX2_reduce 44 = .ok (.goto (-26), 3) := by decide +kernel
theorem dX2_reduce_47 : decode cX2_reduce 47 = .ok (.aload_n 0, 1) := by decide +kernel
theorem dX2_reduce_48 : decode cX2_reduce 48 = .ok (.iconst 1, 1) := by decide +kernel
theorem dX2_reduce_49 : decode cX2_reduce 49 = .ok (.invokevirtual 43, 3) := by decide +kernel
theorem dX2_reduce_52 : decode cX2_reduce 52 = .ok (.pop2, 1) := by decide +kernel
theorem dX2_reduce_53 : decode cX2_reduce 53 = .ok (.iconst 0, 1) := by decide +kernel
theorem dX2_reduce_54 : decode cX2_reduce 54 = .ok (.istore_n 2, 1) := by decide +kernel
theorem dX2_reduce_55 : decode cX2_reduce 55 = .ok (.iload_n 2, 1) := by decide +kernel
theorem dX2_reduce_56 : decode cX2_reduce 56 = .ok (.bipush 25, 2) := by decide +kernel
theorem dX2_reduce_58 : decode cX2_reduce 58 = .ok (.if_icmp .ge 52, 3) := by decide +kernel
theorem dX2_reduce_61 : decode cX2_reduce 61 = .ok (.aload_n 0, 1) := by decide +kernel
theorem dX2_reduce_62 : decode cX2_reduce 62 = .ok (.getfield 9, 3) := by decide +kernel
theorem dX2_reduce_65 : decode cX2_reduce 65 = .ok (.iload_n 2, 1) := by decide +kernel
theorem dX2_reduce_66 : decode cX2_reduce 66 = .ok (.iaload, 1) := by decide +kernel
theorem dX2_reduce_67 : decode cX2_reduce 67 = .ok (.ifCond .le 37, 3) := by decide +kernel
theorem dX2_reduce_70 : decode cX2_reduce 70 = .ok (.aload_n 0, 1) := by decide +kernel
theorem dX2_reduce_71 : decode cX2_reduce 71 = .ok (.getstatic 20, 3) := by decide +kernel
theorem dX2_reduce_74 : decode cX2_reduce 74 = .ok (.iload_n 2, 1) := by decide +kernel
theorem dX2_reduce_75 : decode cX2_reduce 75 = .ok (.iaload, 1) := by decide +kernel
theorem dX2_reduce_76 : decode cX2_reduce 76 = .ok (.invokevirtual 47, 3) := by decide +kernel
theorem dX2_reduce_79 : decode cX2_reduce 79 = .ok (.ifCond .eq 25, 3) := by decide +kernel
theorem dX2_reduce_82 : decode cX2_reduce 82 = .ok (.aload_n 0, 1) := by decide +kernel
theorem dX2_reduce_83 : decode cX2_reduce 83 = .ok (.getstatic 20, 3) := by decide +kernel
theorem dX2_reduce_86 : decode cX2_reduce 86 = .ok (.iload_n 2, 1) := by decide +kernel
theorem dX2_reduce_87 : decode cX2_reduce 87 = .ok (.iaload, 1) := by decide +kernel
theorem dX2_reduce_88 : decode cX2_reduce 88 = .ok (.invokevirtual 51, 3) := by decide +kernel
theorem dX2_reduce_91 : decode cX2_reduce 91 = .ok (.aload_n 0, 1) := by decide +kernel
theorem dX2_reduce_92 : decode cX2_reduce 92 = .ok (.getfield 9, 3) := by decide +kernel
theorem dX2_reduce_95 : decode cX2_reduce 95 = .ok (.iload_n 2, 1) := by decide +kernel
theorem dX2_reduce_96 : decode cX2_reduce 96 = .ok (.dup2, 1) := by decide +kernel
theorem dX2_reduce_97 : decode cX2_reduce 97 = .ok (.iaload, 1) := by decide +kernel
theorem dX2_reduce_98 : decode cX2_reduce 98 = .ok (.iconst 1, 1) := by decide +kernel
theorem dX2_reduce_99 : decode cX2_reduce 99 = .ok (.isub, 1) := by decide +kernel
theorem dX2_reduce_100 : decode cX2_reduce 100 = .ok (.iastore, 1) := by decide +kernel
theorem dX2_reduce_101 : decode cX2_reduce 101 = .ok (.goto (-40), 3) := by decide +kernel
theorem dX2_reduce_104 : decode cX2_reduce 104 = .ok (.iinc 2 1, 3) := by decide +kernel
theorem dX2_reduce_107 : decode cX2_reduce 107 = .ok (.goto (-52), 3) := by decide +kernel
theorem dX2_reduce_110 : decode cX2_reduce 110 = .ok (.aload_n 0, 1) := by decide +kernel
theorem dX2_reduce_111 : decode cX2_reduce 111 = .ok (.invokevirtual 54, 3) := by decide +kernel
theorem dX2_reduce_114 : decode cX2_reduce 114 = .ok (.lstore_n 2, 1) := by decide +kernel
theorem dX2_reduce_115 : decode cX2_reduce 115 = .ok (.aload_n 0, 1) := by decide +kernel
theorem dX2_reduce_116 : decode cX2_reduce 116 = .ok (.iload_n 1, 1) := by decide +kernel
theorem dX2_reduce_117 : decode cX2_reduce 117 = .ok (.ifCond .eq 8, 3) := by decide +kernel
theorem dX2_reduce_120 : decode cX2_reduce 120 = .ok (.lload_n 2, 1) := by decide +kernel
theorem dX2_reduce_121 : decode cX2_reduce 121 = .ok (.lneg, 1) := by decide +kernel
theorem dX2_reduce_122 : decode cX2_reduce 122 = .ok (.goto 4, 3) := by decide +kernel
theorem dX2_reduce_125 : decode cX2_reduce 125 = .ok (.lload_n 2, 1) := by decide +kernel
theorem dX2_reduce_126 : decode cX2_reduce 126 = .ok (.putfield 58, 3) := by decide +kernel
theorem dX2_reduce_129 : decode cX2_reduce 129 = .ok (.aload_n 0, 1) := by decide +kernel
theorem dX2_reduce_130 : decode cX2_reduce 130 = .ok (.lload_n 2, 1) := by decide +kernel
theorem dX2_reduce_131 : decode cX2_reduce 131 = .ok (.lconst 0, 1) := by decide +kernel
theorem dX2_reduce_132 : decode cX2_reduce 132 = .ok (.lcmp, 1) := by decide +kernel
theorem dX2_reduce_133 : decode cX2_reduce 133 = .ok (.ifCond .ne 7, 3) := by decide +kernel
theorem dX2_reduce_136 : decode cX2_reduce 136 = .ok (.lconst 1, 1) := by decide +kernel
theorem dX2_reduce_137 : decode cX2_reduce 137 = .ok (.goto 7, 3) := by decide +kernel
theorem dX2_reduce_140 : decode cX2_reduce 140 = .ok (.aload_n 0, 1) := by decide +kernel
theorem dX2_reduce_141 : decode cX2_reduce 141 = .ok (.invokevirtual 62, 3) := by decide +kernel
theorem dX2_reduce_144 : decode cX2_reduce 144 = .ok (.putfield 65, 3) := by decide +kernel
theorem dX2_reduce_147 : decode cX2_reduce 147 = .ok (.aload_n 0, 1) := by decide +kernel
theorem dX2_reduce_148 : decode cX2_reduce 148 = .ok (.lload_n 2, 1) := by decide +kernel
theorem dX2_reduce_149 : decode cX2_reduce 149 = .ok (.ldc2_w 68, 3) := by decide +kernel
theorem dX2_reduce_152 : decode cX2_reduce 152 = .ok (.lcmp, 1) := by decide +kernel
theorem dX2_reduce_153 : decode cX2_reduce 153 = .ok (.ifCond .gt 18, 3) := by decide +kernel
theorem dX2_reduce_156 : decode cX2_reduce 156 = .ok (.aload_n 0, 1) := by decide +kernel
theorem dX2_reduce_157 : decode cX2_reduce 157 = .ok (.getfield 65, 3) := by decide +kernel
theorem dX2_reduce_160 : decode cX2_reduce 160 = .ok (.ldc2_w 68, 3) := by decide +kernel
theorem dX2_reduce_163 : decode cX2_reduce 163 = .ok (.lcmp, 1) := by decide +kernel
theorem dX2_reduce_164 : decode cX2_reduce 164 = .ok (.ifCond .gt 7, 3) := by decide +kernel
theorem dX2_reduce_167 : decode cX2_reduce 167 = .ok (.iconst 1, 1) := by decide +kernel
theorem dX2_reduce_168 : decode cX2_reduce 168 = .ok (.goto 4, 3) := by decide +kernel
theorem dX2_reduce_171 : decode cX2_reduce 171 = .ok (.iconst 0, 1) := by decide +kernel
theorem dX2_reduce_172 : decode cX2_reduce 172 = .ok (.putfield 70, 3) := by decide +kernel
theorem dX2_reduce_175 : decode cX2_reduce 175 = .ok (.return_, 1) := by decide +kernel
theorem dX2_exponentOf_0 : decode cX2_exponentOf 0 = .ok (.iconst 0, 1) := by decide +kernel
theorem dX2_exponentOf_1 : decode cX2_exponentOf 1 = .ok (.istore_n 3, 1) := by decide +kernel
theorem dX2_exponentOf_2 : decode cX2_exponentOf 2 = .ok (.lload_n 1, 1) := by decide +kernel
theorem dX2_exponentOf_3 : decode cX2_exponentOf 3 = .ok (.lstore 4, 2) := by decide +kernel
theorem dX2_exponentOf_5 : decode cX2_exponentOf 5 = .ok (.lload 4, 2) := by decide +kernel
theorem dX2_exponentOf_7 : decode cX2_exponentOf 7 = .ok (.lconst 0, 1) := by decide +kernel
theorem dX2_exponentOf_8 : decode cX2_exponentOf 8 = .ok (.lcmp, 1) := by decide +kernel
theorem dX2_exponentOf_9 : decode cX2_exponentOf 9 = .ok (.ifCond .le 32, 3) := by decide +kernel
theorem dX2_exponentOf_12 : decode cX2_exponentOf 12 = .ok (.iload_n 3, 1) := by decide +kernel
theorem dX2_exponentOf_13 : decode cX2_exponentOf 13 = .ok (.bipush 64, 2) := by decide +kernel
theorem dX2_exponentOf_15 : decode cX2_exponentOf 15 = .ok (.if_icmp .ge 26, 3) := by decide +kernel
theorem dX2_exponentOf_18 : decode cX2_exponentOf 18 = .ok (.lload 4, 2) := by decide +kernel
theorem dX2_exponentOf_20 : decode cX2_exponentOf 20 = .ok (.iload_n 0, 1) := by decide +kernel
theorem dX2_exponentOf_21 : decode cX2_exponentOf 21 = .ok (.i2l, 1) := by decide +kernel
theorem dX2_exponentOf_22 : decode cX2_exponentOf 22 = .ok (.lrem, 1) := by decide +kernel
theorem dX2_exponentOf_23 : decode cX2_exponentOf 23 = .ok (.lconst 0, 1) := by decide +kernel
theorem dX2_exponentOf_24 : decode cX2_exponentOf 24 = .ok (.lcmp, 1) := by decide +kernel
theorem dX2_exponentOf_25 : decode cX2_exponentOf 25 = .ok (.ifCond .ne 16, 3) := by decide +kernel
theorem dX2_exponentOf_28 : decode cX2_exponentOf 28 = .ok (.lload 4, 2) := by decide +kernel
theorem dX2_exponentOf_30 : decode cX2_exponentOf 30 = .ok (.iload_n 0, 1) := by decide +kernel
theorem dX2_exponentOf_31 : decode cX2_exponentOf 31 = .ok (.i2l, 1) := by decide +kernel
theorem dX2_exponentOf_32 : decode cX2_exponentOf 32 = .ok (.ldiv, 1) := by decide +kernel
theorem dX2_exponentOf_33 : decode cX2_exponentOf 33 = .ok (.lstore 4, 2) := by decide +kernel
theorem dX2_exponentOf_35 : decode cX2_exponentOf 35 = .ok (.iinc 3 1, 3) := by decide +kernel
theorem dX2_exponentOf_38 : decode cX2_exponentOf 38 = .ok (.goto (-33), 3) := by decide +kernel
theorem dX2_exponentOf_41 : decode cX2_exponentOf 41 = .ok (.iload_n 3, 1) := by decide +kernel
theorem dX2_exponentOf_42 : decode cX2_exponentOf 42 = .ok (.ireturn, 1) := by decide +kernel
theorem dX2_multiplyTerm_0 : decode cX2_multiplyTerm 0 = .ok (.lconst 0, 1) := by decide +kernel
theorem dX2_multiplyTerm_1 : decode cX2_multiplyTerm 1 = .ok (.lstore_n 2, 1) := by decide +kernel
theorem dX2_multiplyTerm_2 : decode cX2_multiplyTerm 2 = .ok (.iconst 0, 1) := by decide +kernel
theorem dX2_multiplyTerm_3 : decode cX2_multiplyTerm 3 = .ok (.istore 4, 2) := by decide +kernel
theorem dX2_multiplyTerm_5 : decode cX2_multiplyTerm 5 = .ok (.iload 4, 2) := by decide +kernel
theorem dX2_multiplyTerm_7 : decode cX2_multiplyTerm 7 = .ok (.bipush 12, 2) := by decide +kernel
theorem dX2_multiplyTerm_9 : decode cX2_multiplyTerm 9 = .ok (.if_icmp .ge 39, 3) := by decide +kernel
theorem dX2_multiplyTerm_12 : decode cX2_multiplyTerm 12 = .ok (.lload_n 2, 1) := by decide +kernel
theorem dX2_multiplyTerm_13 : decode cX2_multiplyTerm 13 = .ok (.aload_n 0, 1) := by decide +kernel
theorem dX2_multiplyTerm_14 : decode cX2_multiplyTerm 14 = .ok (.getfield 17, 3) := by decide +kernel
theorem dX2_multiplyTerm_17 : decode cX2_multiplyTerm 17 = .ok (.iload 4, 2) := by decide +kernel
theorem dX2_multiplyTerm_19 : decode cX2_multiplyTerm 19 = .ok (.laload, 1) := by decide +kernel
theorem dX2_multiplyTerm_20 : decode cX2_multiplyTerm 20 = .ok (.iload_n 1, 1) := by decide +kernel
theorem dX2_multiplyTerm_21 : decode cX2_multiplyTerm 21 = .ok (.i2l, 1) := by decide +kernel
theorem dX2_multiplyTerm_22 : decode cX2_multiplyTerm 22 = .ok (.lmul, 1) := by decide +kernel
theorem dX2_multiplyTerm_23 : decode cX2_multiplyTerm 23 = .ok (.ladd, 1) := by decide +kernel
theorem dX2_multiplyTerm_24 : decode cX2_multiplyTerm 24 = .ok (.lstore_n 2, 1) := by decide +kernel
theorem dX2_multiplyTerm_25 : decode cX2_multiplyTerm 25 = .ok (.aload_n 0, 1) := by decide +kernel
theorem dX2_multiplyTerm_26 : decode cX2_multiplyTerm 26 = .ok (.getfield 17, 3) := by decide +kernel
theorem dX2_multiplyTerm_29 : decode cX2_multiplyTerm 29 = .ok (.iload 4, 2) := by decide +kernel
theorem dX2_multiplyTerm_31 : decode cX2_multiplyTerm 31 = .ok (.lload_n 2, 1) := by decide +kernel
theorem dX2_multiplyTerm_32 : decode cX2_multiplyTerm 32 = .ok (.ldc2_w 37, 3) := by decide +kernel
theorem dX2_multiplyTerm_35 : decode cX2_multiplyTerm 35 = .ok (.land, 1) := by decide +kernel
theorem dX2_multiplyTerm_36 : decode cX2_multiplyTerm 36 = .ok (.lastore, 1) := by decide +kernel
theorem dX2_multiplyTerm_37 : decode cX2_multiplyTerm 37 = .ok (.lload_n 2, 1) := by decide +kernel
theorem dX2_multiplyTerm_38 : decode cX2_multiplyTerm 38 = .ok (.bipush 30, 2) := by decide +kernel
theorem dX2_multiplyTerm_40 : decode cX2_multiplyTerm 40 = .ok (.lshr, 1) := by decide +kernel
theorem dX2_multiplyTerm_41 : decode cX2_multiplyTerm 41 = .ok (.lstore_n 2, 1) := by decide +kernel
theorem dX2_multiplyTerm_42 : decode cX2_multiplyTerm 42 = .ok (.iinc 4 1, 3) := by decide +kernel
theorem dX2_multiplyTerm_45 : decode cX2_multiplyTerm 45 = .ok (.goto (-40), 3) := by decide +kernel
theorem dX2_multiplyTerm_48 : decode cX2_multiplyTerm 48 = .ok (.return_, 1) := by decide +kernel
theorem dX2_carryOver_0 : decode cX2_carryOver 0 = .ok (.lconst 0, 1) := by decide +kernel
theorem dX2_carryOver_1 : decode cX2_carryOver 1 = .ok (.lstore_n 2, 1) := by decide +kernel
theorem dX2_carryOver_2 : decode cX2_carryOver 2 = .ok (.iconst 0, 1) := by decide +kernel
theorem dX2_carryOver_3 : decode cX2_carryOver 3 = .ok (.istore 4, 2) := by decide +kernel
theorem dX2_carryOver_5 : decode cX2_carryOver 5 = .ok (.iload 4, 2) := by decide +kernel
theorem dX2_carryOver_7 : decode cX2_carryOver 7 = .ok (.bipush 12, 2) := by decide +kernel
theorem dX2_carryOver_9 : decode cX2_carryOver 9 = .ok (.if_icmp .ge 40, 3) := by decide +kernel
theorem dX2_carryOver_12 : decode cX2_carryOver 12 = .ok (.lload_n 2, 1) := by decide +kernel
theorem dX2_carryOver_13 : decode cX2_carryOver 13 = .ok (.aload_n 0, 1) := by decide +kernel
theorem dX2_carryOver_14 : decode cX2_carryOver 14 = .ok (.getfield 13, 3) := by decide +kernel
theorem dX2_carryOver_17 : decode cX2_carryOver 17 = .ok (.iload 4, 2) := by decide +kernel
theorem dX2_carryOver_19 : decode cX2_carryOver 19 = .ok (.laload, 1) := by decide +kernel
theorem dX2_carryOver_20 : decode cX2_carryOver 20 = .ok (.ladd, 1) := by decide +kernel
theorem dX2_carryOver_21 : decode cX2_carryOver 21 = .ok (.lstore_n 2, 1) := by decide +kernel
theorem dX2_carryOver_22 : decode cX2_carryOver 22 = .ok (.iload_n 1, 1) := by decide +kernel
theorem dX2_carryOver_23 : decode cX2_carryOver 23 = .ok (.ifCond .eq 15, 3) := by decide +kernel
theorem dX2_carryOver_26 : decode cX2_carryOver 26 = .ok (.aload_n 0, 1) := by decide +kernel
theorem dX2_carryOver_27 : decode cX2_carryOver 27 = .ok (.getfield 13, 3) := by decide +kernel
theorem dX2_carryOver_30 : decode cX2_carryOver 30 = .ok (.iload 4, 2) := by decide +kernel
theorem dX2_carryOver_32 : decode cX2_carryOver 32 = .ok (.lload_n 2, 1) := by decide +kernel
theorem dX2_carryOver_33 : decode cX2_carryOver 33 = .ok (.ldc2_w 37, 3) := by decide +kernel
theorem dX2_carryOver_36 : decode cX2_carryOver 36 = .ok (.land, 1) := by decide +kernel
theorem dX2_carryOver_37 : decode cX2_carryOver 37 = .ok (.lastore, 1) := by decide +kernel
theorem dX2_carryOver_38 : decode cX2_carryOver 38 = .ok (.lload_n 2, 1) := by decide +kernel
theorem dX2_carryOver_39 : decode cX2_carryOver 39 = .ok (.bipush 30, 2) := by decide +kernel
theorem dX2_carryOver_41 : decode cX2_carryOver 41 = .ok (.lshr, 1) := by decide +kernel
theorem dX2_carryOver_42 : decode cX2_carryOver 42 = .ok (.lstore_n 2, 1) := by decide +kernel
theorem dX2_carryOver_43 : decode cX2_carryOver 43 = .ok (.iinc 4 1, 3) := by decide +kernel
theorem dX2_carryOver_46 : decode cX2_carryOver 46 = .ok (.goto (-41), 3) := by decide +kernel
theorem dX2_carryOver_49 : decode cX2_carryOver 49 = .ok (.lload_n 2, 1) := by decide +kernel
theorem dX2_carryOver_50 : decode cX2_carryOver 50 = .ok (.lreturn, 1) := by decide +kernel
theorem dX2_isDivisible_0 : decode cX2_isDivisible 0 = .ok (.lconst 0, 1) := by decide +kernel
theorem dX2_isDivisible_1 : decode cX2_isDivisible 1 = .ok (.lstore_n 2, 1) := by decide +kernel
theorem dX2_isDivisible_2 : decode cX2_isDivisible 2 = .ok (.bipush 11, 2) := by decide +kernel
theorem dX2_isDivisible_4 : decode cX2_isDivisible 4 = .ok (.istore 4, 2) := by decide +kernel
theorem dX2_isDivisible_6 : decode cX2_isDivisible 6 = .ok (.iload 4, 2) := by decide +kernel
theorem dX2_isDivisible_8 : decode cX2_isDivisible 8 = .ok (.ifCond .lt 25, 3) := by decide +kernel
theorem dX2_isDivisible_11 : decode cX2_isDivisible 11 = .ok (.lload_n 2, 1) := by decide +kernel
theorem dX2_isDivisible_12 : decode cX2_isDivisible 12 = .ok (.bipush 30, 2) := by decide +kernel
theorem dX2_isDivisible_14 : decode cX2_isDivisible 14 = .ok (.lshl, 1) := by decide +kernel
theorem dX2_isDivisible_15 : decode cX2_isDivisible 15 = .ok (.aload_n 0, 1) := by decide +kernel
theorem dX2_isDivisible_16 : decode cX2_isDivisible 16 = .ok (.getfield 13, 3) := by decide +kernel
theorem dX2_isDivisible_19 : decode cX2_isDivisible 19 = .ok (.iload 4, 2) := by decide +kernel
theorem dX2_isDivisible_21 : decode cX2_isDivisible 21 = .ok (.laload, 1) := by decide +kernel
theorem dX2_isDivisible_22 : decode cX2_isDivisible 22 = .ok (.ladd, 1) := by decide +kernel
theorem dX2_isDivisible_23 : decode cX2_isDivisible 23 = .ok (.iload_n 1, 1) := by decide +kernel
theorem dX2_isDivisible_24 : decode cX2_isDivisible 24 = .ok (.i2l, 1) := by decide +kernel
theorem dX2_isDivisible_25 : decode cX2_isDivisible 25 = .ok (.lrem, 1) := by decide +kernel
theorem dX2_isDivisible_26 : decode cX2_isDivisible 26 = .ok (.lstore_n 2, 1) := by decide +kernel
theorem dX2_isDivisible_27 : decode cX2_isDivisible 27 = .ok (.iinc 4 (-1), 3) := by decide +kernel
theorem dX2_isDivisible_30 : decode cX2_isDivisible 30 = .ok (.goto (-24), 3) := by decide +kernel
theorem dX2_isDivisible_33 : decode cX2_isDivisible 33 = .ok (.lload_n 2, 1) := by decide +kernel
theorem dX2_isDivisible_34 : decode cX2_isDivisible 34 = .ok (.lconst 0, 1) := by decide +kernel
theorem dX2_isDivisible_35 : decode cX2_isDivisible 35 = .ok (.lcmp, 1) := by decide +kernel
theorem dX2_isDivisible_36 : decode cX2_isDivisible 36 = .ok (.ifCond .ne 7, 3) := by decide +kernel
theorem dX2_isDivisible_39 : decode cX2_isDivisible 39 = .ok (.iconst 1, 1) := by decide +kernel
theorem dX2_isDivisible_40 : decode cX2_isDivisible 40 = .ok (.goto 4, 3) := by decide +kernel
theorem dX2_isDivisible_43 : decode cX2_isDivisible 43 = .ok (.iconst 0, 1) := by decide +kernel
theorem dX2_isDivisible_44 : decode cX2_isDivisible 44 = .ok (.ireturn, 1) := by decide +kernel
theorem dX2_divide_0 : decode cX2_divide 0 = .ok (.lconst 0, 1) := by decide +kernel
theorem dX2_divide_1 : decode cX2_divide 1 = .ok (.lstore_n 2, 1) := by decide +kernel
theorem dX2_divide_2 : decode cX2_divide 2 = .ok (.bipush 11, 2) := by decide +kernel
theorem dX2_divide_4 : decode cX2_divide 4 = .ok (.istore 4, 2) := by decide +kernel
theorem dX2_divide_6 : decode cX2_divide 6 = .ok (.iload 4, 2) := by decide +kernel
theorem dX2_divide_8 : decode cX2_divide 8 = .ok (.ifCond .lt 38, 3) := by decide +kernel
theorem dX2_divide_11 : decode cX2_divide 11 = .ok (.lload_n 2, 1) := by decide +kernel
theorem dX2_divide_12 : decode cX2_divide 12 = .ok (.bipush 30, 2) := by decide +kernel
theorem dX2_divide_14 : decode cX2_divide 14 = .ok (.lshl, 1) := by decide +kernel
theorem dX2_divide_15 : decode cX2_divide 15 = .ok (.aload_n 0, 1) := by decide +kernel
theorem dX2_divide_16 : decode cX2_divide 16 = .ok (.getfield 13, 3) := by decide +kernel
theorem dX2_divide_19 : decode cX2_divide 19 = .ok (.iload 4, 2) := by decide +kernel
theorem dX2_divide_21 : decode cX2_divide 21 = .ok (.laload, 1) := by decide +kernel
theorem dX2_divide_22 : decode cX2_divide 22 = .ok (.ladd, 1) := by decide +kernel
theorem dX2_divide_23 : decode cX2_divide 23 = .ok (.lstore_n 2, 1) := by decide +kernel
theorem dX2_divide_24 : decode cX2_divide 24 = .ok (.aload_n 0, 1) := by decide +kernel
theorem dX2_divide_25 : decode cX2_divide 25 = .ok (.getfield 13, 3) := by decide +kernel
theorem dX2_divide_28 : decode cX2_divide 28 = .ok (.iload 4, 2) := by decide +kernel
theorem dX2_divide_30 : decode cX2_divide 30 = .ok (.lload_n 2, 1) := by decide +kernel
theorem dX2_divide_31 : decode cX2_divide 31 = .ok (.iload_n 1, 1) := by decide +kernel
theorem dX2_divide_32 : decode cX2_divide 32 = .ok (.i2l, 1) := by decide +kernel
theorem dX2_divide_33 : decode cX2_divide 33 = .ok (.ldiv, 1) := by decide +kernel
theorem dX2_divide_34 : decode cX2_divide 34 = .ok (.lastore, 1) := by decide +kernel
theorem dX2_divide_35 : decode cX2_divide 35 = .ok (.lload_n 2, 1) := by decide +kernel
theorem dX2_divide_36 : decode cX2_divide 36 = .ok (.iload_n 1, 1) := by decide +kernel
theorem dX2_divide_37 : decode cX2_divide 37 = .ok (.i2l, 1) := by decide +kernel
theorem dX2_divide_38 : decode cX2_divide 38 = .ok (.lrem, 1) := by decide +kernel
theorem dX2_divide_39 : decode cX2_divide 39 = .ok (.lstore_n 2, 1) := by decide +kernel
theorem dX2_divide_40 : decode cX2_divide 40 = .ok (.iinc 4 (-1), 3) := by decide +kernel
theorem dX2_divide_43 : decode cX2_divide 43 = .ok (.goto (-37), 3) := by decide +kernel
theorem dX2_divide_46 : decode cX2_divide 46 = .ok (.return_, 1) := by decide +kernel
theorem dX2_numeratorSize_0 : decode cX2_numeratorSize 0 = .ok (.iconst 2, 1) := by decide +kernel
theorem dX2_numeratorSize_1 : decode cX2_numeratorSize 1 = .ok (.istore_n 1, 1) := by decide +kernel
theorem dX2_numeratorSize_2 : decode cX2_numeratorSize 2 = .ok (.iload_n 1, 1) := by decide +kernel
theorem dX2_numeratorSize_3 : decode cX2_numeratorSize 3 = .ok (.bipush 12, 2) := by decide +kernel
theorem dX2_numeratorSize_5 : decode cX2_numeratorSize 5 = .ok (.if_icmp .ge 24, 3) := by decide +kernel
theorem dX2_numeratorSize_8 : decode cX2_numeratorSize 8 = .ok (.aload_n 0, 1) := by decide +kernel
theorem dX2_numeratorSize_9 : decode cX2_numeratorSize 9 = .ok (.getfield 13, 3) := by decide +kernel
theorem dX2_numeratorSize_12 : decode cX2_numeratorSize 12 = .ok (.iload_n 1, 1) := by decide +kernel
theorem dX2_numeratorSize_13 : decode cX2_numeratorSize 13 = .ok (.laload, 1) := by decide +kernel
theorem dX2_numeratorSize_14 : decode cX2_numeratorSize 14 = .ok (.lconst 0, 1) := by decide +kernel
theorem dX2_numeratorSize_15 : decode cX2_numeratorSize 15 = .ok (.lcmp, 1) := by decide +kernel
theorem dX2_numeratorSize_16 : decode cX2_numeratorSize 16 = .ok (.ifCond .eq 7, 3) := by decide +kernel
theorem dX2_numeratorSize_19 : decode cX2_numeratorSize 19 = .ok (.ldc2_w 74, 3) := by decide +kernel
theorem dX2_numeratorSize_22 : decode cX2_numeratorSize 22 = .ok (.lreturn, 1) := by decide +kernel
theorem dX2_numeratorSize_23 : decode cX2_numeratorSize 23 = .ok (.iinc 1 1, 3) := by decide +kernel
theorem dX2_numeratorSize_26 : decode cX2_numeratorSize 26 = .ok (.goto (-24), 3) := by decide +kernel
theorem dX2_numeratorSize_29 : decode cX2_numeratorSize 29 = .ok (.aload_n 0, 1) := by decide +kernel
theorem dX2_numeratorSize_30 : decode cX2_numeratorSize 30 = .ok (.getfield 13, 3) := by decide +kernel
theorem dX2_numeratorSize_33 : decode cX2_numeratorSize 33 = .ok (.iconst 1, 1) := by decide +kernel
theorem dX2_numeratorSize_34 : decode cX2_numeratorSize 34 = .ok (.laload, 1) := by decide +kernel
theorem dX2_numeratorSize_35 : decode cX2_numeratorSize 35 = .ok (.bipush 30, 2) := by decide +kernel
theorem dX2_numeratorSize_37 : decode cX2_numeratorSize 37 = .ok (.lshl, 1) := by decide +kernel
theorem dX2_numeratorSize_38 : decode cX2_numeratorSize 38 = .ok (.aload_n 0, 1) := by decide +kernel
theorem dX2_numeratorSize_39 : decode cX2_numeratorSize 39 = .ok (.getfield 13, 3) := by decide +kernel
theorem dX2_numeratorSize_42 : decode cX2_numeratorSize 42 = .ok (.iconst 0, 1) := by decide +kernel
theorem dX2_numeratorSize_43 : decode cX2_numeratorSize 43 = .ok (.laload, 1) := by decide +kernel
theorem dX2_numeratorSize_44 : decode cX2_numeratorSize 44 = .ok (.ladd, 1) := by decide +kernel
theorem dX2_numeratorSize_45 : decode cX2_numeratorSize 45 = .ok (.lreturn, 1) := by decide +kernel
theorem dX2_denominatorSize_0 : decode cX2_denominatorSize 0 = .ok (.lconst 1, 1) := by decide +kernel
theorem dX2_denominatorSize_1 : decode cX2_denominatorSize 1 = .ok (.lstore_n 1, 1) := by decide +kernel
theorem dX2_denominatorSize_2 : decode cX2_denominatorSize 2 = .ok (.iconst 0, 1) := by decide +kernel
theorem dX2_denominatorSize_3 : decode cX2_denominatorSize 3 = .ok (.istore_n 3, 1) := by decide +kernel
theorem dX2_denominatorSize_4 : decode cX2_denominatorSize 4 = .ok (.iload_n 3, 1) := by decide +kernel
theorem dX2_denominatorSize_5 : decode cX2_denominatorSize 5 = .ok (.bipush 25, 2) := by decide +kernel
theorem dX2_denominatorSize_7 : decode cX2_denominatorSize 7 = .ok (.if_icmp .ge 57, 3) := by decide +kernel
theorem dX2_denominatorSize_10 : decode cX2_denominatorSize 10 = .ok (.iconst 0, 1) := by decide +kernel
theorem dX2_denominatorSize_11 : decode cX2_denominatorSize 11 = .ok (.istore 4, 2) := by decide +kernel
theorem dX2_denominatorSize_13 : decode cX2_denominatorSize 13 = .ok (.iload 4, 2) := by decide +kernel
theorem dX2_denominatorSize_15 : decode cX2_denominatorSize 15 = .ok (.aload_n 0, 1) := by decide +kernel
theorem dX2_denominatorSize_16 : decode cX2_denominatorSize 16 = .ok (.getfield 9, 3) := by decide +kernel
theorem dX2_denominatorSize_19 : decode cX2_denominatorSize 19 = .ok (.iload_n 3, 1) := by decide +kernel
theorem dX2_denominatorSize_20 : decode cX2_denominatorSize 20 = .ok (.iaload, 1) := by decide +kernel
theorem dX2_denominatorSize_21 : decode cX2_denominatorSize 21 = .ok (.if_icmp .ge 37, 3) := by decide +kernel
theorem dX2_denominatorSize_24 : decode cX2_denominatorSize 24 = .ok (.lload_n 1, 1) := by decide +kernel
theorem dX2_denominatorSize_25 : decode cX2_denominatorSize 25 = .ok (.ldc2_w 68, 3) := by decide +kernel
theorem dX2_denominatorSize_28 : decode cX2_denominatorSize 28 = .ok (.getstatic 20, 3) := by decide +kernel
theorem dX2_denominatorSize_31 : decode cX2_denominatorSize 31 = .ok (.iload_n 3, 1) := by decide +kernel
theorem dX2_denominatorSize_32 : decode cX2_denominatorSize 32 = .ok (.iaload, 1) := by decide +kernel
theorem dX2_denominatorSize_33 : decode cX2_denominatorSize 33 = .ok (.i2l, 1) := by decide +kernel
theorem dX2_denominatorSize_34 : decode cX2_denominatorSize 34 = .ok (.ldiv, 1) := by decide +kernel
theorem dX2_denominatorSize_35 : decode cX2_denominatorSize 35 = .ok (.lcmp, 1) := by decide +kernel
theorem dX2_denominatorSize_36 : decode cX2_denominatorSize 36 = .ok (.ifCond .le 7, 3) := by decide +kernel
theorem dX2_denominatorSize_39 : decode cX2_denominatorSize 39 = .ok (.ldc2_w 74, 3) := by decide +kernel
theorem dX2_denominatorSize_42 : decode cX2_denominatorSize 42 = .ok (.lreturn, 1) := by decide +kernel
theorem dX2_denominatorSize_43 : decode cX2_denominatorSize 43 = .ok (.lload_n 1, 1) := by decide +kernel
theorem dX2_denominatorSize_44 : decode cX2_denominatorSize 44 = .ok (.getstatic 20, 3) := by decide +kernel
theorem dX2_denominatorSize_47 : decode cX2_denominatorSize 47 = .ok (.iload_n 3, 1) := by decide +kernel
theorem dX2_denominatorSize_48 : decode cX2_denominatorSize 48 = .ok (.iaload, 1) := by decide +kernel
theorem dX2_denominatorSize_49 : decode cX2_denominatorSize 49 = .ok (.i2l, 1) := by decide +kernel
theorem dX2_denominatorSize_50 : decode cX2_denominatorSize 50 = .ok (.lmul, 1) := by decide +kernel
theorem dX2_denominatorSize_51 : decode cX2_denominatorSize 51 = .ok (.lstore_n 1, 1) := by decide +kernel
theorem dX2_denominatorSize_52 : decode cX2_denominatorSize 52 = .ok (.iinc 4 1, 3) := by decide +kernel
theorem dX2_denominatorSize_55 : decode cX2_denominatorSize 55 = .ok (.goto (-42), 3) := by decide +kernel
theorem dX2_denominatorSize_58 : decode cX2_denominatorSize 58 = .ok (.iinc 3 1, 3) := by decide +kernel
theorem dX2_denominatorSize_61 : decode cX2_denominatorSize 61 = .ok (.goto (-57), 3) := by decide +kernel
theorem dX2_denominatorSize_64 : decode cX2_denominatorSize 64 = .ok (.lload_n 1, 1) := by decide +kernel
theorem dX2_denominatorSize_65 : decode cX2_denominatorSize 65 = .ok (.lreturn, 1) := by decide +kernel

