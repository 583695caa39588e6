theorem dX5_init_0 : decode cX5_init 0 = .ok (.aload_n 0, 1) := by decide +kernel
theorem dX5_init_1 : decode cX5_init 1 = .ok (.invokespecial 3, 3) := by decide +kernel
theorem dX5_init_4 : decode cX5_init 4 = .ok (.aload_n 0, 1) := by decide +kernel
theorem dX5_init_5 : decode cX5_init 5 = .ok (.new 9, 3) := by decide +kernel
theorem dX5_init_8 : decode cX5_init 8 = .ok (.dup, 1) := by decide +kernel
theorem dX5_init_9 : decode cX5_init 9 = .ok (.invokespecial 11, 3) := by decide +kernel
theorem dX5_init_12 : decode cX5_init 12 = .ok (.putfield 12, 3) := by decide +kernel
theorem dX5_init_15 : decode cX5_init 15 = .ok (.aload_n 0, 1) := by decide +kernel
theorem dX5_init_16 : decode cX5_init 16 = .ok (.sipush 144, 3) := by decide +kernel
theorem dX5_init_19 : decode cX5_init 19 = .ok (.newarray .int, 2) := by decide +kernel
theorem dX5_init_21 : decode cX5_init 21 = .ok (.putfield 18, 3) := by decide +kernel
theorem dX5_init_24 : decode cX5_init 24 = .ok (.aload_n 0, 1) := by decide +kernel
theorem dX5_init_25 : decode cX5_init 25 = .ok (.new 22, 3) := by decide +kernel
theorem dX5_init_28 : decode cX5_init 28 = .ok (.dup, 1) := by decide +kernel
theorem dX5_init_29 : decode cX5_init 29 = .ok (.invokespecial 24, 3) := by decide +kernel
theorem dX5_init_32 : decode cX5_init 32 = .ok (.putfield 25, 3) := by decide +kernel
theorem dX5_init_35 : decode cX5_init 35 = .ok (.return_, 1) := by decide +kernel
theorem dX5_fill_0 : decode cX5_fill 0 = .ok (.aload_n 0, 1) := by decide +kernel
theorem dX5_fill_1 : decode cX5_fill 1 = .ok (.getfield 25, 3) := by decide +kernel
theorem dX5_fill_4 : decode cX5_fill 4 = .ok (.iload_n 3, 1) := by decide +kernel
theorem dX5_fill_5 : decode cX5_fill 5 = .ok (.invokevirtual 29, 3) := by decide +kernel
theorem dX5_fill_8 : decode cX5_fill 8 = .ok (.iconst 1, 1) := by decide +kernel
theorem dX5_fill_9 : decode cX5_fill 9 = .ok (.iconst 2, 1) := by decide +kernel
theorem dX5_fill_10 : decode cX5_fill 10 = .ok (.iload_n 3, 1) := by decide +kernel
theorem dX5_fill_11 : decode cX5_fill 11 = .ok (.imul, 1) := by decide +kernel
theorem dX5_fill_12 : decode cX5_fill 12 = .ok (.ishl, 1) := by decide +kernel
theorem dX5_fill_13 : decode cX5_fill 13 = .ok (.istore 4, 2) := by decide +kernel
theorem dX5_fill_15 : decode cX5_fill 15 = .ok (.iconst 0, 1) := by decide +kernel
theorem dX5_fill_16 : decode cX5_fill 16 = .ok (.istore 5, 2) := by decide +kernel
theorem dX5_fill_18 : decode cX5_fill 18 = .ok (.iload 5, 2) := by decide +kernel
theorem dX5_fill_20 : decode cX5_fill 20 = .ok (.iload 4, 2) := by decide +kernel
theorem dX5_fill_22 : decode cX5_fill 22 = .ok (.if_icmp .ge 67, 3) := by decide +kernel
theorem dX5_fill_25 : decode cX5_fill 25 = .ok (.aload_n 0, 1) := by decide +kernel
theorem dX5_fill_26 : decode cX5_fill 26 = .ok (.getfield 25, 3) := by decide +kernel
theorem dX5_fill_29 : decode cX5_fill 29 = .ok (.getfield 33, 3) := by decide +kernel
theorem dX5_fill_32 : decode cX5_fill 32 = .ok (.ifCond .ne 57, 3) := by decide +kernel
theorem dX5_fill_35 : decode cX5_fill 35 = .ok (.aload_n 0, 1) := by decide +kernel
theorem dX5_fill_36 : decode cX5_fill 36 = .ok (.getfield 12, 3) := by decide +kernel
theorem dX5_fill_39 : decode cX5_fill 39 = .ok (.aload_n 1, 1) := by decide +kernel
theorem dX5_fill_40 : decode cX5_fill 40 = .ok (.aload_n 2, 1) := by decide +kernel
theorem dX5_fill_41 : decode cX5_fill 41 = .ok (.iload_n 3, 1) := by decide +kernel
theorem dX5_fill_42 : decode cX5_fill 42 = .ok (.iload 5, 2) := by decide +kernel
theorem dX5_fill_44 : decode cX5_fill 44 = .ok (.invokevirtual 37, 3) := by decide +kernel
theorem dX5_fill_47 : decode cX5_fill 47 = .ok (.ifCond .eq 36, 3) := by decide +kernel
theorem dX5_fill_50 : decode cX5_fill 50 = .ok (.aload_n 0, 1) := by decide +kernel
theorem dX5_fill_51 : decode cX5_fill 51 = .ok (.getfield 25, 3) := by decide +kernel
theorem dX5_fill_54 : decode cX5_fill 54 = .ok (.aload_n 1, 1) := by decide +kernel
theorem dX5_fill_55 : decode cX5_fill 55 = .ok (.aload_n 0, 1) := by decide +kernel
theorem dX5_fill_56 : decode cX5_fill 56 = .ok (.getfield 12, 3) := by decide +kernel
theorem dX5_fill_59 : decode cX5_fill 59 = .ok (.iload 5, 2) := by decide +kernel
theorem dX5_fill_61 : decode cX5_fill 61 = .ok (.invokevirtual 41, 3) := by decide +kernel
theorem dX5_fill_64 : decode cX5_fill 64 = .ok (.ifCond .eq 19, 3) := by decide +kernel
theorem dX5_fill_67 : decode cX5_fill 67 = .ok (.aload_n 0, 1) := by decide +kernel
theorem dX5_fill_68 : decode cX5_fill 68 = .ok (.aload_n 1, 1) := by decide +kernel
theorem dX5_fill_69 : decode cX5_fill 69 = .ok (.aload_n 0, 1) := by decide +kernel
theorem dX5_fill_70 : decode cX5_fill 70 = .ok (.getfield 12, 3) := by decide +kernel
theorem dX5_fill_73 : decode cX5_fill 73 = .ok (.invokevirtual 45, 3) := by decide +kernel
theorem dX5_fill_76 : decode cX5_fill 76 = .ok (.iconst 0, 1) := by decide +kernel
theorem dX5_fill_77 : decode cX5_fill 77 = .ok (.lconst 0, 1) := by decide +kernel
theorem dX5_fill_78 : decode cX5_fill 78 = .ok (.iconst 1, 1) := by decide +kernel
theorem dX5_fill_79 : decode cX5_fill 79 = .ok (.iconst 0, 1) := by decide +kernel
theorem dX5_fill_80 : decode cX5_fill 80 = .ok (.invokevirtual 49, 3) := by decide +kernel
theorem dX5_fill_83 : decode cX5_fill 83 = .ok (.iinc 5 1, 3) := by decide +kernel
theorem dX5_fill_86 : decode cX5_fill 86 = .ok (.goto (-68), 3) := by decide +kernel
theorem dX5_fill_89 : decode cX5_fill 89 = .ok (.aload_n 0, 1) := by decide +kernel
theorem dX5_fill_90 : decode cX5_fill 90 = .ok (.getfield 25, 3) := by decide +kernel
theorem dX5_fill_93 : decode cX5_fill 93 = .ok (.getfield 33, 3) := by decide +kernel
theorem dX5_fill_96 : decode cX5_fill 96 = .ok (.ifCond .ne 7, 3) := by decide +kernel
theorem dX5_fill_99 : decode cX5_fill 99 = .ok (.iconst 1, 1) := by decide +kernel
theorem dX5_fill_100 : decode cX5_fill 100 = .ok (.goto 4, 3) := by decide +kernel
theorem dX5_fill_103 : decode cX5_fill 103 = .ok (.iconst 0, 1) := by decide +kernel
theorem dX5_fill_104 : decode cX5_fill 104 = .ok (.ireturn, 1) := by decide +kernel
theorem dX5_draw_0 : decode cX5_draw 0 = .ok (.iload_n 2, 1) := by decide +kernel
theorem dX5_draw_1 : decode cX5_draw 1 = .ok (.ifCond .ne 13, 3) := by decide +kernel
theorem dX5_draw_4 : decode cX5_draw 4 = .ok (.aload_n 0, 1) := by decide +kernel
theorem dX5_draw_5 : decode cX5_draw 5 = .ok (.aload_n 1, 1) := by decide +kernel
theorem dX5_draw_6 : decode cX5_draw 6 = .ok (.lload 4, 2) := by decide +kernel
theorem dX5_draw_8 : decode cX5_draw 8 = .ok (.iload 6, 2) := by decide +kernel
theorem dX5_draw_10 : decode cX5_draw 10 = .ok (.invokevirtual 53, 3) := by decide +kernel
theorem dX5_draw_13 : decode cX5_draw 13 = .ok (.return_, 1) := by decide +kernel
theorem dX5_draw_14 : decode cX5_draw 14 = .ok (.iload 7, 2) := by decide +kernel
theorem dX5_draw_16 : decode cX5_draw 16 = .ok (.bipush 6, 2) := by decide +kernel
theorem dX5_draw_18 : decode cX5_draw 18 = .ok (.if_icmp .ge 13, 3) := by decide +kernel
theorem dX5_draw_21 : decode cX5_draw 21 = .ok (.aload_n 0, 1) := by decide +kernel
theorem dX5_draw_22 : decode cX5_draw 22 = .ok (.getfield 25, 3) := by decide +kernel
theorem dX5_draw_25 : decode cX5_draw 25 = .ok (.getfield 33, 3) := by decide +kernel
theorem dX5_draw_28 : decode cX5_draw 28 = .ok (.ifCond .eq 4, 3) := by decide +kernel
theorem dX5_draw_31 : decode cX5_draw 31 = .ok (.return_, 1) := by decide +kernel
theorem dX5_draw_32 : decode cX5_draw 32 = .ok (.iload_n 2, 1) := by decide +kernel
theorem dX5_draw_33 : decode cX5_draw 33 = .ok (.invokestatic 57, 3) := by decide +kernel
theorem dX5_draw_36 : decode cX5_draw 36 = .ok (.istore 8, 2) := by decide +kernel
theorem dX5_draw_38 : decode cX5_draw 38 = .ok (.iload_n 2, 1) := by decide +kernel
theorem dX5_draw_39 : decode cX5_draw 39 = .ok (.iload_n 2, 1) := by decide +kernel
theorem dX5_draw_40 : decode cX5_draw 40 = .ok (.iconst 1, 1) := by decide +kernel
theorem dX5_draw_41 : decode cX5_draw 41 = .ok (.isub, 1) := by decide +kernel
theorem dX5_draw_42 : decode cX5_draw 42 = .ok (.iand, 1) := by decide +kernel
theorem dX5_draw_43 : decode cX5_draw 43 = .ok (.istore 9, 2) := by decide +kernel
theorem dX5_draw_45 : decode cX5_draw 45 = .ok (.iload 8, 2) := by decide +kernel
theorem dX5_draw_47 : decode cX5_draw 47 = .ok (.iconst 1, 1) := by decide +kernel
theorem dX5_draw_48 : decode cX5_draw 48 = .ok (.iadd, 1) := by decide +kernel
theorem dX5_draw_49 : decode cX5_draw 49 = .ok (.istore 10, 2) := by decide +kernel
theorem dX5_draw_51 : decode cX5_draw 51 = .ok (.iload 10, 2) := by decide +kernel
theorem dX5_draw_53 : decode cX5_draw 53 = .ok (.aload_n 0, 1) := by decide +kernel
theorem dX5_draw_54 : decode cX5_draw 54 = .ok (.getfield 12, 3) := by decide +kernel
theorem dX5_draw_57 : decode cX5_draw 57 = .ok (.getfield 63, 3) := by decide +kernel
theorem dX5_draw_60 : decode cX5_draw 60 = .ok (.if_icmp .ge 99, 3) := by decide +kernel
theorem dX5_draw_63 : decode cX5_draw 63 = .ok (.aload_n 0, 1) := by decide +kernel
theorem dX5_draw_64 : decode cX5_draw 64 = .ok (.getfield 12, 3) := by decide +kernel
theorem dX5_draw_67 : decode cX5_draw 67 = .ok (.iload 8, 2) := by decide +kernel
theorem dX5_draw_69 : decode cX5_draw 69 = .ok (.iload 10, 2) := by decide +kernel
theorem dX5_draw_71 : decode cX5_draw 71 = .ok (.iload 9, 2) := by decide +kernel
theorem dX5_draw_73 : decode cX5_draw 73 = .ok (.iload_n 3, 1) := by decide +kernel
theorem dX5_draw_74 : decode cX5_draw 74 = .ok (.invokevirtual 67, 3) := by decide +kernel
theorem dX5_draw_77 : decode cX5_draw 77 = .ok (.ifCond .eq 76, 3) := by decide +kernel
theorem dX5_draw_80 : decode cX5_draw 80 = .ok (.aload_n 0, 1) := by decide +kernel
theorem dX5_draw_81 : decode cX5_draw 81 = .ok (.aload_n 1, 1) := by decide +kernel
theorem dX5_draw_82 : decode cX5_draw 82 = .ok (.iload 9, 2) := by decide +kernel
theorem dX5_draw_84 : decode cX5_draw 84 = .ok (.iconst 1, 1) := by decide +kernel
theorem dX5_draw_85 : decode cX5_draw 85 = .ok (.iload 10, 2) := by decide +kernel
theorem dX5_draw_87 : decode cX5_draw 87 = .ok (.ishl, 1) := by decide +kernel
theorem dX5_draw_88 : decode cX5_draw 88 = .ok (.iconst (-1), 1) := by decide +kernel
theorem dX5_draw_89 : decode cX5_draw 89 = .ok (.ixor, 1) := by decide +kernel
theorem dX5_draw_90 : decode cX5_draw 90 = .ok (.iand, 1) := by decide +kernel
theorem dX5_draw_91 : decode cX5_draw 91 = .ok (.iload_n 3, 1) := by decide +kernel
theorem dX5_draw_92 : decode cX5_draw 92 = .ok (.aload_n 0, 1) := by decide +kernel
theorem dX5_draw_93 : decode cX5_draw 93 = .ok (.getfield 12, 3) := by decide +kernel
theorem dX5_draw_96 : decode cX5_draw 96 = .ok (.iload 8, 2) := by decide +kernel
theorem dX5_draw_98 : decode cX5_draw 98 = .ok (.invokevirtual 71, 3) := by decide +kernel
theorem dX5_draw_101 : decode cX5_draw 101 = .ok (.ior, 1) := by decide +kernel
theorem dX5_draw_102 : decode cX5_draw 102 = .ok (.aload_n 0, 1) := by decide +kernel
theorem dX5_draw_103 : decode cX5_draw 103 = .ok (.getfield 12, 3) := by decide +kernel
theorem dX5_draw_106 : decode cX5_draw 106 = .ok (.iload 10, 2) := by decide +kernel
theorem dX5_draw_108 : decode cX5_draw 108 = .ok (.invokevirtual 71, 3) := by decide +kernel
theorem dX5_draw_111 : decode cX5_draw 111 = .ok (.ior, 1) := by decide +kernel
theorem dX5_draw_112 : decode cX5_draw 112 = .ok (.lload 4, 2) := by decide +kernel
theorem dX5_draw_114 : decode cX5_draw 114 = .ok (.iload 8, 2) := by decide +kernel
theorem dX5_draw_116 : decode cX5_draw 116 = .ok (.iload 10, 2) := by decide +kernel
theorem dX5_draw_118 : decode cX5_draw 118 = .ok (.invokestatic 74, 3) := by decide +kernel
theorem dX5_draw_121 : decode cX5_draw 121 = .ok (.lor, 1) := by decide +kernel
theorem dX5_draw_122 : decode cX5_draw 122 = .ok (.iload 10, 2) := by decide +kernel
theorem dX5_draw_124 : decode cX5_draw 124 = .ok (.iload 8, 2) := by decide +kernel
theorem dX5_draw_126 : decode cX5_draw 126 = .ok (.invokestatic 74, 3) := by decide +kernel
theorem dX5_draw_129 : decode cX5_draw 129 = .ok (.lor, 1) := by decide +kernel
theorem dX5_draw_130 : decode cX5_draw 130 = .ok (.iload 6, 2) := by decide +kernel
theorem dX5_draw_132 : decode cX5_draw 132 = .ok (.aload_n 0, 1) := by decide +kernel
theorem dX5_draw_133 : decode cX5_draw 133 = .ok (.getfield 12, 3) := by decide +kernel
theorem dX5_draw_136 : decode cX5_draw 136 = .ok (.iload 8, 2) := by decide +kernel
theorem dX5_draw_138 : decode cX5_draw 138 = .ok (.iload 10, 2) := by decide +kernel
theorem dX5_draw_140 : decode cX5_draw 140 = .ok (.iload 9, 2) := by decide +kernel
theorem dX5_draw_142 : decode cX5_draw 142 = .ok (.invokevirtual 78, 3) := by decide +kernel
theorem dX5_draw_145 : decode cX5_draw 145 = .ok (.imul, 1) := by decide +kernel
theorem dX5_draw_146 : decode cX5_draw 146 = .ok (.iload 7, 2) := by decide +kernel
theorem dX5_draw_148 : decode cX5_draw 148 = .ok (.iconst 1, 1) := by decide +kernel
theorem dX5_draw_149 : decode cX5_draw 149 = .ok (.iadd, 1) := by decide +kernel
theorem dX5_draw_150 : decode cX5_draw 150 = .ok (.invokevirtual 49, 3) := by decide +kernel
theorem dX5_draw_153 : decode cX5_draw 153 = .ok (.iinc 10 1, 3) := by decide +kernel
theorem dX5_draw_156 : decode cX5_draw 156 = .ok (.goto (-105), 3) := by decide +kernel
theorem dX5_draw_159 : decode cX5_draw 159 = .ok (.return_, 1) := by decide +kernel
theorem dX5_keepIfLeast_0 : decode cX5_keepIfLeast 0 = .ok (.aload_n 0, 1) := by decide +kernel
theorem dX5_keepIfLeast_1 : decode cX5_keepIfLeast 1 = .ok (.lload_n 2, 1) := by decide +kernel
theorem dX5_keepIfLeast_2 : decode cX5_keepIfLeast 2 = .ok (.invokevirtual 82, 3) := by decide +kernel
theorem dX5_keepIfLeast_5 : decode cX5_keepIfLeast 5 = .ok (.istore 5, 2) := by decide +kernel
theorem dX5_keepIfLeast_7 : decode cX5_keepIfLeast 7 = .ok (.aload_n 0, 1) := by decide +kernel
theorem dX5_keepIfLeast_8 : decode cX5_keepIfLeast 8 = .ok (.getfield 12, 3) := by decide +kernel
theorem dX5_keepIfLeast_11 : decode cX5_keepIfLeast 11 = .ok (.iload 5, 2) := by decide +kernel
theorem dX5_keepIfLeast_13 : decode cX5_keepIfLeast 13 = .ok (.invokevirtual 86, 3) := by decide +kernel
theorem dX5_keepIfLeast_16 : decode cX5_keepIfLeast 16 = .ok (.ifCond .ne 4, 3) := by decide +kernel
theorem dX5_keepIfLeast_19 : decode cX5_keepIfLeast 19 = .ok (.return_, 1) := by decide +kernel
theorem dX5_keepIfLeast_20 : decode cX5_keepIfLeast 20 = .ok (.iconst 0, 1) := by decide +kernel
theorem dX5_keepIfLeast_21 : decode cX5_keepIfLeast 21 = .ok (.istore 6, 2) := by decide +kernel
theorem dX5_keepIfLeast_23 : decode cX5_keepIfLeast 23 = .ok (.iconst 1, 1) := by decide +kernel
theorem dX5_keepIfLeast_24 : decode cX5_keepIfLeast 24 = .ok (.istore 7, 2) := by decide +kernel
theorem dX5_keepIfLeast_26 : decode cX5_keepIfLeast 26 = .ok (.iconst 0, 1) := by decide +kernel
theorem dX5_keepIfLeast_27 : decode cX5_keepIfLeast 27 = .ok (.istore 8, 2) := by decide +kernel
theorem dX5_keepIfLeast_29 : decode cX5_keepIfLeast 29 = .ok (.iload 8, 2) := by decide +kernel
theorem dX5_keepIfLeast_31 : decode cX5_keepIfLeast 31 = .ok (.bipush 6, 2) := by decide +kernel
theorem dX5_keepIfLeast_33 : decode cX5_keepIfLeast 33 = .ok (.if_icmp .ge 61, 3) := by decide +kernel
theorem dX5_keepIfLeast_36 : decode cX5_keepIfLeast 36 = .ok (.aload_n 0, 1) := by decide +kernel
theorem dX5_keepIfLeast_37 : decode cX5_keepIfLeast 37 = .ok (.getfield 12, 3) := by decide +kernel
theorem dX5_keepIfLeast_40 : decode cX5_keepIfLeast 40 = .ok (.iload 8, 2) := by decide +kernel
theorem dX5_keepIfLeast_42 : decode cX5_keepIfLeast 42 = .ok (.invokevirtual 90, 3) := by decide +kernel
theorem dX5_keepIfLeast_45 : decode cX5_keepIfLeast 45 = .ok (.ifCond .eq 43, 3) := by decide +kernel
theorem dX5_keepIfLeast_48 : decode cX5_keepIfLeast 48 = .ok (.aload_n 0, 1) := by decide +kernel
theorem dX5_keepIfLeast_49 : decode cX5_keepIfLeast 49 = .ok (.lload_n 2, 1) := by decide +kernel
theorem dX5_keepIfLeast_50 : decode cX5_keepIfLeast 50 = .ok (.iload 8, 2) := by decide +kernel
theorem dX5_keepIfLeast_52 : decode cX5_keepIfLeast 52 = .ok (.invokevirtual 93, 3) := by decide +kernel
theorem dX5_keepIfLeast_55 : decode cX5_keepIfLeast 55 = .ok (.istore 7, 2) := by decide +kernel
theorem dX5_keepIfLeast_57 : decode cX5_keepIfLeast 57 = .ok (.aload_n 0, 1) := by decide +kernel
theorem dX5_keepIfLeast_58 : decode cX5_keepIfLeast 58 = .ok (.invokevirtual 97, 3) := by decide +kernel
theorem dX5_keepIfLeast_61 : decode cX5_keepIfLeast 61 = .ok (.lstore 9, 2) := by decide +kernel
theorem dX5_keepIfLeast_63 : decode cX5_keepIfLeast 63 = .ok (.lload 9, 2) := by decide +kernel
theorem dX5_keepIfLeast_65 : decode cX5_keepIfLeast 65 = .ok (.lload_n 2, 1) := by decide +kernel
theorem dX5_keepIfLeast_66 : decode cX5_keepIfLeast 66 = .ok (.lcmp, 1) := by decide +kernel
theorem dX5_keepIfLeast_67 : decode cX5_keepIfLeast 67 = .ok (.ifCond .ge 4, 3) := by decide +kernel
theorem dX5_keepIfLeast_70 : decode cX5_keepIfLeast 70 = .ok (.return_, 1) := by decide +kernel
theorem dX5_keepIfLeast_71 : decode cX5_keepIfLeast 71 = .ok (.iload 6, 2) := by decide +kernel
theorem dX5_keepIfLeast_73 : decode cX5_keepIfLeast 73 = .ok (.lload 9, 2) := by decide +kernel
theorem dX5_keepIfLeast_75 : decode cX5_keepIfLeast 75 = .ok (.lload_n 2, 1) := by decide +kernel
theorem dX5_keepIfLeast_76 : decode cX5_keepIfLeast 76 = .ok (.lcmp, 1) := by decide +kernel
theorem dX5_keepIfLeast_77 : decode cX5_keepIfLeast 77 = .ok (.ifCond .ne 7, 3) := by decide +kernel
theorem dX5_keepIfLeast_80 : decode cX5_keepIfLeast 80 = .ok (.iconst 1, 1) := by decide +kernel
theorem dX5_keepIfLeast_81 : decode cX5_keepIfLeast 81 = .ok (.goto 4, 3) := by decide +kernel
theorem dX5_keepIfLeast_84 : decode cX5_keepIfLeast 84 = .ok (.iconst 0, 1) := by decide +kernel
theorem dX5_keepIfLeast_85 : decode cX5_keepIfLeast 85 = .ok (.iadd, 1) := by decide +kernel
theorem dX5_keepIfLeast_86 : decode cX5_keepIfLeast 86 = .ok (.istore 6, 2) := by decide +kernel
theorem dX5_keepIfLeast_88 : decode cX5_keepIfLeast 88 = .ok (.iinc 8 1, 3) := by decide +kernel
theorem dX5_keepIfLeast_91 : decode cX5_keepIfLeast 91 = .ok (.goto (-62), 3) := by decide +kernel
theorem dX5_keepIfLeast_94 : decode cX5_keepIfLeast 94 = .ok (.aload_n 0, 1) := by decide +kernel
theorem dX5_keepIfLeast_95 : decode cX5_keepIfLeast 95 = .ok (.getfield 25, 3) := by decide +kernel
theorem dX5_keepIfLeast_98 : decode cX5_keepIfLeast 98 = .ok (.lload_n 2, 1) := by decide +kernel
theorem dX5_keepIfLeast_99 : decode cX5_keepIfLeast 99 = .ok (.iload 6, 2) := by decide +kernel
theorem dX5_keepIfLeast_101 : decode cX5_keepIfLeast 101 = .ok (.iload 7, 2) := by decide +kernel
theorem dX5_keepIfLeast_103 : decode cX5_keepIfLeast 103 = .ok (.imul, 1) := by decide +kernel
theorem dX5_keepIfLeast_104 : decode cX5_keepIfLeast 104 = .ok (.iload 4, 2) := by decide +kernel
theorem dX5_keepIfLeast_106 : decode cX5_keepIfLeast 106 = .ok (.invokevirtual 101, 3) := by decide +kernel
theorem dX5_keepIfLeast_109 : decode cX5_keepIfLeast 109 = .ok (.aload_n 0, 1) := by decide +kernel
theorem dX5_keepIfLeast_110 : decode cX5_keepIfLeast 110 = .ok (.getfield 25, 3) := by decide +kernel
theorem dX5_keepIfLeast_113 : decode cX5_keepIfLeast 113 = .ok (.getfield 33, 3) := by decide +kernel
theorem dX5_keepIfLeast_116 : decode cX5_keepIfLeast 116 = .ok (.ifCond .ne 23, 3) := by decide +kernel
theorem dX5_keepIfLeast_119 : decode cX5_keepIfLeast 119 = .ok (.aload_n 0, 1) := by decide +kernel
theorem dX5_keepIfLeast_120 : decode cX5_keepIfLeast 120 = .ok (.getfield 25, 3) := by decide +kernel
theorem dX5_keepIfLeast_123 : decode cX5_keepIfLeast 123 = .ok (.aload_n 0, 1) := by decide +kernel
theorem dX5_keepIfLeast_124 : decode cX5_keepIfLeast 124 = .ok (.aload_n 1, 1) := by decide +kernel
theorem dX5_keepIfLeast_125 : decode cX5_keepIfLeast 125 = .ok (.lload_n 2, 1) := by decide +kernel
theorem dX5_keepIfLeast_126 : decode cX5_keepIfLeast 126 = .ok (.invokevirtual 105, 3) := by decide +kernel
theorem dX5_keepIfLeast_129 : decode cX5_keepIfLeast 129 = .ok (.invokevirtual 109, 3) := by decide +kernel
theorem dX5_keepIfLeast_132 : decode cX5_keepIfLeast 132 = .ok (.aload_n 0, 1) := by decide +kernel
theorem dX5_keepIfLeast_133 : decode cX5_keepIfLeast 133 = .ok (.lload_n 2, 1) := by decide +kernel
theorem dX5_keepIfLeast_134 : decode cX5_keepIfLeast 134 = .ok (.iload 5, 2) := by decide +kernel
theorem dX5_keepIfLeast_136 : decode cX5_keepIfLeast 136 = .ok (.invokevirtual 112, 3) := by decide +kernel
theorem dX5_keepIfLeast_139 : decode cX5_keepIfLeast 139 = .ok (.return_, 1) := by decide +kernel
theorem dX5_tally_0 : decode cX5_tally 0 = .ok (.iconst 1, 1) := by decide +kernel
theorem dX5_tally_1 : decode cX5_tally 1 = .ok (.istore 4, 2) := by decide +kernel
theorem dX5_tally_3 : decode cX5_tally 3 = .ok (.iconst 0, 1) := by decide +kernel
theorem dX5_tally_4 : decode cX5_tally 4 = .ok (.istore 5, 2) := by decide +kernel
theorem dX5_tally_6 : decode cX5_tally 6 = .ok (.iload 5, 2) := by decide +kernel
theorem dX5_tally_8 : decode cX5_tally 8 = .ok (.aload_n 0, 1) := by decide +kernel
theorem dX5_tally_9 : decode cX5_tally 9 = .ok (.getfield 12, 3) := by decide +kernel
theorem dX5_tally_12 : decode cX5_tally 12 = .ok (.getfield 63, 3) := by decide +kernel
theorem dX5_tally_15 : decode cX5_tally 15 = .ok (.if_icmp .ge 132, 3) := by decide +kernel
theorem dX5_tally_18 : decode cX5_tally 18 = .ok (.lload_n 1, 1) := by decide +kernel
theorem dX5_tally_19 : decode cX5_tally 19 = .ok (.iload 5, 2) := by decide +kernel
theorem dX5_tally_21 : decode cX5_tally 21 = .ok (.invokestatic 116, 3) := by decide +kernel
theorem dX5_tally_24 : decode cX5_tally 24 = .ok (.istore 6, 2) := by decide +kernel
theorem dX5_tally_26 : decode cX5_tally 26 = .ok (.iload 6, 2) := by decide +kernel
theorem dX5_tally_28 : decode cX5_tally 28 = .ok (.iload 5, 2) := by decide +kernel
theorem dX5_tally_30 : decode cX5_tally 30 = .ok (.if_icmp .le 111, 3) := by decide +kernel
theorem dX5_tally_33 : decode cX5_tally 33 = .ok (.aload_n 0, 1) := by decide +kernel
theorem dX5_tally_34 : decode cX5_tally 34 = .ok (.getfield 12, 3) := by decide +kernel
theorem dX5_tally_37 : decode cX5_tally 37 = .ok (.aload_n 0, 1) := by decide +kernel
theorem dX5_tally_38 : decode cX5_tally 38 = .ok (.getfield 12, 3) := by decide +kernel
theorem dX5_tally_41 : decode cX5_tally 41 = .ok (.getfield 119, 3) := by decide +kernel
theorem dX5_tally_44 : decode cX5_tally 44 = .ok (.iload 5, 2) := by decide +kernel
theorem dX5_tally_46 : decode cX5_tally 46 = .ok (.iaload, 1) := by decide +kernel
theorem dX5_tally_47 : decode cX5_tally 47 = .ok (.iload_n 3, 1) := by decide +kernel
theorem dX5_tally_48 : decode cX5_tally 48 = .ok (.invokevirtual 122, 3) := by decide +kernel
theorem dX5_tally_51 : decode cX5_tally 51 = .ok (.istore 7, 2) := by decide +kernel
theorem dX5_tally_53 : decode cX5_tally 53 = .ok (.aload_n 0, 1) := by decide +kernel
theorem dX5_tally_54 : decode cX5_tally 54 = .ok (.getfield 12, 3) := by decide +kernel
theorem dX5_tally_57 : decode cX5_tally 57 = .ok (.aload_n 0, 1) := by decide +kernel
theorem dX5_tally_58 : decode cX5_tally 58 = .ok (.getfield 12, 3) := by decide +kernel
theorem dX5_tally_61 : decode cX5_tally 61 = .ok (.getfield 119, 3) := by decide +kernel
theorem dX5_tally_64 : decode cX5_tally 64 = .ok (.iload 6, 2) := by decide +kernel
theorem dX5_tally_66 : decode cX5_tally 66 = .ok (.iaload, 1) := by decide +kernel
theorem dX5_tally_67 : decode cX5_tally 67 = .ok (.iload_n 3, 1) := by decide +kernel
theorem dX5_tally_68 : decode cX5_tally 68 = .ok (.invokevirtual 122, 3) := by decide +kernel
theorem dX5_tally_71 : decode cX5_tally 71 = .ok (.istore 8, 2) := by decide +kernel
theorem dX5_tally_73 : decode cX5_tally 73 = .ok (.aload_n 0, 1) := by decide +kernel
theorem dX5_tally_74 : decode cX5_tally 74 = .ok (.getfield 18, 3) := by decide +kernel
theorem dX5_tally_77 : decode cX5_tally 77 = .ok (.iload 7, 2) := by decide +kernel
theorem dX5_tally_79 : decode cX5_tally 79 = .ok (.bipush 12, 2) := by decide +kernel
theorem dX5_tally_81 : decode cX5_tally 81 = .ok (.imul, 1) := by decide +kernel
theorem dX5_tally_82 : decode cX5_tally 82 = .ok (.iload 8, 2) := by decide +kernel
theorem dX5_tally_84 : decode cX5_tally 84 = .ok (.iadd, 1) := by decide +kernel
theorem dX5_tally_85 : decode cX5_tally 85 = .ok (.dup2, 1) := by decide +kernel
theorem dX5_tally_86 : decode cX5_tally 86 = .ok (.iaload, 1) := by decide +kernel
theorem dX5_tally_87 : decode cX5_tally 87 = .ok (.iconst 1, 1) := by decide +kernel
theorem dX5_tally_88 : decode cX5_tally 88 = .ok (.iadd, 1) := by decide +kernel
theorem dX5_tally_89 : decode cX5_tally 89 = .ok (.iastore, 1) := by decide +kernel
theorem dX5_tally_90 : decode cX5_tally 90 = .ok (.iload 4, 2) := by decide +kernel
theorem dX5_tally_92 : decode cX5_tally 92 = .ok (.aload_n 0, 1) := by decide +kernel
theorem dX5_tally_93 : decode cX5_tally 93 = .ok (.getfield 18, 3) := by decide +kernel
theorem dX5_tally_96 : decode cX5_tally 96 = .ok (.iload 7, 2) := by decide +kernel
theorem dX5_tally_98 : decode cX5_tally 98 = .ok (.bipush 12, 2) := by decide +kernel
theorem dX5_tally_100 : decode cX5_tally 100 = .ok (.imul, 1) := by decide +kernel
theorem dX5_tally_101 : decode cX5_tally 101 = .ok (.iload 8, 2) := by decide +kernel
theorem dX5_tally_103 : decode cX5_tally 103 = .ok (.iadd, 1) := by decide +kernel
theorem dX5_tally_104 : decode cX5_tally 104 = .ok (.iaload, 1) := by decide +kernel
theorem dX5_tally_105 : decode cX5_tally 105 = .ok (.imul, 1) := by decide +kernel
theorem dX5_tally_106 : decode cX5_tally 106 = .ok (.istore 4, 2) := by decide +kernel
theorem dX5_tally_108 : decode cX5_tally 108 = .ok (.iload 7, 2) := by decide +kernel
theorem dX5_tally_110 : decode cX5_tally 110 = .ok (.iload 8, 2) := by decide +kernel
theorem dX5_tally_112 : decode cX5_tally 112 = .ok (.if_icmp .ne 12, 3) := by decide +kernel
theorem dX5_tally_115 : decode cX5_tally 115 = .ok (.iload 4, 2) := by decide +kernel
theorem dX5_tally_117 : decode cX5_tally 117 = .ok (.iconst 2, 1) := by decide +kernel
theorem dX5_tally_118 : decode cX5_tally 118 = .ok (.imul, 1) := by decide +kernel
theorem dX5_tally_119 : decode cX5_tally 119 = .ok (.istore 4, 2) := by decide +kernel
theorem dX5_tally_121 : decode cX5_tally 121 = .ok (.goto 20, 3) := by decide +kernel
theorem dX5_tally_124 : decode cX5_tally 124 = .ok (.aload_n 0, 1) := by decide +kernel
theorem dX5_tally_125 : decode cX5_tally 125 = .ok (.getfield 18, 3) := by decide +kernel
theorem dX5_tally_128 : decode cX5_tally 128 = .ok (.iload 8, 2) := by decide +kernel
theorem dX5_tally_130 : decode cX5_tally 130 = .ok (.bipush 12, 2) := by decide +kernel
theorem dX5_tally_132 : decode cX5_tally 132 = .ok (.imul, 1) := by decide +kernel
theorem dX5_tally_133 : decode cX5_tally 133 = .ok (.iload 7, 2) := by decide +kernel
theorem dX5_tally_135 : decode cX5_tally 135 = .ok (.iadd, 1) := by decide +kernel
theorem dX5_tally_136 : decode cX5_tally 136 = .ok (.dup2, 1) := by decide +kernel
theorem dX5_tally_137 : decode cX5_tally 137 = .ok (.iaload, 1) := by decide +kernel
theorem dX5_tally_138 : decode cX5_tally 138 = .ok (.iconst 1, 1) := by decide +kernel
theorem dX5_tally_139 : decode cX5_tally 139 = .ok (.iadd, 1) := by decide +kernel
theorem dX5_tally_140 : decode cX5_tally 140 = .ok (.iastore, 1) := by decide +kernel
theorem dX5_tally_141 : decode cX5_tally 141 = .ok (.iinc 5 1, 3) := by decide +kernel
theorem dX5_tally_144 : decode cX5_tally 144 = .ok (.goto (-138), 3) := by decide +kernel
theorem dX5_tally_147 : decode cX5_tally 147 = .ok (.iload 4, 2) := by decide +kernel
theorem dX5_tally_149 : decode cX5_tally 149 = .ok (.ireturn, 1) := by decide +kernel
theorem dX5_leastTallied_0 : decode cX5_leastTallied 0 = .ok (.aload_n 0, 1) := by decide +kernel
theorem dX5_leastTallied_1 : decode cX5_leastTallied 1 = .ok (.getfield 12, 3) := by decide +kernel
theorem dX5_leastTallied_4 : decode cX5_leastTallied 4 = .ok (.invokevirtual 45, 3) := by decide +kernel
theorem dX5_leastTallied_7 : decode cX5_leastTallied 7 = .ok (.istore_n 1, 1) := by decide +kernel
theorem dX5_leastTallied_8 : decode cX5_leastTallied 8 = .ok (.lconst 0, 1) := by decide +kernel
theorem dX5_leastTallied_9 : decode cX5_leastTallied 9 = .ok (.lstore_n 2, 1) := by decide +kernel
theorem dX5_leastTallied_10 : decode cX5_leastTallied 10 = .ok (.iconst 0, 1) := by decide +kernel
theorem dX5_leastTallied_11 : decode cX5_leastTallied 11 = .ok (.istore 4, 2) := by decide +kernel
theorem dX5_leastTallied_13 : decode cX5_leastTallied 13 = .ok (.iload 4, 2) := by decide +kernel
theorem dX5_leastTallied_15 : decode cX5_leastTallied 15 = .ok (.aload_n 0, 1) := by decide +kernel
theorem dX5_leastTallied_16 : decode cX5_leastTallied 16 = .ok (.getfield 12, 3) := by decide +kernel
theorem dX5_leastTallied_19 : decode cX5_leastTallied 19 = .ok (.getfield 63, 3) := by decide +kernel
theorem dX5_leastTallied_22 : decode cX5_leastTallied 22 = .ok (.if_icmp .ge 134, 3) := by decide +kernel
theorem dX5_leastTallied_25 : decode cX5_leastTallied 25 = .ok (.iload_n 1, 1) := by decide +kernel
theorem dX5_leastTallied_26 : decode cX5_leastTallied 26 = .ok (.iload 4, 2) := by decide +kernel
theorem dX5_leastTallied_28 : decode cX5_leastTallied 28 = .ok (.ishr, 1) := by decide +kernel
theorem dX5_leastTallied_29 : decode cX5_leastTallied 29 = .ok (.iconst 1, 1) := by decide +kernel
theorem dX5_leastTallied_30 : decode cX5_leastTallied 30 = .ok (.iand, 1) := by decide +kernel
theorem dX5_leastTallied_31 : decode cX5_leastTallied 31 = .ok (.ifCond .eq 13, 3) := by decide +kernel
theorem dX5_leastTallied_34 : decode cX5_leastTallied 34 = .ok (.aload_n 0, 1) := by decide +kernel
theorem dX5_leastTallied_35 : decode cX5_leastTallied 35 = .ok (.iload 4, 2) := by decide +kernel
theorem dX5_leastTallied_37 : decode cX5_leastTallied 37 = .ok (.iload_n 1, 1) := by decide +kernel
theorem dX5_leastTallied_38 : decode cX5_leastTallied 38 = .ok (.invokevirtual 126, 3) := by decide +kernel
theorem dX5_leastTallied_41 : decode cX5_leastTallied 41 = .ok (.goto 4, 3) := by decide +kernel
theorem dX5_leastTallied_44 : decode cX5_leastTallied 44 = .ok (.iconst (-1), 1) := by decide +kernel
theorem dX5_leastTallied_45 : decode cX5_leastTallied 45 = .ok (.istore 5, 2) := by decide +kernel
theorem dX5_leastTallied_47 : decode cX5_leastTallied 47 = .ok (.iload 5, 2) := by decide +kernel
theorem dX5_leastTallied_49 : decode cX5_leastTallied 49 = .ok (.iconst (-1), 1) := by decide +kernel
theorem dX5_leastTallied_50 : decode cX5_leastTallied 50 = .ok (.if_icmp .eq 100, 3) := by decide +kernel
theorem dX5_leastTallied_53 : decode cX5_leastTallied 53 = .ok (.aload_n 0, 1) := by decide +kernel
theorem dX5_leastTallied_54 : decode cX5_leastTallied 54 = .ok (.getfield 12, 3) := by decide +kernel
theorem dX5_leastTallied_57 : decode cX5_leastTallied 57 = .ok (.getfield 119, 3) := by decide +kernel
theorem dX5_leastTallied_60 : decode cX5_leastTallied 60 = .ok (.iload 4, 2) := by decide +kernel
theorem dX5_leastTallied_62 : decode cX5_leastTallied 62 = .ok (.iaload, 1) := by decide +kernel
theorem dX5_leastTallied_63 : decode cX5_leastTallied 63 = .ok (.istore 6, 2) := by decide +kernel
theorem dX5_leastTallied_65 : decode cX5_leastTallied 65 = .ok (.aload_n 0, 1) := by decide +kernel
theorem dX5_leastTallied_66 : decode cX5_leastTallied 66 = .ok (.getfield 12, 3) := by decide +kernel
theorem dX5_leastTallied_69 : decode cX5_leastTallied 69 = .ok (.getfield 119, 3) := by decide +kernel
theorem dX5_leastTallied_72 : decode cX5_leastTallied 72 = .ok (.iload 5, 2) := by decide +kernel
theorem dX5_leastTallied_74 : decode cX5_leastTallied 74 = .ok (.iaload, 1) := by decide +kernel
theorem dX5_leastTallied_75 : decode cX5_leastTallied 75 = .ok (.istore 7, 2) := by decide +kernel
theorem dX5_leastTallied_77 : decode cX5_leastTallied 77 = .ok (.aload_n 0, 1) := by decide +kernel
theorem dX5_leastTallied_78 : decode cX5_leastTallied 78 = .ok (.getfield 18, 3) := by decide +kernel
theorem dX5_leastTallied_81 : decode cX5_leastTallied 81 = .ok (.iload 6, 2) := by decide +kernel
theorem dX5_leastTallied_83 : decode cX5_leastTallied 83 = .ok (.bipush 12, 2) := by decide +kernel
theorem dX5_leastTallied_85 : decode cX5_leastTallied 85 = .ok (.imul, 1) := by decide +kernel
theorem dX5_leastTallied_86 : decode cX5_leastTallied 86 = .ok (.iload 7, 2) := by decide +kernel
theorem dX5_leastTallied_88 : decode cX5_leastTallied 88 = .ok (.iadd, 1) := by decide +kernel
theorem dX5_leastTallied_89 : decode cX5_leastTallied 89 = .ok (.dup2, 1) := by decide +kernel
theorem dX5_leastTallied_90 : decode cX5_leastTallied 90 = .ok (.iaload, 1) := by decide +kernel
theorem dX5_leastTallied_91 : decode cX5_leastTallied 91 = .ok (.iconst 1, 1) := by decide +kernel
theorem dX5_leastTallied_92 : decode cX5_leastTallied 92 = .ok (.isub, 1) := by decide +kernel
theorem dX5_leastTallied_93 : decode cX5_leastTallied 93 = .ok (.iastore, 1) := by decide +kernel
theorem dX5_leastTallied_94 : decode cX5_leastTallied 94 = .ok (.iload 6, 2) := by decide +kernel
theorem dX5_leastTallied_96 : decode cX5_leastTallied 96 = .ok (.iload 7, 2) := by decide +kernel
theorem dX5_leastTallied_98 : decode cX5_leastTallied 98 = .ok (.if_icmp .eq 20, 3) := by decide +kernel
theorem dX5_leastTallied_101 : decode cX5_leastTallied 101 = .ok (.aload_n 0, 1) := by decide +kernel
theorem dX5_leastTallied_102 : decode cX5_leastTallied 102 = .ok (.getfield 18, 3) := by decide +kernel
theorem dX5_leastTallied_105 : decode cX5_leastTallied 105 = .ok (.iload 7, 2) := by decide +kernel
theorem dX5_leastTallied_107 : decode cX5_leastTallied 107 = .ok (.bipush 12, 2) := by decide +kernel
theorem dX5_leastTallied_109 : decode cX5_leastTallied 109 = .ok (.imul, 1) := by decide +kernel
theorem dX5_leastTallied_110 : decode cX5_leastTallied 110 = .ok (.iload 6, 2) := by decide +kernel
theorem dX5_leastTallied_112 : decode cX5_leastTallied 112 = .ok (.iadd, 1) := by decide +kernel
theorem dX5_leastTallied_113 : decode cX5_leastTallied 113 = .ok (.dup2, 1) := by decide +kernel
theorem dX5_leastTallied_114 : decode cX5_leastTallied 114 = .ok (.iaload, 1) := by decide +kernel
theorem dX5_leastTallied_115 : decode cX5_leastTallied 115 = .ok (.iconst 1, 1) := by decide +kernel
theorem dX5_leastTallied_116 : decode cX5_leastTallied 116 = .ok (.isub, 1) := by decide +kernel
theorem dX5_leastTallied_117 : decode cX5_leastTallied 117 = .ok (.iastore, 1) := by decide +kernel
theorem dX5_leastTallied_118 : decode cX5_leastTallied 118 = .ok (.iload_n 1, 1) := by decide +kernel
theorem dX5_leastTallied_119 : decode cX5_leastTallied 119 = .ok (.iconst 1, 1) := by decide +kernel
theorem dX5_leastTallied_120 : decode cX5_leastTallied 120 = .ok (.iload 4, 2) := by decide +kernel
theorem dX5_leastTallied_122 : decode cX5_leastTallied 122 = .ok (.ishl, 1) := by decide +kernel
theorem dX5_leastTallied_123 : decode cX5_leastTallied 123 = .ok (.iconst 1, 1) := by decide +kernel
theorem dX5_leastTallied_124 : decode cX5_leastTallied 124 = .ok (.iload 5, 2) := by decide +kernel
theorem dX5_leastTallied_126 : decode cX5_leastTallied 126 = .ok (.ishl, 1) := by decide +kernel
theorem dX5_leastTallied_127 : decode cX5_leastTallied 127 = .ok (.ior, 1) := by decide +kernel
theorem dX5_leastTallied_128 : decode cX5_leastTallied 128 = .ok (.iconst (-1), 1) := by decide +kernel
theorem dX5_leastTallied_129 : decode cX5_leastTallied 129 = .ok (.ixor, 1) := by decide +kernel
theorem dX5_leastTallied_130 : decode cX5_leastTallied 130 = .ok (.iand, 1) := by decide +kernel
theorem dX5_leastTallied_131 : decode cX5_leastTallied 131 = .ok (.istore_n 1, 1) := by decide +kernel
theorem dX5_leastTallied_132 : decode cX5_leastTallied 132 = .ok (.lload_n 2, 1) := by decide +kernel
theorem dX5_leastTallied_133 : decode cX5_leastTallied 133 = .ok (.iload 4, 2) := by decide +kernel
theorem dX5_leastTallied_135 : decode cX5_leastTallied 135 = .ok (.iload 5, 2) := by decide +kernel
theorem dX5_leastTallied_137 : decode cX5_leastTallied 137 = .ok (.invokestatic 74, 3) := by decide +kernel
theorem dX5_leastTallied_140 : decode cX5_leastTallied 140 = .ok (.iload 5, 2) := by decide +kernel
theorem dX5_leastTallied_142 : decode cX5_leastTallied 142 = .ok (.iload 4, 2) := by decide +kernel
theorem dX5_leastTallied_144 : decode cX5_leastTallied 144 = .ok (.invokestatic 74, 3) := by decide +kernel
theorem dX5_leastTallied_147 : decode cX5_leastTallied 147 = .ok (.lor, 1) := by decide +kernel
theorem dX5_leastTallied_148 : decode cX5_leastTallied 148 = .ok (.lor, 1) := by decide +kernel
theorem dX5_leastTallied_149 : decode cX5_leastTallied 149 = .ok (.lstore_n 2, 1) := by decide +kernel
theorem dX5_leastTallied_150 : decode cX5_leastTallied 150 = .ok (.iinc 4 1, 3) := by decide +kernel
theorem dX5_leastTallied_153 : decode cX5_leastTallied 153 = .ok (.goto (-140), 3) := by decide +kernel
theorem dX5_leastTallied_156 : decode cX5_leastTallied 156 = .ok (.lload_n 2, 1) := by decide +kernel
theorem dX5_leastTallied_157 : decode cX5_leastTallied 157 = .ok (.lreturn, 1) := by decide +kernel
theorem dX5_firstTallied_0 : decode cX5_firstTallied 0 = .ok (.iload_n 1, 1) := by decide +kernel
theorem dX5_firstTallied_1 : decode cX5_firstTallied 1 = .ok (.iconst 1, 1) := by decide +kernel
theorem dX5_firstTallied_2 : decode cX5_firstTallied 2 = .ok (.iadd, 1) := by decide +kernel
theorem dX5_firstTallied_3 : decode cX5_firstTallied 3 = .ok (.istore_n 3, 1) := by decide +kernel
theorem dX5_firstTallied_4 : decode cX5_firstTallied 4 = .ok (.iload_n 3, 1) := by decide +kernel
theorem dX5_firstTallied_5 : decode cX5_firstTallied 5 = .ok (.aload_n 0, 1) := by decide +kernel
theorem dX5_firstTallied_6 : decode cX5_firstTallied 6 = .ok (.getfield 12, 3) := by decide +kernel
theorem dX5_firstTallied_9 : decode cX5_firstTallied 9 = .ok (.getfield 63, 3) := by decide +kernel
theorem dX5_firstTallied_12 : decode cX5_firstTallied 12 = .ok (.if_icmp .ge 49, 3) := by decide +kernel
theorem dX5_firstTallied_15 : decode cX5_firstTallied 15 = .ok (.iload_n 2, 1) := by decide +kernel
theorem dX5_firstTallied_16 : decode cX5_firstTallied 16 = .ok (.iload_n 3, 1) := by decide +kernel
theorem dX5_firstTallied_17 : decode cX5_firstTallied 17 = .ok (.ishr, 1) := by decide +kernel
theorem dX5_firstTallied_18 : decode cX5_firstTallied 18 = .ok (.iconst 1, 1) := by decide +kernel
theorem dX5_firstTallied_19 : decode cX5_firstTallied 19 = .ok (.iand, 1) := by decide +kernel
theorem dX5_firstTallied_20 : decode cX5_firstTallied 20 = .ok (.ifCond .eq 35, 3) := by decide +kernel
theorem dX5_firstTallied_23 : decode cX5_firstTallied 23 = .ok (.aload_n 0, 1) := by decide +kernel
theorem dX5_firstTallied_24 : decode cX5_firstTallied 24 = .ok (.getfield 18, 3) := by decide +kernel
theorem dX5_firstTallied_27 : decode cX5_firstTallied 27 = .ok (.aload_n 0, 1) := by decide +kernel
theorem dX5_firstTallied_28 : decode cX5_firstTallied 28 = .ok (.getfield 12, 3) := by decide +kernel
theorem dX5_firstTallied_31 : decode cX5_firstTallied 31 = .ok (.getfield 119, 3) := by decide +kernel
theorem dX5_firstTallied_34 : decode cX5_firstTallied 34 = .ok (.iload_n 1, 1) := by decide +kernel
theorem dX5_firstTallied_35 : decode cX5_firstTallied 35 = .ok (.iaload, 1) := by decide +kernel
theorem dX5_firstTallied_36 : decode cX5_firstTallied 36 = .ok (.bipush 12, 2) := by decide +kernel
theorem dX5_firstTallied_38 : decode cX5_firstTallied 38 = .ok (.imul, 1) := by decide +kernel
theorem dX5_firstTallied_39 : decode cX5_firstTallied 39 = .ok (.aload_n 0, 1) := by decide +kernel
theorem dX5_firstTallied_40 : decode cX5_firstTallied 40 = .ok (.getfield 12, 3) := by decide +kernel
theorem dX5_firstTallied_43 : decode cX5_firstTallied 43 = .ok (.getfield 119, 3) := by decide +kernel
theorem dX5_firstTallied_46 : decode cX5_firstTallied 46 = .ok (.iload_n 3, 1) := by decide +kernel
theorem dX5_firstTallied_47 : decode cX5_firstTallied 47 = .ok (.iaload, 1) := by decide +kernel
theorem dX5_firstTallied_48 : decode cX5_firstTallied 48 = .ok (.iadd, 1) := by decide +kernel
theorem dX5_firstTallied_49 : decode cX5_firstTallied 49 = .ok (.iaload, 1) := by decide +kernel
theorem dX5_firstTallied_50 : decode cX5_firstTallied 50 = .ok (.ifCond .le 5, 3) := by decide +kernel
theorem dX5_firstTallied_53 : decode cX5_firstTallied 53 = .ok (.iload_n 3, 1) := by decide +kernel
theorem dX5_firstTallied_54 : decode cX5_firstTallied 54 = .ok (.ireturn, 1) := by decide +kernel
theorem dX5_firstTallied_55 : decode cX5_firstTallied 55 = .ok (.iinc 3 1, 3) := by decide +kernel
theorem dX5_firstTallied_58 : decode cX5_firstTallied 58 = .ok (.goto (-54), 3) := by decide +kernel
theorem dX5_firstTallied_61 : decode cX5_firstTallied 61 = .ok (.iconst (-1), 1) := by decide +kernel
theorem dX5_firstTallied_62 : decode cX5_firstTallied 62 = .ok (.ireturn, 1) := by decide +kernel
theorem dX5_linksOf_0 : decode cX5_linksOf 0 = .ok (.iconst 0, 1) := by decide +kernel
theorem dX5_linksOf_1 : decode cX5_linksOf 1 = .ok (.istore_n 3, 1) := by decide +kernel
theorem dX5_linksOf_2 : decode cX5_linksOf 2 = .ok (.aload_n 0, 1) := by decide +kernel
theorem dX5_linksOf_3 : decode cX5_linksOf 3 = .ok (.getfield 12, 3) := by decide +kernel
theorem dX5_linksOf_6 : decode cX5_linksOf 6 = .ok (.getfield 129, 3) := by decide +kernel
theorem dX5_linksOf_9 : decode cX5_linksOf 9 = .ok (.istore 4, 2) := by decide +kernel
theorem dX5_linksOf_11 : decode cX5_linksOf 11 = .ok (.iload 4, 2) := by decide +kernel
theorem dX5_linksOf_13 : decode cX5_linksOf 13 = .ok (.aload_n 0, 1) := by decide +kernel
theorem dX5_linksOf_14 : decode cX5_linksOf 14 = .ok (.getfield 12, 3) := by decide +kernel
theorem dX5_linksOf_17 : decode cX5_linksOf 17 = .ok (.getfield 63, 3) := by decide +kernel
theorem dX5_linksOf_20 : decode cX5_linksOf 20 = .ok (.if_icmp .ge 27, 3) := by decide +kernel
theorem dX5_linksOf_23 : decode cX5_linksOf 23 = .ok (.iload_n 3, 1) := by decide +kernel
theorem dX5_linksOf_24 : decode cX5_linksOf 24 = .ok (.aload_n 0, 1) := by decide +kernel
theorem dX5_linksOf_25 : decode cX5_linksOf 25 = .ok (.getfield 12, 3) := by decide +kernel
theorem dX5_linksOf_28 : decode cX5_linksOf 28 = .ok (.iload 4, 2) := by decide +kernel
theorem dX5_linksOf_30 : decode cX5_linksOf 30 = .ok (.lload_n 1, 1) := by decide +kernel
theorem dX5_linksOf_31 : decode cX5_linksOf 31 = .ok (.iload 4, 2) := by decide +kernel
theorem dX5_linksOf_33 : decode cX5_linksOf 33 = .ok (.invokestatic 116, 3) := by decide +kernel
theorem dX5_linksOf_36 : decode cX5_linksOf 36 = .ok (.invokevirtual 132, 3) := by decide +kernel
theorem dX5_linksOf_39 : decode cX5_linksOf 39 = .ok (.ior, 1) := by decide +kernel
theorem dX5_linksOf_40 : decode cX5_linksOf 40 = .ok (.istore_n 3, 1) := by decide +kernel
theorem dX5_linksOf_41 : decode cX5_linksOf 41 = .ok (.iinc 4 1, 3) := by decide +kernel
theorem dX5_linksOf_44 : decode cX5_linksOf 44 = .ok (.goto (-33), 3) := by decide +kernel
theorem dX5_linksOf_47 : decode cX5_linksOf 47 = .ok (.iload_n 3, 1) := by decide +kernel
theorem dX5_linksOf_48 : decode cX5_linksOf 48 = .ok (.ireturn, 1) := by decide +kernel
theorem dX5_heaviesOf_0 : decode cX5_heaviesOf 0 = .ok (.iconst 1, 1) := by decide +kernel
theorem dX5_heaviesOf_1 : decode cX5_heaviesOf 1 = .ok (.istore 4, 2) := by decide +kernel
theorem dX5_heaviesOf_3 : decode cX5_heaviesOf 3 = .ok (.aload_n 0, 1) := by decide +kernel
theorem dX5_heaviesOf_4 : decode cX5_heaviesOf 4 = .ok (.getfield 12, 3) := by decide +kernel
theorem dX5_heaviesOf_7 : decode cX5_heaviesOf 7 = .ok (.getfield 129, 3) := by decide +kernel
theorem dX5_heaviesOf_10 : decode cX5_heaviesOf 10 = .ok (.istore 5, 2) := by decide +kernel
theorem dX5_heaviesOf_12 : decode cX5_heaviesOf 12 = .ok (.iload 5, 2) := by decide +kernel
theorem dX5_heaviesOf_14 : decode cX5_heaviesOf 14 = .ok (.aload_n 0, 1) := by decide +kernel
theorem dX5_heaviesOf_15 : decode cX5_heaviesOf 15 = .ok (.getfield 12, 3) := by decide +kernel
theorem dX5_heaviesOf_18 : decode cX5_heaviesOf 18 = .ok (.getfield 63, 3) := by decide +kernel
theorem dX5_heaviesOf_21 : decode cX5_heaviesOf 21 = .ok (.if_icmp .ge 40, 3) := by decide +kernel
theorem dX5_heaviesOf_24 : decode cX5_heaviesOf 24 = .ok (.lload_n 2, 1) := by decide +kernel
theorem dX5_heaviesOf_25 : decode cX5_heaviesOf 25 = .ok (.iload 5, 2) := by decide +kernel
theorem dX5_heaviesOf_27 : decode cX5_heaviesOf 27 = .ok (.invokestatic 116, 3) := by decide +kernel
theorem dX5_heaviesOf_30 : decode cX5_heaviesOf 30 = .ok (.iload 5, 2) := by decide +kernel
theorem dX5_heaviesOf_32 : decode cX5_heaviesOf 32 = .ok (.if_icmp .le 23, 3) := by decide +kernel
theorem dX5_heaviesOf_35 : decode cX5_heaviesOf 35 = .ok (.iload 4, 2) := by decide +kernel
theorem dX5_heaviesOf_37 : decode cX5_heaviesOf 37 = .ok (.aload_n 1, 1) := by decide +kernel
theorem dX5_heaviesOf_38 : decode cX5_heaviesOf 38 = .ok (.getfield 135, 3) := by decide +kernel
theorem dX5_heaviesOf_41 : decode cX5_heaviesOf 41 = .ok (.aload_n 0, 1) := by decide +kernel
theorem dX5_heaviesOf_42 : decode cX5_heaviesOf 42 = .ok (.getfield 12, 3) := by decide +kernel
theorem dX5_heaviesOf_45 : decode cX5_heaviesOf 45 = .ok (.getfield 140, 3) := by decide +kernel
theorem dX5_heaviesOf_48 : decode cX5_heaviesOf 48 = .ok (.iload 5, 2) := by decide +kernel
theorem dX5_heaviesOf_50 : decode cX5_heaviesOf 50 = .ok (.iaload, 1) := by decide +kernel
theorem dX5_heaviesOf_51 : decode cX5_heaviesOf 51 = .ok (.iaload, 1) := by decide +kernel
theorem dX5_heaviesOf_52 : decode cX5_heaviesOf 52 = .ok (.imul, 1) := by decide +kernel
theorem dX5_heaviesOf_53 : decode cX5_heaviesOf 53 = .ok (.istore 4, 2) := by decide +kernel
theorem dX5_heaviesOf_55 : decode cX5_heaviesOf 55 = .ok (.iinc 5 1, 3) := by decide +kernel
theorem dX5_heaviesOf_58 : decode cX5_heaviesOf 58 = .ok (.goto (-46), 3) := by decide +kernel
theorem dX5_heaviesOf_61 : decode cX5_heaviesOf 61 = .ok (.iload 4, 2) := by decide +kernel
theorem dX5_heaviesOf_63 : decode cX5_heaviesOf 63 = .ok (.ireturn, 1) := by decide +kernel
theorem dX5_findCuts_0 : decode cX5_findCuts 0 = .ok (.aload_n 0, 1) := by decide +kernel
theorem dX5_findCuts_1 : decode cX5_findCuts 1 = .ok (.lload_n 1, 1) := by decide +kernel
theorem dX5_findCuts_2 : decode cX5_findCuts 2 = .ok (.invokevirtual 143, 3) := by decide +kernel
theorem dX5_findCuts_5 : decode cX5_findCuts 5 = .ok (.istore 4, 2) := by decide +kernel
theorem dX5_findCuts_7 : decode cX5_findCuts 7 = .ok (.aload_n 0, 1) := by decide +kernel
theorem dX5_findCuts_8 : decode cX5_findCuts 8 = .ok (.getfield 12, 3) := by decide +kernel
theorem dX5_findCuts_11 : decode cX5_findCuts 11 = .ok (.getfield 129, 3) := by decide +kernel
theorem dX5_findCuts_14 : decode cX5_findCuts 14 = .ok (.istore 5, 2) := by decide +kernel
theorem dX5_findCuts_16 : decode cX5_findCuts 16 = .ok (.iload 5, 2) := by decide +kernel
theorem dX5_findCuts_18 : decode cX5_findCuts 18 = .ok (.aload_n 0, 1) := by decide +kernel
theorem dX5_findCuts_19 : decode cX5_findCuts 19 = .ok (.getfield 12, 3) := by decide +kernel
theorem dX5_findCuts_22 : decode cX5_findCuts 22 = .ok (.getfield 63, 3) := by decide +kernel
theorem dX5_findCuts_25 : decode cX5_findCuts 25 = .ok (.if_icmp .ge 127, 3) := by decide +kernel
theorem dX5_findCuts_28 : decode cX5_findCuts 28 = .ok (.lload_n 1, 1) := by decide +kernel
theorem dX5_findCuts_29 : decode cX5_findCuts 29 = .ok (.iload 5, 2) := by decide +kernel
theorem dX5_findCuts_31 : decode cX5_findCuts 31 = .ok (.invokestatic 116, 3) := by decide +kernel
theorem dX5_findCuts_34 : decode cX5_findCuts 34 = .ok (.istore 6, 2) := by decide +kernel
theorem dX5_findCuts_36 : decode cX5_findCuts 36 = .ok (.aload_n 0, 1) := by decide +kernel
theorem dX5_findCuts_37 : decode cX5_findCuts 37 = .ok (.getfield 12, 3) := by decide +kernel
theorem dX5_findCuts_40 : decode cX5_findCuts 40 = .ok (.iload 5, 2) := by decide +kernel
theorem dX5_findCuts_42 : decode cX5_findCuts 42 = .ok (.iload 6, 2) := by decide +kernel
theorem dX5_findCuts_44 : decode cX5_findCuts 44 = .ok (.invokevirtual 132, 3) := by decide +kernel
theorem dX5_findCuts_47 : decode cX5_findCuts 47 = .ok (.istore 7, 2) := by decide +kernel
theorem dX5_findCuts_49 : decode cX5_findCuts 49 = .ok (.iload 6, 2) := by decide +kernel
theorem dX5_findCuts_51 : decode cX5_findCuts 51 = .ok (.iload 5, 2) := by decide +kernel
theorem dX5_findCuts_53 : decode cX5_findCuts 53 = .ok (.if_icmp .le 93, 3) := by decide +kernel
theorem dX5_findCuts_56 : decode cX5_findCuts 56 = .ok (.iload 7, 2) := by decide +kernel
theorem dX5_findCuts_58 : decode cX5_findCuts 58 = .ok (.ifCond .eq 88, 3) := by decide +kernel
theorem dX5_findCuts_61 : decode cX5_findCuts 61 = .ok (.iload 4, 2) := by decide +kernel
theorem dX5_findCuts_63 : decode cX5_findCuts 63 = .ok (.iload 7, 2) := by decide +kernel
theorem dX5_findCuts_65 : decode cX5_findCuts 65 = .ok (.iand, 1) := by decide +kernel
theorem dX5_findCuts_66 : decode cX5_findCuts 66 = .ok (.ifCond .ne 80, 3) := by decide +kernel
theorem dX5_findCuts_69 : decode cX5_findCuts 69 = .ok (.aload_n 0, 1) := by decide +kernel
theorem dX5_findCuts_70 : decode cX5_findCuts 70 = .ok (.getfield 12, 3) := by decide +kernel
theorem dX5_findCuts_73 : decode cX5_findCuts 73 = .ok (.iload_n 3, 1) := by decide +kernel
theorem dX5_findCuts_74 : decode cX5_findCuts 74 = .ok (.iload 7, 2) := by decide +kernel
theorem dX5_findCuts_76 : decode cX5_findCuts 76 = .ok (.iconst (-1), 1) := by decide +kernel
theorem dX5_findCuts_77 : decode cX5_findCuts 77 = .ok (.ixor, 1) := by decide +kernel
theorem dX5_findCuts_78 : decode cX5_findCuts 78 = .ok (.iand, 1) := by decide +kernel
theorem dX5_findCuts_79 : decode cX5_findCuts 79 = .ok (.invokevirtual 86, 3) := by decide +kernel
theorem dX5_findCuts_82 : decode cX5_findCuts 82 = .ok (.ifCond .ne 64, 3) := by decide +kernel
theorem dX5_findCuts_85 : decode cX5_findCuts 85 = .ok (.aload_n 0, 1) := by decide +kernel
theorem dX5_findCuts_86 : decode cX5_findCuts 86 = .ok (.lload_n 1, 1) := by decide +kernel
theorem dX5_findCuts_87 : decode cX5_findCuts 87 = .ok (.iload_n 3, 1) := by decide +kernel
theorem dX5_findCuts_88 : decode cX5_findCuts 88 = .ok (.iload 7, 2) := by decide +kernel
theorem dX5_findCuts_90 : decode cX5_findCuts 90 = .ok (.iconst (-1), 1) := by decide +kernel
theorem dX5_findCuts_91 : decode cX5_findCuts 91 = .ok (.ixor, 1) := by decide +kernel
theorem dX5_findCuts_92 : decode cX5_findCuts 92 = .ok (.iand, 1) := by decide +kernel
theorem dX5_findCuts_93 : decode cX5_findCuts 93 = .ok (.invokevirtual 146, 3) := by decide +kernel
theorem dX5_findCuts_96 : decode cX5_findCuts 96 = .ok (.istore 8, 2) := by decide +kernel
theorem dX5_findCuts_98 : decode cX5_findCuts 98 = .ok (.iload 8, 2) := by decide +kernel
theorem dX5_findCuts_100 : decode cX5_findCuts 100 = .ok (.aload_n 0, 1) := by decide +kernel
theorem dX5_findCuts_101 : decode cX5_findCuts 101 = .ok (.getfield 12, 3) := by decide +kernel
theorem dX5_findCuts_104 : decode cX5_findCuts 104 = .ok (.iload 5, 2) := by decide +kernel
theorem dX5_findCuts_106 : decode cX5_findCuts 106 = .ok (.invokevirtual 71, 3) := by decide +kernel
theorem dX5_findCuts_109 : decode cX5_findCuts 109 = .ok (.iand, 1) := by decide +kernel
theorem dX5_findCuts_110 : decode cX5_findCuts 110 = .ok (.ifCond .eq 8, 3) := by decide +kernel
theorem dX5_findCuts_113 : decode cX5_findCuts 113 = .ok (.iload 5, 2) := by decide +kernel
theorem dX5_findCuts_115 : decode cX5_findCuts 115 = .ok (.goto 5, 3) := by decide +kernel
theorem dX5_findCuts_118 : decode cX5_findCuts 118 = .ok (.iload 6, 2) := by decide +kernel
theorem dX5_findCuts_120 : decode cX5_findCuts 120 = .ok (.istore 9, 2) := by decide +kernel
theorem dX5_findCuts_122 : decode cX5_findCuts 122 = .ok (.aload_n 0, 1) := by decide +kernel
theorem dX5_findCuts_123 : decode cX5_findCuts 123 = .ok (.getfield 25, 3) := by decide +kernel
theorem dX5_findCuts_126 : decode cX5_findCuts 126 = .ok (.aload_n 0, 1) := by decide +kernel
theorem dX5_findCuts_127 : decode cX5_findCuts 127 = .ok (.lload_n 1, 1) := by decide +kernel
theorem dX5_findCuts_128 : decode cX5_findCuts 128 = .ok (.iload 8, 2) := by decide +kernel
theorem dX5_findCuts_130 : decode cX5_findCuts 130 = .ok (.invokevirtual 149, 3) := by decide +kernel
theorem dX5_findCuts_133 : decode cX5_findCuts 133 = .ok (.aload_n 0, 1) := by decide +kernel
theorem dX5_findCuts_134 : decode cX5_findCuts 134 = .ok (.getfield 12, 3) := by decide +kernel
theorem dX5_findCuts_137 : decode cX5_findCuts 137 = .ok (.getfield 140, 3) := by decide +kernel
theorem dX5_findCuts_140 : decode cX5_findCuts 140 = .ok (.iload 9, 2) := by decide +kernel
theorem dX5_findCuts_142 : decode cX5_findCuts 142 = .ok (.iaload, 1) := by decide +kernel
theorem dX5_findCuts_143 : decode cX5_findCuts 143 = .ok (.invokevirtual 152, 3) := by decide +kernel
theorem dX5_findCuts_146 : decode cX5_findCuts 146 = .ok (.iinc 5 1, 3) := by decide +kernel
theorem dX5_findCuts_149 : decode cX5_findCuts 149 = .ok (.goto (-133), 3) := by decide +kernel
theorem dX5_findCuts_152 : decode cX5_findCuts 152 = .ok (.return_, 1) := by decide +kernel
theorem dX5_doubledLinks_0 : decode cX5_doubledLinks 0 = .ok (.iconst 0, 1) := by decide +kernel
theorem dX5_doubledLinks_1 : decode cX5_doubledLinks 1 = .ok (.istore_n 3, 1) := by decide +kernel
theorem dX5_doubledLinks_2 : decode cX5_doubledLinks 2 = .ok (.iconst 0, 1) := by decide +kernel
theorem dX5_doubledLinks_3 : decode cX5_doubledLinks 3 = .ok (.istore 4, 2) := by decide +kernel
theorem dX5_doubledLinks_5 : decode cX5_doubledLinks 5 = .ok (.aload_n 0, 1) := by decide +kernel
theorem dX5_doubledLinks_6 : decode cX5_doubledLinks 6 = .ok (.getfield 12, 3) := by decide +kernel
theorem dX5_doubledLinks_9 : decode cX5_doubledLinks 9 = .ok (.getfield 129, 3) := by decide +kernel
theorem dX5_doubledLinks_12 : decode cX5_doubledLinks 12 = .ok (.istore 5, 2) := by decide +kernel
theorem dX5_doubledLinks_14 : decode cX5_doubledLinks 14 = .ok (.iload 5, 2) := by decide +kernel
theorem dX5_doubledLinks_16 : decode cX5_doubledLinks 16 = .ok (.aload_n 0, 1) := by decide +kernel
theorem dX5_doubledLinks_17 : decode cX5_doubledLinks 17 = .ok (.getfield 12, 3) := by decide +kernel
theorem dX5_doubledLinks_20 : decode cX5_doubledLinks 20 = .ok (.getfield 63, 3) := by decide +kernel
theorem dX5_doubledLinks_23 : decode cX5_doubledLinks 23 = .ok (.if_icmp .ge 51, 3) := by decide +kernel
theorem dX5_doubledLinks_26 : decode cX5_doubledLinks 26 = .ok (.lload_n 1, 1) := by decide +kernel
theorem dX5_doubledLinks_27 : decode cX5_doubledLinks 27 = .ok (.iload 5, 2) := by decide +kernel
theorem dX5_doubledLinks_29 : decode cX5_doubledLinks 29 = .ok (.invokestatic 116, 3) := by decide +kernel
theorem dX5_doubledLinks_32 : decode cX5_doubledLinks 32 = .ok (.istore 6, 2) := by decide +kernel
theorem dX5_doubledLinks_34 : decode cX5_doubledLinks 34 = .ok (.iload 6, 2) := by decide +kernel
theorem dX5_doubledLinks_36 : decode cX5_doubledLinks 36 = .ok (.iload 5, 2) := by decide +kernel
theorem dX5_doubledLinks_38 : decode cX5_doubledLinks 38 = .ok (.if_icmp .le 30, 3) := by decide +kernel
theorem dX5_doubledLinks_41 : decode cX5_doubledLinks 41 = .ok (.aload_n 0, 1) := by decide +kernel
theorem dX5_doubledLinks_42 : decode cX5_doubledLinks 42 = .ok (.getfield 12, 3) := by decide +kernel
theorem dX5_doubledLinks_45 : decode cX5_doubledLinks 45 = .ok (.iload 5, 2) := by decide +kernel
theorem dX5_doubledLinks_47 : decode cX5_doubledLinks 47 = .ok (.iload 6, 2) := by decide +kernel
theorem dX5_doubledLinks_49 : decode cX5_doubledLinks 49 = .ok (.invokevirtual 132, 3) := by decide +kernel
theorem dX5_doubledLinks_52 : decode cX5_doubledLinks 52 = .ok (.istore 7, 2) := by decide +kernel
theorem dX5_doubledLinks_54 : decode cX5_doubledLinks 54 = .ok (.iload 4, 2) := by decide +kernel
theorem dX5_doubledLinks_56 : decode cX5_doubledLinks 56 = .ok (.iload_n 3, 1) := by decide +kernel
theorem dX5_doubledLinks_57 : decode cX5_doubledLinks 57 = .ok (.iload 7, 2) := by decide +kernel
theorem dX5_doubledLinks_59 : decode cX5_doubledLinks 59 = .ok (.iand, 1) := by decide +kernel
theorem dX5_doubledLinks_60 : decode cX5_doubledLinks 60 = .ok (.ior, 1) := by decide +kernel
theorem dX5_doubledLinks_61 : decode cX5_doubledLinks 61 = .ok (.istore 4, 2) := by decide +kernel
theorem dX5_doubledLinks_63 : decode cX5_doubledLinks 63 = .ok (.iload_n 3, 1) := by decide +kernel
theorem dX5_doubledLinks_64 : decode cX5_doubledLinks 64 = .ok (.iload 7, 2) := by decide +kernel
theorem dX5_doubledLinks_66 : decode cX5_doubledLinks 66 = .ok (.ior, 1) := by decide +kernel
theorem dX5_doubledLinks_67 : decode cX5_doubledLinks 67 = .ok (.istore_n 3, 1) := by decide +kernel
theorem dX5_doubledLinks_68 : decode cX5_doubledLinks 68 = .ok (.iinc 5 1, 3) := by decide +kernel
theorem dX5_doubledLinks_71 : decode cX5_doubledLinks 71 = .ok (.goto (-57), 3) := by decide +kernel
theorem dX5_doubledLinks_74 : decode cX5_doubledLinks 74 = .ok (.iload 4, 2) := by decide +kernel
theorem dX5_doubledLinks_76 : decode cX5_doubledLinks 76 = .ok (.ireturn, 1) := by decide +kernel
theorem dX5_reach_0 : decode cX5_reach 0 = .ok (.aload_n 0, 1) := by decide +kernel
theorem dX5_reach_1 : decode cX5_reach 1 = .ok (.getfield 12, 3) := by decide +kernel
theorem dX5_reach_4 : decode cX5_reach 4 = .ok (.lload_n 1, 1) := by decide +kernel
theorem dX5_reach_5 : decode cX5_reach 5 = .ok (.iconst 0, 1) := by decide +kernel
theorem dX5_reach_6 : decode cX5_reach 6 = .ok (.invokestatic 116, 3) := by decide +kernel
theorem dX5_reach_9 : decode cX5_reach 9 = .ok (.invokevirtual 71, 3) := by decide +kernel
theorem dX5_reach_12 : decode cX5_reach 12 = .ok (.istore 4, 2) := by decide +kernel
theorem dX5_reach_14 : decode cX5_reach 14 = .ok (.iconst 1, 1) := by decide +kernel
theorem dX5_reach_15 : decode cX5_reach 15 = .ok (.istore 5, 2) := by decide +kernel
theorem dX5_reach_17 : decode cX5_reach 17 = .ok (.iload 5, 2) := by decide +kernel
theorem dX5_reach_19 : decode cX5_reach 19 = .ok (.iconst 3, 1) := by decide +kernel
theorem dX5_reach_20 : decode cX5_reach 20 = .ok (.if_icmp .ge 71, 3) := by decide +kernel
theorem dX5_reach_23 : decode cX5_reach 23 = .ok (.iconst 0, 1) := by decide +kernel
theorem dX5_reach_24 : decode cX5_reach 24 = .ok (.istore 6, 2) := by decide +kernel
theorem dX5_reach_26 : decode cX5_reach 26 = .ok (.iload 6, 2) := by decide +kernel
theorem dX5_reach_28 : decode cX5_reach 28 = .ok (.iconst 3, 1) := by decide +kernel
theorem dX5_reach_29 : decode cX5_reach 29 = .ok (.if_icmp .ge 56, 3) := by decide +kernel
theorem dX5_reach_32 : decode cX5_reach 32 = .ok (.iload 6, 2) := by decide +kernel
theorem dX5_reach_34 : decode cX5_reach 34 = .ok (.ifCond .ne 7, 3) := by decide +kernel
theorem dX5_reach_37 : decode cX5_reach 37 = .ok (.iconst 3, 1) := by decide +kernel
theorem dX5_reach_38 : decode cX5_reach 38 = .ok (.goto 15, 3) := by decide +kernel
theorem dX5_reach_41 : decode cX5_reach 41 = .ok (.iload 6, 2) := by decide +kernel
theorem dX5_reach_43 : decode cX5_reach 43 = .ok (.iconst 1, 1) := by decide +kernel
theorem dX5_reach_44 : decode cX5_reach 44 = .ok (.if_icmp .ne 7, 3) := by decide +kernel
theorem dX5_reach_47 : decode cX5_reach 47 = .ok (.iconst 5, 1) := by decide +kernel
theorem dX5_reach_48 : decode cX5_reach 48 = .ok (.goto 5, 3) := by decide +kernel
theorem dX5_reach_51 : decode cX5_reach 51 = .ok (.bipush 6, 2) := by decide +kernel
theorem dX5_reach_53 : decode cX5_reach 53 = .ok (.istore 7, 2) := by decide +kernel
theorem dX5_reach_55 : decode cX5_reach 55 = .ok (.iload_n 3, 1) := by decide +kernel
theorem dX5_reach_56 : decode cX5_reach 56 = .ok (.iload 6, 2) := by decide +kernel
theorem dX5_reach_58 : decode cX5_reach 58 = .ok (.ishr, 1) := by decide +kernel
theorem dX5_reach_59 : decode cX5_reach 59 = .ok (.iconst 1, 1) := by decide +kernel
theorem dX5_reach_60 : decode cX5_reach 60 = .ok (.iand, 1) := by decide +kernel
theorem dX5_reach_61 : decode cX5_reach 61 = .ok (.ifCond .eq 18, 3) := by decide +kernel
theorem dX5_reach_64 : decode cX5_reach 64 = .ok (.iload 4, 2) := by decide +kernel
theorem dX5_reach_66 : decode cX5_reach 66 = .ok (.iload 7, 2) := by decide +kernel
theorem dX5_reach_68 : decode cX5_reach 68 = .ok (.iand, 1) := by decide +kernel
theorem dX5_reach_69 : decode cX5_reach 69 = .ok (.ifCond .eq 10, 3) := by decide +kernel
theorem dX5_reach_72 : decode cX5_reach 72 = .ok (.iload 4, 2) := by decide +kernel
theorem dX5_reach_74 : decode cX5_reach 74 = .ok (.iload 7, 2) := by decide +kernel
theorem dX5_reach_76 : decode cX5_reach 76 = .ok (.ior, 1) := by decide +kernel
theorem dX5_reach_77 : decode cX5_reach 77 = .ok (.istore 4, 2) := by decide +kernel
theorem dX5_reach_79 : decode cX5_reach 79 = .ok (.iinc 6 1, 3) := by decide +kernel
theorem dX5_reach_82 : decode cX5_reach 82 = .ok (.goto (-56), 3) := by decide +kernel
theorem dX5_reach_85 : decode cX5_reach 85 = .ok (.iinc 5 1, 3) := by decide +kernel
theorem dX5_reach_88 : decode cX5_reach 88 = .ok (.goto (-71), 3) := by decide +kernel
theorem dX5_reach_91 : decode cX5_reach 91 = .ok (.iload 4, 2) := by decide +kernel
theorem dX5_reach_93 : decode cX5_reach 93 = .ok (.ireturn, 1) := by decide +kernel
theorem dX5_endsAt_0 : decode cX5_endsAt 0 = .ok (.iconst 0, 1) := by decide +kernel
theorem dX5_endsAt_1 : decode cX5_endsAt 1 = .ok (.istore 4, 2) := by decide +kernel
theorem dX5_endsAt_3 : decode cX5_endsAt 3 = .ok (.iconst 0, 1) := by decide +kernel
theorem dX5_endsAt_4 : decode cX5_endsAt 4 = .ok (.istore 5, 2) := by decide +kernel
theorem dX5_endsAt_6 : decode cX5_endsAt 6 = .ok (.iload 5, 2) := by decide +kernel
theorem dX5_endsAt_8 : decode cX5_endsAt 8 = .ok (.aload_n 0, 1) := by decide +kernel
theorem dX5_endsAt_9 : decode cX5_endsAt 9 = .ok (.getfield 12, 3) := by decide +kernel
theorem dX5_endsAt_12 : decode cX5_endsAt 12 = .ok (.getfield 129, 3) := by decide +kernel
theorem dX5_endsAt_15 : decode cX5_endsAt 15 = .ok (.if_icmp .ge 36, 3) := by decide +kernel
theorem dX5_endsAt_18 : decode cX5_endsAt 18 = .ok (.aload_n 0, 1) := by decide +kernel
theorem dX5_endsAt_19 : decode cX5_endsAt 19 = .ok (.getfield 12, 3) := by decide +kernel
theorem dX5_endsAt_22 : decode cX5_endsAt 22 = .ok (.lload_n 1, 1) := by decide +kernel
theorem dX5_endsAt_23 : decode cX5_endsAt 23 = .ok (.iload 5, 2) := by decide +kernel
theorem dX5_endsAt_25 : decode cX5_endsAt 25 = .ok (.invokestatic 116, 3) := by decide +kernel
theorem dX5_endsAt_28 : decode cX5_endsAt 28 = .ok (.invokevirtual 71, 3) := by decide +kernel
theorem dX5_endsAt_31 : decode cX5_endsAt 31 = .ok (.iload_n 3, 1) := by decide +kernel
theorem dX5_endsAt_32 : decode cX5_endsAt 32 = .ok (.iand, 1) := by decide +kernel
theorem dX5_endsAt_33 : decode cX5_endsAt 33 = .ok (.ifCond .eq 12, 3) := by decide +kernel
theorem dX5_endsAt_36 : decode cX5_endsAt 36 = .ok (.iload 4, 2) := by decide +kernel
theorem dX5_endsAt_38 : decode cX5_endsAt 38 = .ok (.iconst 1, 1) := by decide +kernel
theorem dX5_endsAt_39 : decode cX5_endsAt 39 = .ok (.iload 5, 2) := by decide +kernel
theorem dX5_endsAt_41 : decode cX5_endsAt 41 = .ok (.ishl, 1) := by decide +kernel
theorem dX5_endsAt_42 : decode cX5_endsAt 42 = .ok (.ior, 1) := by decide +kernel
theorem dX5_endsAt_43 : decode cX5_endsAt 43 = .ok (.istore 4, 2) := by decide +kernel
theorem dX5_endsAt_45 : decode cX5_endsAt 45 = .ok (.iinc 5 1, 3) := by decide +kernel
theorem dX5_endsAt_48 : decode cX5_endsAt 48 = .ok (.goto (-42), 3) := by decide +kernel
theorem dX5_endsAt_51 : decode cX5_endsAt 51 = .ok (.iload 4, 2) := by decide +kernel
theorem dX5_endsAt_53 : decode cX5_endsAt 53 = .ok (.ireturn, 1) := by decide +kernel
theorem dX5_leastOf_0 : decode cX5_leastOf 0 = .ok (.aload_n 0, 1) := by decide +kernel
theorem dX5_leastOf_1 : decode cX5_leastOf 1 = .ok (.getfield 12, 3) := by decide +kernel
theorem dX5_leastOf_4 : decode cX5_leastOf 4 = .ok (.aload_n 1, 1) := by decide +kernel
theorem dX5_leastOf_5 : decode cX5_leastOf 5 = .ok (.aload_n 2, 1) := by decide +kernel
theorem dX5_leastOf_6 : decode cX5_leastOf 6 = .ok (.iload_n 3, 1) := by decide +kernel
theorem dX5_leastOf_7 : decode cX5_leastOf 7 = .ok (.iload 4, 2) := by decide +kernel
theorem dX5_leastOf_9 : decode cX5_leastOf 9 = .ok (.invokevirtual 37, 3) := by decide +kernel
theorem dX5_leastOf_12 : decode cX5_leastOf 12 = .ok (.ifCond .eq 15, 3) := by decide +kernel
theorem dX5_leastOf_15 : decode cX5_leastOf 15 = .ok (.aload_n 0, 1) := by decide +kernel
theorem dX5_leastOf_16 : decode cX5_leastOf 16 = .ok (.getfield 12, 3) := by decide +kernel
theorem dX5_leastOf_19 : decode cX5_leastOf 19 = .ok (.lload 5, 2) := by decide +kernel
theorem dX5_leastOf_21 : decode cX5_leastOf 21 = .ok (.invokevirtual 156, 3) := by decide +kernel
theorem dX5_leastOf_24 : decode cX5_leastOf 24 = .ok (.ifCond .ne 7, 3) := by decide +kernel
theorem dX5_leastOf_27 : decode cX5_leastOf 27 = .ok (.ldc2_w 160, 3) := by decide +kernel
theorem dX5_leastOf_30 : decode cX5_leastOf 30 = .ok (.lreturn, 1) := by decide +kernel
theorem dX5_leastOf_31 : decode cX5_leastOf 31 = .ok (.lload 5, 2) := by decide +kernel
theorem dX5_leastOf_33 : decode cX5_leastOf 33 = .ok (.lstore 7, 2) := by decide +kernel
theorem dX5_leastOf_35 : decode cX5_leastOf 35 = .ok (.iconst 0, 1) := by decide +kernel
theorem dX5_leastOf_36 : decode cX5_leastOf 36 = .ok (.istore 9, 2) := by decide +kernel
theorem dX5_leastOf_38 : decode cX5_leastOf 38 = .ok (.iload 9, 2) := by decide +kernel
theorem dX5_leastOf_40 : decode cX5_leastOf 40 = .ok (.bipush 6, 2) := by decide +kernel
theorem dX5_leastOf_42 : decode cX5_leastOf 42 = .ok (.if_icmp .ge 41, 3) := by decide +kernel
theorem dX5_leastOf_45 : decode cX5_leastOf 45 = .ok (.aload_n 0, 1) := by decide +kernel
theorem dX5_leastOf_46 : decode cX5_leastOf 46 = .ok (.getfield 12, 3) := by decide +kernel
theorem dX5_leastOf_49 : decode cX5_leastOf 49 = .ok (.iload 9, 2) := by decide +kernel
theorem dX5_leastOf_51 : decode cX5_leastOf 51 = .ok (.invokevirtual 90, 3) := by decide +kernel
theorem dX5_leastOf_54 : decode cX5_leastOf 54 = .ok (.ifCond .eq 23, 3) := by decide +kernel
theorem dX5_leastOf_57 : decode cX5_leastOf 57 = .ok (.aload_n 0, 1) := by decide +kernel
theorem dX5_leastOf_58 : decode cX5_leastOf 58 = .ok (.lload 5, 2) := by decide +kernel
theorem dX5_leastOf_60 : decode cX5_leastOf 60 = .ok (.iload 9, 2) := by decide +kernel
theorem dX5_leastOf_62 : decode cX5_leastOf 62 = .ok (.invokevirtual 93, 3) := by decide +kernel
theorem dX5_leastOf_65 : decode cX5_leastOf 65 = .ok (.pop, 1) := by decide +kernel
theorem dX5_leastOf_66 : decode cX5_leastOf 66 = .ok (.lload 7, 2) := by decide +kernel
theorem dX5_leastOf_68 : decode cX5_leastOf 68 = .ok (.aload_n 0, 1) := by decide +kernel
theorem dX5_leastOf_69 : decode cX5_leastOf 69 = .ok (.invokevirtual 97, 3) := by decide +kernel
theorem dX5_leastOf_72 : decode cX5_leastOf 72 = .ok (.invokestatic 162, 3) := by decide +kernel
theorem dX5_leastOf_75 : decode cX5_leastOf 75 = .ok (.lstore 7, 2) := by decide +kernel
theorem dX5_leastOf_77 : decode cX5_leastOf 77 = .ok (.iinc 9 1, 3) := by decide +kernel
theorem dX5_leastOf_80 : decode cX5_leastOf 80 = .ok (.goto (-42), 3) := by decide +kernel
theorem dX5_leastOf_83 : decode cX5_leastOf 83 = .ok (.lload 7, 2) := by decide +kernel
theorem dX5_leastOf_85 : decode cX5_leastOf 85 = .ok (.lreturn, 1) := by decide +kernel
theorem dX5_walkAll_0 : decode cX5_walkAll 0 = .ok (.iconst 0, 1) := by decide +kernel
theorem dX5_walkAll_1 : decode cX5_walkAll 1 = .ok (.istore 5, 2) := by decide +kernel
theorem dX5_walkAll_3 : decode cX5_walkAll 3 = .ok (.iload 5, 2) := by decide +kernel
theorem dX5_walkAll_5 : decode cX5_walkAll 5 = .ok (.aload_n 3, 1) := by decide +kernel
theorem dX5_walkAll_6 : decode cX5_walkAll 6 = .ok (.getfield 168, 3) := by decide +kernel
theorem dX5_walkAll_9 : decode cX5_walkAll 9 = .ok (.if_icmp .ge 82, 3) := by decide +kernel
theorem dX5_walkAll_12 : decode cX5_walkAll 12 = .ok (.aload_n 3, 1) := by decide +kernel
theorem dX5_walkAll_13 : decode cX5_walkAll 13 = .ok (.getfield 171, 3) := by decide +kernel
theorem dX5_walkAll_16 : decode cX5_walkAll 16 = .ok (.iload 5, 2) := by decide +kernel
theorem dX5_walkAll_18 : decode cX5_walkAll 18 = .ok (.iaload, 1) := by decide +kernel
theorem dX5_walkAll_19 : decode cX5_walkAll 19 = .ok (.iload 4, 2) := by decide +kernel
theorem dX5_walkAll_21 : decode cX5_walkAll 21 = .ok (.if_icmp .ne 64, 3) := by decide +kernel
theorem dX5_walkAll_24 : decode cX5_walkAll 24 = .ok (.aload_n 3, 1) := by decide +kernel
theorem dX5_walkAll_25 : decode cX5_walkAll 25 = .ok (.getfield 174, 3) := by decide +kernel
theorem dX5_walkAll_28 : decode cX5_walkAll 28 = .ok (.iload 5, 2) := by decide +kernel
theorem dX5_walkAll_30 : decode cX5_walkAll 30 = .ok (.baload, 1) := by decide +kernel
theorem dX5_walkAll_31 : decode cX5_walkAll 31 = .ok (.ifCond .ne 54, 3) := by decide +kernel
theorem dX5_walkAll_34 : decode cX5_walkAll 34 = .ok (.aload_n 0, 1) := by decide +kernel
theorem dX5_walkAll_35 : decode cX5_walkAll 35 = .ok (.getfield 12, 3) := by decide +kernel
theorem dX5_walkAll_38 : decode cX5_walkAll 38 = .ok (.aload_n 1, 1) := by decide +kernel
theorem dX5_walkAll_39 : decode cX5_walkAll 39 = .ok (.aload_n 2, 1) := by decide +kernel
theorem dX5_walkAll_40 : decode cX5_walkAll 40 = .ok (.aload_n 3, 1) := by decide +kernel
theorem dX5_walkAll_41 : decode cX5_walkAll 41 = .ok (.getfield 178, 3) := by decide +kernel
theorem dX5_walkAll_44 : decode cX5_walkAll 44 = .ok (.aload_n 3, 1) := by decide +kernel
theorem dX5_walkAll_45 : decode cX5_walkAll 45 = .ok (.getfield 181, 3) := by decide +kernel
theorem dX5_walkAll_48 : decode cX5_walkAll 48 = .ok (.iload 5, 2) := by decide +kernel
theorem dX5_walkAll_50 : decode cX5_walkAll 50 = .ok (.iaload, 1) := by decide +kernel
theorem dX5_walkAll_51 : decode cX5_walkAll 51 = .ok (.invokevirtual 37, 3) := by decide +kernel
theorem dX5_walkAll_54 : decode cX5_walkAll 54 = .ok (.ifCond .eq 31, 3) := by decide +kernel
theorem dX5_walkAll_57 : decode cX5_walkAll 57 = .ok (.aload_n 3, 1) := by decide +kernel
theorem dX5_walkAll_58 : decode cX5_walkAll 58 = .ok (.getfield 184, 3) := by decide +kernel
theorem dX5_walkAll_61 : decode cX5_walkAll 61 = .ok (.iload 5, 2) := by decide +kernel
theorem dX5_walkAll_63 : decode cX5_walkAll 63 = .ok (.aload_n 0, 1) := by decide +kernel
theorem dX5_walkAll_64 : decode cX5_walkAll 64 = .ok (.aload_n 0, 1) := by decide +kernel
theorem dX5_walkAll_65 : decode cX5_walkAll 65 = .ok (.getfield 12, 3) := by decide +kernel
theorem dX5_walkAll_68 : decode cX5_walkAll 68 = .ok (.invokevirtual 45, 3) := by decide +kernel
theorem dX5_walkAll_71 : decode cX5_walkAll 71 = .ok (.iconst 0, 1) := by decide +kernel
theorem dX5_walkAll_72 : decode cX5_walkAll 72 = .ok (.iconst 0, 1) := by decide +kernel
theorem dX5_walkAll_73 : decode cX5_walkAll 73 = .ok (.invokevirtual 187, 3) := by decide +kernel
theorem dX5_walkAll_76 : decode cX5_walkAll 76 = .ok (.iastore, 1) := by decide +kernel
theorem dX5_walkAll_77 : decode cX5_walkAll 77 = .ok (.aload_n 3, 1) := by decide +kernel
theorem dX5_walkAll_78 : decode cX5_walkAll 78 = .ok (.getfield 174, 3) := by decide +kernel
theorem dX5_walkAll_81 : decode cX5_walkAll 81 = .ok (.iload 5, 2) := by decide +kernel
theorem dX5_walkAll_83 : decode cX5_walkAll 83 = .ok (.iconst 1, 1) := by decide +kernel
theorem dX5_walkAll_84 : decode cX5_walkAll 84 = .ok (.bastore, 1) := by decide +kernel
theorem dX5_walkAll_85 : decode cX5_walkAll 85 = .ok (.iinc 5 1, 3) := by decide +kernel
theorem dX5_walkAll_88 : decode cX5_walkAll 88 = .ok (.goto (-85), 3) := by decide +kernel
theorem dX5_walkAll_91 : decode cX5_walkAll 91 = .ok (.return_, 1) := by decide +kernel
theorem dX5_walk_0 : decode cX5_walk 0 = .ok (.iload_n 1, 1) := by decide +kernel
theorem dX5_walk_1 : decode cX5_walk 1 = .ok (.ifCond .ne 20, 3) := by decide +kernel
theorem dX5_walk_4 : decode cX5_walk 4 = .ok (.aload_n 0, 1) := by decide +kernel
theorem dX5_walk_5 : decode cX5_walk 5 = .ok (.getfield 12, 3) := by decide +kernel
theorem dX5_walk_8 : decode cX5_walk 8 = .ok (.iload_n 2, 1) := by decide +kernel
theorem dX5_walk_9 : decode cX5_walk 9 = .ok (.invokevirtual 86, 3) := by decide +kernel
theorem dX5_walk_12 : decode cX5_walk 12 = .ok (.ifCond .eq 7, 3) := by decide +kernel
theorem dX5_walk_15 : decode cX5_walk 15 = .ok (.iconst 1, 1) := by decide +kernel
theorem dX5_walk_16 : decode cX5_walk 16 = .ok (.goto 4, 3) := by decide +kernel
theorem dX5_walk_19 : decode cX5_walk 19 = .ok (.iconst 0, 1) := by decide +kernel
theorem dX5_walk_20 : decode cX5_walk 20 = .ok (.ireturn, 1) := by decide +kernel
theorem dX5_walk_21 : decode cX5_walk 21 = .ok (.iload_n 3, 1) := by decide +kernel
theorem dX5_walk_22 : decode cX5_walk 22 = .ok (.bipush 6, 2) := by decide +kernel
theorem dX5_walk_24 : decode cX5_walk 24 = .ok (.if_icmp .lt 5, 3) := by decide +kernel
theorem dX5_walk_27 : decode cX5_walk 27 = .ok (.iconst 0, 1) := by decide +kernel
theorem dX5_walk_28 : decode cX5_walk 28 = .ok (.ireturn, 1) := by decide +kernel
theorem dX5_walk_29 : decode cX5_walk 29 = .ok (.iload_n 1, 1) := by decide +kernel
theorem dX5_walk_30 : decode cX5_walk 30 = .ok (.invokestatic 57, 3) := by decide +kernel
theorem dX5_walk_33 : decode cX5_walk 33 = .ok (.istore 4, 2) := by decide +kernel
theorem dX5_walk_35 : decode cX5_walk 35 = .ok (.iload_n 1, 1) := by decide +kernel
theorem dX5_walk_36 : decode cX5_walk 36 = .ok (.iload_n 1, 1) := by decide +kernel
theorem dX5_walk_37 : decode cX5_walk 37 = .ok (.iconst 1, 1) := by decide +kernel
theorem dX5_walk_38 : decode cX5_walk 38 = .ok (.isub, 1) := by decide +kernel
theorem dX5_walk_39 : decode cX5_walk 39 = .ok (.iand, 1) := by decide +kernel
theorem dX5_walk_40 : decode cX5_walk 40 = .ok (.istore 5, 2) := by decide +kernel
theorem dX5_walk_42 : decode cX5_walk 42 = .ok (.iconst 0, 1) := by decide +kernel
theorem dX5_walk_43 : decode cX5_walk 43 = .ok (.istore 6, 2) := by decide +kernel
theorem dX5_walk_45 : decode cX5_walk 45 = .ok (.iload 4, 2) := by decide +kernel
theorem dX5_walk_47 : decode cX5_walk 47 = .ok (.iconst 1, 1) := by decide +kernel
theorem dX5_walk_48 : decode cX5_walk 48 = .ok (.iadd, 1) := by decide +kernel
theorem dX5_walk_49 : decode cX5_walk 49 = .ok (.istore 7, 2) := by decide +kernel
theorem dX5_walk_51 : decode cX5_walk 51 = .ok (.iload 7, 2) := by decide +kernel
theorem dX5_walk_53 : decode cX5_walk 53 = .ok (.aload_n 0, 1) := by decide +kernel
theorem dX5_walk_54 : decode cX5_walk 54 = .ok (.getfield 12, 3) := by decide +kernel
theorem dX5_walk_57 : decode cX5_walk 57 = .ok (.getfield 63, 3) := by decide +kernel
theorem dX5_walk_60 : decode cX5_walk 60 = .ok (.if_icmp .ge 73, 3) := by decide +kernel
theorem dX5_walk_63 : decode cX5_walk 63 = .ok (.aload_n 0, 1) := by decide +kernel
theorem dX5_walk_64 : decode cX5_walk 64 = .ok (.getfield 12, 3) := by decide +kernel
theorem dX5_walk_67 : decode cX5_walk 67 = .ok (.iload 4, 2) := by decide +kernel
theorem dX5_walk_69 : decode cX5_walk 69 = .ok (.iload 7, 2) := by decide +kernel
theorem dX5_walk_71 : decode cX5_walk 71 = .ok (.iload 5, 2) := by decide +kernel
theorem dX5_walk_73 : decode cX5_walk 73 = .ok (.invokevirtual 190, 3) := by decide +kernel
theorem dX5_walk_76 : decode cX5_walk 76 = .ok (.ifCond .eq 51, 3) := by decide +kernel
theorem dX5_walk_79 : decode cX5_walk 79 = .ok (.iload 6, 2) := by decide +kernel
theorem dX5_walk_81 : decode cX5_walk 81 = .ok (.aload_n 0, 1) := by decide +kernel
theorem dX5_walk_82 : decode cX5_walk 82 = .ok (.getfield 12, 3) := by decide +kernel
theorem dX5_walk_85 : decode cX5_walk 85 = .ok (.iload 4, 2) := by decide +kernel
theorem dX5_walk_87 : decode cX5_walk 87 = .ok (.iload 7, 2) := by decide +kernel
theorem dX5_walk_89 : decode cX5_walk 89 = .ok (.iload 5, 2) := by decide +kernel
theorem dX5_walk_91 : decode cX5_walk 91 = .ok (.invokevirtual 78, 3) := by decide +kernel
theorem dX5_walk_94 : decode cX5_walk 94 = .ok (.aload_n 0, 1) := by decide +kernel
theorem dX5_walk_95 : decode cX5_walk 95 = .ok (.iload 5, 2) := by decide +kernel
theorem dX5_walk_97 : decode cX5_walk 97 = .ok (.iconst 1, 1) := by decide +kernel
theorem dX5_walk_98 : decode cX5_walk 98 = .ok (.iload 7, 2) := by decide +kernel
theorem dX5_walk_100 : decode cX5_walk 100 = .ok (.ishl, 1) := by decide +kernel
theorem dX5_walk_101 : decode cX5_walk 101 = .ok (.iconst (-1), 1) := by decide +kernel
theorem dX5_walk_102 : decode cX5_walk 102 = .ok (.ixor, 1) := by decide +kernel
theorem dX5_walk_103 : decode cX5_walk 103 = .ok (.iand, 1) := by decide +kernel
theorem dX5_walk_104 : decode cX5_walk 104 = .ok (.iload_n 2, 1) := by decide +kernel
theorem dX5_walk_105 : decode cX5_walk 105 = .ok (.aload_n 0, 1) := by decide +kernel
theorem dX5_walk_106 : decode cX5_walk 106 = .ok (.getfield 12, 3) := by decide +kernel
theorem dX5_walk_109 : decode cX5_walk 109 = .ok (.iload 4, 2) := by decide +kernel
theorem dX5_walk_111 : decode cX5_walk 111 = .ok (.iload 7, 2) := by decide +kernel
theorem dX5_walk_113 : decode cX5_walk 113 = .ok (.invokevirtual 132, 3) := by decide +kernel
theorem dX5_walk_116 : decode cX5_walk 116 = .ok (.ior, 1) := by decide +kernel
theorem dX5_walk_117 : decode cX5_walk 117 = .ok (.iload_n 3, 1) := by decide +kernel
theorem dX5_walk_118 : decode cX5_walk 118 = .ok (.iconst 1, 1) := by decide +kernel
theorem dX5_walk_119 : decode cX5_walk 119 = .ok (.iadd, 1) := by decide +kernel
theorem dX5_walk_120 : decode cX5_walk 120 = .ok (.invokevirtual 187, 3) := by decide +kernel
theorem dX5_walk_123 : decode cX5_walk 123 = .ok (.imul, 1) := by decide +kernel
theorem dX5_walk_124 : decode cX5_walk 124 = .ok (.iadd, 1) := by decide +kernel
theorem dX5_walk_125 : decode cX5_walk 125 = .ok (.istore 6, 2) := by decide +kernel
theorem dX5_walk_127 : decode cX5_walk 127 = .ok (.iinc 7 1, 3) := by decide +kernel
theorem dX5_walk_130 : decode cX5_walk 130 = .ok (.goto (-79), 3) := by decide +kernel
theorem dX5_walk_133 : decode cX5_walk 133 = .ok (.iload 6, 2) := by decide +kernel
theorem dX5_walk_135 : decode cX5_walk 135 = .ok (.ireturn, 1) := by decide +kernel

