theorem dX4_init_0 : decode cX4_init 0 = .ok (.aload_n 0, 1) := by decide +kernel
theorem dX4_init_1 : decode cX4_init 1 = .ok (.invokespecial 3, 3) := by decide +kernel
theorem dX4_init_4 : decode cX4_init 4 = .ok (.aload_n 0, 1) := by decide +kernel
theorem dX4_init_5 : decode cX4_init 5 = .ok (.bipush 12, 2) := by decide +kernel
theorem dX4_init_7 : decode cX4_init 7 = .ok (.newarray .int, 2) := by decide +kernel
theorem dX4_init_9 : decode cX4_init 9 = .ok (.putfield 9, 3) := by decide +kernel
theorem dX4_init_12 : decode cX4_init 12 = .ok (.aload_n 0, 1) := by decide +kernel
theorem dX4_init_13 : decode cX4_init 13 = .ok (.bipush 12, 2) := by decide +kernel
theorem dX4_init_15 : decode cX4_init 15 = .ok (.newarray .int, 2) := by decide +kernel
theorem dX4_init_17 : decode cX4_init 17 = .ok (.putfield 15, 3) := by decide +kernel
theorem dX4_init_20 : decode cX4_init 20 = .ok (.aload_n 0, 1) := by decide +kernel
theorem dX4_init_21 : decode cX4_init 21 = .ok (.bipush 12, 2) := by decide +kernel
theorem dX4_init_23 : decode cX4_init 23 = .ok (.newarray .int, 2) := by decide +kernel
theorem dX4_init_25 : decode cX4_init 25 = .ok (.putfield 18, 3) := by decide +kernel
theorem dX4_init_28 : decode cX4_init 28 = .ok (.aload_n 0, 1) := by decide +kernel
theorem dX4_init_29 : decode cX4_init 29 = .ok (.bipush 12, 2) := by decide +kernel
theorem dX4_init_31 : decode cX4_init 31 = .ok (.newarray .int, 2) := by decide +kernel
theorem dX4_init_33 : decode cX4_init 33 = .ok (.putfield 21, 3) := by decide +kernel
theorem dX4_init_36 : decode cX4_init 36 = .ok (.aload_n 0, 1) := by decide +kernel
theorem dX4_init_37 : decode cX4_init 37 = .ok (.bipush 12, 2) := by decide +kernel
theorem dX4_init_39 : decode cX4_init 39 = .ok (.newarray .int, 2) := by decide +kernel
theorem dX4_init_41 : decode cX4_init 41 = .ok (.putfield 24, 3) := by decide +kernel
theorem dX4_init_44 : decode cX4_init 44 = .ok (.aload_n 0, 1) := by decide +kernel
theorem dX4_init_45 : decode cX4_init 45 = .ok (.iconst 3, 1) := by decide +kernel
theorem dX4_init_46 : decode cX4_init 46 = .ok (.newarray .int, 2) := by decide +kernel
theorem dX4_init_48 : decode cX4_init 48 = .ok (.putfield 27, 3) := by decide +kernel
theorem dX4_init_51 : decode cX4_init 51 = .ok (.aload_n 0, 1) := by decide +kernel
theorem dX4_init_52 : decode cX4_init 52 = .ok (.iconst 3, 1) := by decide +kernel
theorem dX4_init_53 : decode cX4_init 53 = .ok (.newarray .int, 2) := by decide +kernel
theorem dX4_init_55 : decode cX4_init 55 = .ok (.putfield 30, 3) := by decide +kernel
theorem dX4_init_58 : decode cX4_init 58 = .ok (.return_, 1) := by decide +kernel
theorem dX4_lay_0 : decode cX4_lay 0 = .ok (.aload_n 0, 1) := by decide +kernel
theorem dX4_lay_1 : decode cX4_lay 1 = .ok (.iload_n 3, 1) := by decide +kernel
theorem dX4_lay_2 : decode cX4_lay 2 = .ok (.putfield 33, 3) := by decide +kernel
theorem dX4_lay_5 : decode cX4_lay 5 = .ok (.aload_n 0, 1) := by decide +kernel
theorem dX4_lay_6 : decode cX4_lay 6 = .ok (.aload_n 2, 1) := by decide +kernel
theorem dX4_lay_7 : decode cX4_lay 7 = .ok (.getfield 37, 3) := by decide +kernel
theorem dX4_lay_10 : decode cX4_lay 10 = .ok (.putfield 42, 3) := by decide +kernel
theorem dX4_lay_13 : decode cX4_lay 13 = .ok (.aload_n 0, 1) := by decide +kernel
theorem dX4_lay_14 : decode cX4_lay 14 = .ok (.aload_n 0, 1) := by decide +kernel
theorem dX4_lay_15 : decode cX4_lay 15 = .ok (.getfield 42, 3) := by decide +kernel
theorem dX4_lay_18 : decode cX4_lay 18 = .ok (.putfield 45, 3) := by decide +kernel
theorem dX4_lay_21 : decode cX4_lay 21 = .ok (.iconst 0, 1) := by decide +kernel
theorem dX4_lay_22 : decode cX4_lay 22 = .ok (.istore 5, 2) := by decide +kernel
theorem dX4_lay_24 : decode cX4_lay 24 = .ok (.iload 5, 2) := by decide +kernel
theorem dX4_lay_26 : decode cX4_lay 26 = .ok (.aload_n 0, 1) := by decide +kernel
theorem dX4_lay_27 : decode cX4_lay 27 = .ok (.getfield 42, 3) := by decide +kernel
theorem dX4_lay_30 : decode cX4_lay 30 = .ok (.if_icmp .ge 47, 3) := by decide +kernel
theorem dX4_lay_33 : decode cX4_lay 33 = .ok (.iload 5, 2) := by decide +kernel
theorem dX4_lay_35 : decode cX4_lay 35 = .ok (.bipush 6, 2) := by decide +kernel
theorem dX4_lay_37 : decode cX4_lay 37 = .ok (.if_icmp .ge 40, 3) := by decide +kernel
theorem dX4_lay_40 : decode cX4_lay 40 = .ok (.aload_n 0, 1) := by decide +kernel
theorem dX4_lay_41 : decode cX4_lay 41 = .ok (.getfield 9, 3) := by decide +kernel
theorem dX4_lay_44 : decode cX4_lay 44 = .ok (.iload 5, 2) := by decide +kernel
theorem dX4_lay_46 : decode cX4_lay 46 = .ok (.aload_n 2, 1) := by decide +kernel
theorem dX4_lay_47 : decode cX4_lay 47 = .ok (.getfield 48, 3) := by decide +kernel
theorem dX4_lay_50 : decode cX4_lay 50 = .ok (.iload 5, 2) := by decide +kernel
theorem dX4_lay_52 : decode cX4_lay 52 = .ok (.iaload, 1) := by decide +kernel
theorem dX4_lay_53 : decode cX4_lay 53 = .ok (.iastore, 1) := by decide +kernel
theorem dX4_lay_54 : decode cX4_lay 54 = .ok (.aload_n 0, 1) := by decide +kernel
theorem dX4_lay_55 : decode cX4_lay 55 = .ok (.getfield 15, 3) := by decide +kernel
theorem dX4_lay_58 : decode cX4_lay 58 = .ok (.iload 5, 2) := by decide +kernel
theorem dX4_lay_60 : decode cX4_lay 60 = .ok (.iconst (-1), 1) := by decide +kernel
theorem dX4_lay_61 : decode cX4_lay 61 = .ok (.iastore, 1) := by decide +kernel
theorem dX4_lay_62 : decode cX4_lay 62 = .ok (.aload_n 0, 1) := by decide +kernel
theorem dX4_lay_63 : decode cX4_lay 63 = .ok (.getfield 18, 3) := by decide +kernel
theorem dX4_lay_66 : decode cX4_lay 66 = .ok (.iload 5, 2) := by decide +kernel
theorem dX4_lay_68 : decode cX4_lay 68 = .ok (.iload 5, 2) := by decide +kernel
theorem dX4_lay_70 : decode cX4_lay 70 = .ok (.iastore, 1) := by decide +kernel
theorem dX4_lay_71 : decode cX4_lay 71 = .ok (.iinc 5 1, 3) := by decide +kernel
theorem dX4_lay_74 : decode cX4_lay 74 = .ok (.goto (-50), 3) := by decide +kernel
theorem dX4_lay_77 : decode cX4_lay 77 = .ok (.iconst 0, 1) := by decide +kernel
theorem dX4_lay_78 : decode cX4_lay 78 = .ok (.istore 5, 2) := by decide +kernel
theorem dX4_lay_80 : decode cX4_lay 80 = .ok (.iload 5, 2) := by decide +kernel
theorem dX4_lay_82 : decode cX4_lay 82 = .ok (.iload_n 3, 1) := by decide +kernel
theorem dX4_lay_83 : decode cX4_lay 83 = .ok (.if_icmp .ge 90, 3) := by decide +kernel
theorem dX4_lay_86 : decode cX4_lay 86 = .ok (.iload 5, 2) := by decide +kernel
theorem dX4_lay_88 : decode cX4_lay 88 = .ok (.iconst 3, 1) := by decide +kernel
theorem dX4_lay_89 : decode cX4_lay 89 = .ok (.if_icmp .ge 84, 3) := by decide +kernel
theorem dX4_lay_92 : decode cX4_lay 92 = .ok (.iload 4, 2) := by decide +kernel
theorem dX4_lay_94 : decode cX4_lay 94 = .ok (.iload_n 3, 1) := by decide +kernel
theorem dX4_lay_95 : decode cX4_lay 95 = .ok (.iload 5, 2) := by decide +kernel
theorem dX4_lay_97 : decode cX4_lay 97 = .ok (.invokestatic 51, 3) := by decide +kernel
theorem dX4_lay_100 : decode cX4_lay 100 = .ok (.istore 6, 2) := by decide +kernel
theorem dX4_lay_102 : decode cX4_lay 102 = .ok (.iload 6, 2) := by decide +kernel
theorem dX4_lay_104 : decode cX4_lay 104 = .ok (.aload_n 1, 1) := by decide +kernel
theorem dX4_lay_105 : decode cX4_lay 105 = .ok (.getfield 57, 3) := by decide +kernel
theorem dX4_lay_108 : decode cX4_lay 108 = .ok (.if_icmp .ge 22, 3) := by decide +kernel
theorem dX4_lay_111 : decode cX4_lay 111 = .ok (.iload 5, 2) := by decide +kernel
theorem dX4_lay_113 : decode cX4_lay 113 = .ok (.ifCond .le 19, 3) := by decide +kernel
theorem dX4_lay_116 : decode cX4_lay 116 = .ok (.iload 6, 2) := by decide +kernel
theorem dX4_lay_118 : decode cX4_lay 118 = .ok (.aload_n 0, 1) := by decide +kernel
theorem dX4_lay_119 : decode cX4_lay 119 = .ok (.getfield 27, 3) := by decide +kernel
theorem dX4_lay_122 : decode cX4_lay 122 = .ok (.iload 5, 2) := by decide +kernel
theorem dX4_lay_124 : decode cX4_lay 124 = .ok (.iconst 1, 1) := by decide +kernel
theorem dX4_lay_125 : decode cX4_lay 125 = .ok (.isub, 1) := by decide +kernel
theorem dX4_lay_126 : decode cX4_lay 126 = .ok (.iaload, 1) := by decide +kernel
theorem dX4_lay_127 : decode cX4_lay 127 = .ok (.if_icmp .ge 5, 3) := by decide +kernel
theorem dX4_lay_130 : decode cX4_lay 130 = .ok (.iconst 0, 1) := by decide +kernel
theorem dX4_lay_131 : decode cX4_lay 131 = .ok (.ireturn, 1) := by decide +kernel
theorem dX4_lay_132 : decode cX4_lay 132 = .ok (.aload_n 0, 1) := by decide +kernel
theorem dX4_lay_133 : decode cX4_lay 133 = .ok (.getfield 45, 3) := by decide +kernel
theorem dX4_lay_136 : decode cX4_lay 136 = .ok (.aload_n 1, 1) := by decide +kernel
theorem dX4_lay_137 : decode cX4_lay 137 = .ok (.getfield 61, 3) := by decide +kernel
theorem dX4_lay_140 : decode cX4_lay 140 = .ok (.iload 6, 2) := by decide +kernel
theorem dX4_lay_142 : decode cX4_lay 142 = .ok (.iaload, 1) := by decide +kernel
theorem dX4_lay_143 : decode cX4_lay 143 = .ok (.iadd, 1) := by decide +kernel
theorem dX4_lay_144 : decode cX4_lay 144 = .ok (.bipush 12, 2) := by decide +kernel
theorem dX4_lay_146 : decode cX4_lay 146 = .ok (.if_icmp .le 5, 3) := by decide +kernel
theorem dX4_lay_149 : decode cX4_lay 149 = .ok (.iconst 0, 1) := by decide +kernel
theorem dX4_lay_150 : decode cX4_lay 150 = .ok (.ireturn, 1) := by decide +kernel
theorem dX4_lay_151 : decode cX4_lay 151 = .ok (.aload_n 0, 1) := by decide +kernel
theorem dX4_lay_152 : decode cX4_lay 152 = .ok (.getfield 27, 3) := by decide +kernel
theorem dX4_lay_155 : decode cX4_lay 155 = .ok (.iload 5, 2) := by decide +kernel
theorem dX4_lay_157 : decode cX4_lay 157 = .ok (.iload 6, 2) := by decide +kernel
theorem dX4_lay_159 : decode cX4_lay 159 = .ok (.iastore, 1) := by decide +kernel
theorem dX4_lay_160 : decode cX4_lay 160 = .ok (.aload_n 0, 1) := by decide +kernel
theorem dX4_lay_161 : decode cX4_lay 161 = .ok (.aload_n 1, 1) := by decide +kernel
theorem dX4_lay_162 : decode cX4_lay 162 = .ok (.iload 5, 2) := by decide +kernel
theorem dX4_lay_164 : decode cX4_lay 164 = .ok (.invokevirtual 64, 3) := by decide +kernel
theorem dX4_lay_167 : decode cX4_lay 167 = .ok (.iinc 5 1, 3) := by decide +kernel
theorem dX4_lay_170 : decode cX4_lay 170 = .ok (.goto (-90), 3) := by decide +kernel
theorem dX4_lay_173 : decode cX4_lay 173 = .ok (.aload_n 0, 1) := by decide +kernel
theorem dX4_lay_174 : decode cX4_lay 174 = .ok (.getfield 45, 3) := by decide +kernel
theorem dX4_lay_177 : decode cX4_lay 177 = .ok (.iconst 2, 1) := by decide +kernel
theorem dX4_lay_178 : decode cX4_lay 178 = .ok (.irem, 1) := by decide +kernel
theorem dX4_lay_179 : decode cX4_lay 179 = .ok (.ifCond .eq 5, 3) := by decide +kernel
theorem dX4_lay_182 : decode cX4_lay 182 = .ok (.iconst 0, 1) := by decide +kernel
theorem dX4_lay_183 : decode cX4_lay 183 = .ok (.ireturn, 1) := by decide +kernel
theorem dX4_lay_184 : decode cX4_lay 184 = .ok (.aload_n 0, 1) := by decide +kernel
theorem dX4_lay_185 : decode cX4_lay 185 = .ok (.aload_n 1, 1) := by decide +kernel
theorem dX4_lay_186 : decode cX4_lay 186 = .ok (.invokevirtual 68, 3) := by decide +kernel
theorem dX4_lay_189 : decode cX4_lay 189 = .ok (.aload_n 0, 1) := by decide +kernel
theorem dX4_lay_190 : decode cX4_lay 190 = .ok (.invokevirtual 72, 3) := by decide +kernel
theorem dX4_lay_193 : decode cX4_lay 193 = .ok (.iconst 1, 1) := by decide +kernel
theorem dX4_lay_194 : decode cX4_lay 194 = .ok (.ireturn, 1) := by decide +kernel
theorem dX4_layPoint_0 : decode cX4_layPoint 0 = .ok (.aload_n 0, 1) := by decide +kernel
theorem dX4_layPoint_1 : decode cX4_layPoint 1 = .ok (.getfield 30, 3) := by decide +kernel
theorem dX4_layPoint_4 : decode cX4_layPoint 4 = .ok (.iload_n 2, 1) := by decide +kernel
theorem dX4_layPoint_5 : decode cX4_layPoint 5 = .ok (.aload_n 0, 1) := by decide +kernel
theorem dX4_layPoint_6 : decode cX4_layPoint 6 = .ok (.getfield 45, 3) := by decide +kernel
theorem dX4_layPoint_9 : decode cX4_layPoint 9 = .ok (.iastore, 1) := by decide +kernel
theorem dX4_layPoint_10 : decode cX4_layPoint 10 = .ok (.aload_n 1, 1) := by decide +kernel
theorem dX4_layPoint_11 : decode cX4_layPoint 11 = .ok (.getfield 61, 3) := by decide +kernel
theorem dX4_layPoint_14 : decode cX4_layPoint 14 = .ok (.aload_n 0, 1) := by decide +kernel
theorem dX4_layPoint_15 : decode cX4_layPoint 15 = .ok (.getfield 27, 3) := by decide +kernel
theorem dX4_layPoint_18 : decode cX4_layPoint 18 = .ok (.iload_n 2, 1) := by decide +kernel
theorem dX4_layPoint_19 : decode cX4_layPoint 19 = .ok (.iaload, 1) := by decide +kernel
theorem dX4_layPoint_20 : decode cX4_layPoint 20 = .ok (.iaload, 1) := by decide +kernel
theorem dX4_layPoint_21 : decode cX4_layPoint 21 = .ok (.istore_n 3, 1) := by decide +kernel
theorem dX4_layPoint_22 : decode cX4_layPoint 22 = .ok (.iconst 0, 1) := by decide +kernel
theorem dX4_layPoint_23 : decode cX4_layPoint 23 = .ok (.istore 4, 2) := by decide +kernel
theorem dX4_layPoint_25 : decode cX4_layPoint 25 = .ok (.iload 4, 2) := by decide +kernel
theorem dX4_layPoint_27 : decode cX4_layPoint 27 = .ok (.iload_n 3, 1) := by decide +kernel
theorem dX4_layPoint_28 : decode cX4_layPoint 28 = .ok (.if_icmp .ge 116, 3) := by decide +kernel
theorem dX4_layPoint_31 : decode cX4_layPoint 31 = .ok (.aload_n 0, 1) := by decide +kernel
theorem dX4_layPoint_32 : decode cX4_layPoint 32 = .ok (.getfield 45, 3) := by decide +kernel
theorem dX4_layPoint_35 : decode cX4_layPoint 35 = .ok (.bipush 12, 2) := by decide +kernel
theorem dX4_layPoint_37 : decode cX4_layPoint 37 = .ok (.if_icmp .ge 107, 3) := by decide +kernel
theorem dX4_layPoint_40 : decode cX4_layPoint 40 = .ok (.aload_n 0, 1) := by decide +kernel
theorem dX4_layPoint_41 : decode cX4_layPoint 41 = .ok (.getfield 9, 3) := by decide +kernel
theorem dX4_layPoint_44 : decode cX4_layPoint 44 = .ok (.aload_n 0, 1) := by decide +kernel
theorem dX4_layPoint_45 : decode cX4_layPoint 45 = .ok (.getfield 45, 3) := by decide +kernel
theorem dX4_layPoint_48 : decode cX4_layPoint 48 = .ok (.aload_n 1, 1) := by decide +kernel
theorem dX4_layPoint_49 : decode cX4_layPoint 49 = .ok (.getfield 75, 3) := by decide +kernel
theorem dX4_layPoint_52 : decode cX4_layPoint 52 = .ok (.aload_n 0, 1) := by decide +kernel
theorem dX4_layPoint_53 : decode cX4_layPoint 53 = .ok (.getfield 27, 3) := by decide +kernel
theorem dX4_layPoint_56 : decode cX4_layPoint 56 = .ok (.iload_n 2, 1) := by decide +kernel
theorem dX4_layPoint_57 : decode cX4_layPoint 57 = .ok (.iaload, 1) := by decide +kernel
theorem dX4_layPoint_58 : decode cX4_layPoint 58 = .ok (.iconst 4, 1) := by decide +kernel
theorem dX4_layPoint_59 : decode cX4_layPoint 59 = .ok (.imul, 1) := by decide +kernel
theorem dX4_layPoint_60 : decode cX4_layPoint 60 = .ok (.iload 4, 2) := by decide +kernel
theorem dX4_layPoint_62 : decode cX4_layPoint 62 = .ok (.iadd, 1) := by decide +kernel
theorem dX4_layPoint_63 : decode cX4_layPoint 63 = .ok (.iaload, 1) := by decide +kernel
theorem dX4_layPoint_64 : decode cX4_layPoint 64 = .ok (.iastore, 1) := by decide +kernel
theorem dX4_layPoint_65 : decode cX4_layPoint 65 = .ok (.aload_n 0, 1) := by decide +kernel
theorem dX4_layPoint_66 : decode cX4_layPoint 66 = .ok (.getfield 15, 3) := by decide +kernel
theorem dX4_layPoint_69 : decode cX4_layPoint 69 = .ok (.aload_n 0, 1) := by decide +kernel
theorem dX4_layPoint_70 : decode cX4_layPoint 70 = .ok (.getfield 45, 3) := by decide +kernel
theorem dX4_layPoint_73 : decode cX4_layPoint 73 = .ok (.iload_n 2, 1) := by decide +kernel
theorem dX4_layPoint_74 : decode cX4_layPoint 74 = .ok (.iastore, 1) := by decide +kernel
theorem dX4_layPoint_75 : decode cX4_layPoint 75 = .ok (.aload_n 0, 1) := by decide +kernel
theorem dX4_layPoint_76 : decode cX4_layPoint 76 = .ok (.getfield 30, 3) := by decide +kernel
theorem dX4_layPoint_79 : decode cX4_layPoint 79 = .ok (.iload_n 2, 1) := by decide +kernel
theorem dX4_layPoint_80 : decode cX4_layPoint 80 = .ok (.iaload, 1) := by decide +kernel
theorem dX4_layPoint_81 : decode cX4_layPoint 81 = .ok (.istore 5, 2) := by decide +kernel
theorem dX4_layPoint_83 : decode cX4_layPoint 83 = .ok (.iload 5, 2) := by decide +kernel
theorem dX4_layPoint_85 : decode cX4_layPoint 85 = .ok (.aload_n 0, 1) := by decide +kernel
theorem dX4_layPoint_86 : decode cX4_layPoint 86 = .ok (.getfield 45, 3) := by decide +kernel
theorem dX4_layPoint_89 : decode cX4_layPoint 89 = .ok (.if_icmp .ge 28, 3) := by decide +kernel
theorem dX4_layPoint_92 : decode cX4_layPoint 92 = .ok (.aload_n 0, 1) := by decide +kernel
theorem dX4_layPoint_93 : decode cX4_layPoint 93 = .ok (.getfield 9, 3) := by decide +kernel
theorem dX4_layPoint_96 : decode cX4_layPoint 96 = .ok (.iload 5, 2) := by decide +kernel
theorem dX4_layPoint_98 : decode cX4_layPoint 98 = .ok (.iaload, 1) := by decide +kernel
theorem dX4_layPoint_99 : decode cX4_layPoint 99 = .ok (.aload_n 0, 1) := by decide +kernel
theorem dX4_layPoint_100 : decode cX4_layPoint 100 = .ok (.getfield 9, 3) := by decide +kernel
theorem dX4_layPoint_103 : decode cX4_layPoint 103 = .ok (.aload_n 0, 1) := by decide +kernel
theorem dX4_layPoint_104 : decode cX4_layPoint 104 = .ok (.getfield 45, 3) := by decide +kernel
theorem dX4_layPoint_107 : decode cX4_layPoint 107 = .ok (.iaload, 1) := by decide +kernel
theorem dX4_layPoint_108 : decode cX4_layPoint 108 = .ok (.if_icmp .eq 9, 3) := by decide +kernel
theorem dX4_layPoint_111 : decode cX4_layPoint 111 = .ok (.iinc 5 1, 3) := by decide +kernel
theorem dX4_layPoint_114 : decode cX4_layPoint 114 = .ok (.goto (-31), 3) := by decide +kernel
theorem dX4_layPoint_117 : decode cX4_layPoint 117 = .ok (.aload_n 0, 1) := by decide +kernel
theorem dX4_layPoint_118 : decode cX4_layPoint 118 = .ok (.getfield 18, 3) := by decide +kernel
theorem dX4_layPoint_121 : decode cX4_layPoint 121 = .ok (.aload_n 0, 1) := by decide +kernel
theorem dX4_layPoint_122 : decode cX4_layPoint 122 = .ok (.getfield 45, 3) := by decide +kernel
theorem dX4_layPoint_125 : decode cX4_layPoint 125 = .ok (.iload 5, 2) := by decide +kernel
theorem dX4_layPoint_127 : decode cX4_layPoint 127 = .ok (.iastore, 1) := by decide +kernel
theorem dX4_layPoint_128 : decode cX4_layPoint 128 = .ok (.aload_n 0, 1) := by decide +kernel
theorem dX4_layPoint_129 : decode cX4_layPoint 129 = .ok (.dup, 1) := by decide +kernel
theorem dX4_layPoint_130 : decode cX4_layPoint 130 = .ok (.getfield 45, 3) := by decide +kernel
theorem dX4_layPoint_133 : decode cX4_layPoint 133 = .ok (.iconst 1, 1) := by decide +kernel
theorem dX4_layPoint_134 : decode cX4_layPoint 134 = .ok (.iadd, 1) := by decide +kernel
theorem dX4_layPoint_135 : decode cX4_layPoint 135 = .ok (.putfield 45, 3) := by decide +kernel
theorem dX4_layPoint_138 : decode cX4_layPoint 138 = .ok (.iinc 4 1, 3) := by decide +kernel
theorem dX4_layPoint_141 : decode cX4_layPoint 141 = .ok (.goto (-116), 3) := by decide +kernel
theorem dX4_layPoint_144 : decode cX4_layPoint 144 = .ok (.return_, 1) := by decide +kernel
theorem dX4_markKinds_0 : decode cX4_markKinds 0 = .ok (.aload_n 0, 1) := by decide +kernel
theorem dX4_markKinds_1 : decode cX4_markKinds 1 = .ok (.iconst 0, 1) := by decide +kernel
theorem dX4_markKinds_2 : decode cX4_markKinds 2 = .ok (.putfield 76, 3) := by decide +kernel
theorem dX4_markKinds_5 : decode cX4_markKinds 5 = .ok (.aload_n 0, 1) := by decide +kernel
theorem dX4_markKinds_6 : decode cX4_markKinds 6 = .ok (.iconst 0, 1) := by decide +kernel
theorem dX4_markKinds_7 : decode cX4_markKinds 7 = .ok (.putfield 79, 3) := by decide +kernel
theorem dX4_markKinds_10 : decode cX4_markKinds 10 = .ok (.iconst 0, 1) := by decide +kernel
theorem dX4_markKinds_11 : decode cX4_markKinds 11 = .ok (.istore_n 2, 1) := by decide +kernel
theorem dX4_markKinds_12 : decode cX4_markKinds 12 = .ok (.iload_n 2, 1) := by decide +kernel
theorem dX4_markKinds_13 : decode cX4_markKinds 13 = .ok (.aload_n 0, 1) := by decide +kernel
theorem dX4_markKinds_14 : decode cX4_markKinds 14 = .ok (.getfield 45, 3) := by decide +kernel
theorem dX4_markKinds_17 : decode cX4_markKinds 17 = .ok (.if_icmp .ge 179, 3) := by decide +kernel
theorem dX4_markKinds_20 : decode cX4_markKinds 20 = .ok (.aload_n 0, 1) := by decide +kernel
theorem dX4_markKinds_21 : decode cX4_markKinds 21 = .ok (.getfield 9, 3) := by decide +kernel
theorem dX4_markKinds_24 : decode cX4_markKinds 24 = .ok (.iload_n 2, 1) := by decide +kernel
theorem dX4_markKinds_25 : decode cX4_markKinds 25 = .ok (.iaload, 1) := by decide +kernel
theorem dX4_markKinds_26 : decode cX4_markKinds 26 = .ok (.istore_n 3, 1) := by decide +kernel
theorem dX4_markKinds_27 : decode cX4_markKinds 27 = .ok (.aload_n 1, 1) := by decide +kernel
theorem dX4_markKinds_28 : decode cX4_markKinds 28 = .ok (.getfield 82, 3) := by decide +kernel
theorem dX4_markKinds_31 : decode cX4_markKinds 31 = .ok (.iload_n 3, 1) := by decide +kernel
theorem dX4_markKinds_32 : decode cX4_markKinds 32 = .ok (.iaload, 1) := by decide +kernel
theorem dX4_markKinds_33 : decode cX4_markKinds 33 = .ok (.istore 4, 2) := by decide +kernel
theorem dX4_markKinds_35 : decode cX4_markKinds 35 = .ok (.aload_n 0, 1) := by decide +kernel
theorem dX4_markKinds_36 : decode cX4_markKinds 36 = .ok (.dup, 1) := by decide +kernel
theorem dX4_markKinds_37 : decode cX4_markKinds 37 = .ok (.getfield 76, 3) := by decide +kernel
theorem dX4_markKinds_40 : decode cX4_markKinds 40 = .ok (.aload_n 1, 1) := by decide +kernel
theorem dX4_markKinds_41 : decode cX4_markKinds 41 = .ok (.iload_n 3, 1) := by decide +kernel
theorem dX4_markKinds_42 : decode cX4_markKinds 42 = .ok (.invokevirtual 85, 3) := by decide +kernel
theorem dX4_markKinds_45 : decode cX4_markKinds 45 = .ok (.ifCond .eq 9, 3) := by decide +kernel
theorem dX4_markKinds_48 : decode cX4_markKinds 48 = .ok (.iconst 1, 1) := by decide +kernel
theorem dX4_markKinds_49 : decode cX4_markKinds 49 = .ok (.iload_n 2, 1) := by decide +kernel
theorem dX4_markKinds_50 : decode cX4_markKinds 50 = .ok (.ishl, 1) := by decide +kernel
theorem dX4_markKinds_51 : decode cX4_markKinds 51 = .ok (.goto 4, 3) := by decide +kernel
theorem dX4_markKinds_54 : decode cX4_markKinds 54 = .ok (.iconst 0, 1) := by decide +kernel
theorem dX4_markKinds_55 : decode cX4_markKinds 55 = .ok (.ior, 1) := by decide +kernel
theorem dX4_markKinds_56 : decode cX4_markKinds 56 = .ok (.putfield 76, 3) := by decide +kernel
theorem dX4_markKinds_59 : decode cX4_markKinds 59 = .ok (.aload_n 0, 1) := by decide +kernel
theorem dX4_markKinds_60 : decode cX4_markKinds 60 = .ok (.dup, 1) := by decide +kernel
theorem dX4_markKinds_61 : decode cX4_markKinds 61 = .ok (.getfield 79, 3) := by decide +kernel
theorem dX4_markKinds_64 : decode cX4_markKinds 64 = .ok (.iload 4, 2) := by decide +kernel
theorem dX4_markKinds_66 : decode cX4_markKinds 66 = .ok (.iload_n 3, 1) := by decide +kernel
theorem dX4_markKinds_67 : decode cX4_markKinds 67 = .ok (.if_icmp .ge 9, 3) := by decide +kernel
theorem dX4_markKinds_70 : decode cX4_markKinds 70 = .ok (.iconst 1, 1) := by decide +kernel
theorem dX4_markKinds_71 : decode cX4_markKinds 71 = .ok (.iload_n 2, 1) := by decide +kernel
theorem dX4_markKinds_72 : decode cX4_markKinds 72 = .ok (.ishl, 1) := by decide +kernel
theorem dX4_markKinds_73 : decode cX4_markKinds 73 = .ok (.goto 4, 3) := by decide +kernel
theorem dX4_markKinds_76 : decode cX4_markKinds 76 = .ok (.iconst 0, 1) := by decide +kernel
theorem dX4_markKinds_77 : decode cX4_markKinds 77 = .ok (.ior, 1) := by decide +kernel
theorem dX4_markKinds_78 : decode cX4_markKinds 78 = .ok (.putfield 79, 3) := by decide +kernel
theorem dX4_markKinds_81 : decode cX4_markKinds 81 = .ok (.aload_n 0, 1) := by decide +kernel
theorem dX4_markKinds_82 : decode cX4_markKinds 82 = .ok (.getfield 24, 3) := by decide +kernel
theorem dX4_markKinds_85 : decode cX4_markKinds 85 = .ok (.iload_n 2, 1) := by decide +kernel
theorem dX4_markKinds_86 : decode cX4_markKinds 86 = .ok (.iconst 0, 1) := by decide +kernel
theorem dX4_markKinds_87 : decode cX4_markKinds 87 = .ok (.iastore, 1) := by decide +kernel
theorem dX4_markKinds_88 : decode cX4_markKinds 88 = .ok (.aload_n 0, 1) := by decide +kernel
theorem dX4_markKinds_89 : decode cX4_markKinds 89 = .ok (.getfield 21, 3) := by decide +kernel
theorem dX4_markKinds_92 : decode cX4_markKinds 92 = .ok (.iload_n 2, 1) := by decide +kernel
theorem dX4_markKinds_93 : decode cX4_markKinds 93 = .ok (.iconst 0, 1) := by decide +kernel
theorem dX4_markKinds_94 : decode cX4_markKinds 94 = .ok (.iastore, 1) := by decide +kernel
theorem dX4_markKinds_95 : decode cX4_markKinds 95 = .ok (.iconst 0, 1) := by decide +kernel
theorem dX4_markKinds_96 : decode cX4_markKinds 96 = .ok (.istore 5, 2) := by decide +kernel
theorem dX4_markKinds_98 : decode cX4_markKinds 98 = .ok (.iload 5, 2) := by decide +kernel
theorem dX4_markKinds_100 : decode cX4_markKinds 100 = .ok (.aload_n 0, 1) := by decide +kernel
theorem dX4_markKinds_101 : decode cX4_markKinds 101 = .ok (.getfield 45, 3) := by decide +kernel
theorem dX4_markKinds_104 : decode cX4_markKinds 104 = .ok (.if_icmp .ge 86, 3) := by decide +kernel
theorem dX4_markKinds_107 : decode cX4_markKinds 107 = .ok (.iload 5, 2) := by decide +kernel
theorem dX4_markKinds_109 : decode cX4_markKinds 109 = .ok (.iload_n 2, 1) := by decide +kernel
theorem dX4_markKinds_110 : decode cX4_markKinds 110 = .ok (.if_icmp .eq 45, 3) := by decide +kernel
theorem dX4_markKinds_113 : decode cX4_markKinds 113 = .ok (.aload_n 0, 1) := by decide +kernel
theorem dX4_markKinds_114 : decode cX4_markKinds 114 = .ok (.getfield 9, 3) := by decide +kernel
theorem dX4_markKinds_117 : decode cX4_markKinds 117 = .ok (.iload 5, 2) := by decide +kernel
theorem dX4_markKinds_119 : decode cX4_markKinds 119 = .ok (.iaload, 1) := by decide +kernel
theorem dX4_markKinds_120 : decode cX4_markKinds 120 = .ok (.iload 4, 2) := by decide +kernel
theorem dX4_markKinds_122 : decode cX4_markKinds 122 = .ok (.if_icmp .ne 33, 3) := by decide +kernel
theorem dX4_markKinds_125 : decode cX4_markKinds 125 = .ok (.iload_n 2, 1) := by decide +kernel
theorem dX4_markKinds_126 : decode cX4_markKinds 126 = .ok (.aload_n 0, 1) := by decide +kernel
theorem dX4_markKinds_127 : decode cX4_markKinds 127 = .ok (.getfield 42, 3) := by decide +kernel
theorem dX4_markKinds_130 : decode cX4_markKinds 130 = .ok (.if_icmp .ge 12, 3) := by decide +kernel
theorem dX4_markKinds_133 : decode cX4_markKinds 133 = .ok (.iload 5, 2) := by decide +kernel
theorem dX4_markKinds_135 : decode cX4_markKinds 135 = .ok (.aload_n 0, 1) := by decide +kernel
theorem dX4_markKinds_136 : decode cX4_markKinds 136 = .ok (.getfield 42, 3) := by decide +kernel
theorem dX4_markKinds_139 : decode cX4_markKinds 139 = .ok (.if_icmp .lt 16, 3) := by decide +kernel
theorem dX4_markKinds_142 : decode cX4_markKinds 142 = .ok (.aload_n 0, 1) := by decide +kernel
theorem dX4_markKinds_143 : decode cX4_markKinds 143 = .ok (.getfield 24, 3) := by decide +kernel
theorem dX4_markKinds_146 : decode cX4_markKinds 146 = .ok (.iload_n 2, 1) := by decide +kernel
theorem dX4_markKinds_147 : decode cX4_markKinds 147 = .ok (.dup2, 1) := by decide +kernel
theorem dX4_markKinds_148 : decode cX4_markKinds 148 = .ok (.iaload, 1) := by decide +kernel
theorem dX4_markKinds_149 : decode cX4_markKinds 149 = .ok (.iconst 1, 1) := by decide +kernel
theorem dX4_markKinds_150 : decode cX4_markKinds 150 = .ok (.iload 5, 2) := by decide +kernel
theorem dX4_markKinds_152 : decode cX4_markKinds 152 = .ok (.ishl, 1) := by decide +kernel
theorem dX4_markKinds_153 : decode cX4_markKinds 153 = .ok (.ior, 1) := by decide +kernel
theorem dX4_markKinds_154 : decode cX4_markKinds 154 = .ok (.iastore, 1) := by decide +kernel
theorem dX4_markKinds_155 : decode cX4_markKinds 155 = .ok (.aload_n 0, 1) := by decide +kernel
theorem dX4_markKinds_156 : decode cX4_markKinds 156 = .ok (.getfield 18, 3) := by decide +kernel
theorem dX4_markKinds_159 : decode cX4_markKinds 159 = .ok (.iload 5, 2) := by decide +kernel
theorem dX4_markKinds_161 : decode cX4_markKinds 161 = .ok (.iaload, 1) := by decide +kernel
theorem dX4_markKinds_162 : decode cX4_markKinds 162 = .ok (.aload_n 0, 1) := by decide +kernel
theorem dX4_markKinds_163 : decode cX4_markKinds 163 = .ok (.getfield 18, 3) := by decide +kernel
theorem dX4_markKinds_166 : decode cX4_markKinds 166 = .ok (.iload_n 2, 1) := by decide +kernel
theorem dX4_markKinds_167 : decode cX4_markKinds 167 = .ok (.iaload, 1) := by decide +kernel
theorem dX4_markKinds_168 : decode cX4_markKinds 168 = .ok (.if_icmp .ne 16, 3) := by decide +kernel
theorem dX4_markKinds_171 : decode cX4_markKinds 171 = .ok (.aload_n 0, 1) := by decide +kernel
theorem dX4_markKinds_172 : decode cX4_markKinds 172 = .ok (.getfield 21, 3) := by decide +kernel
theorem dX4_markKinds_175 : decode cX4_markKinds 175 = .ok (.iload_n 2, 1) := by decide +kernel
theorem dX4_markKinds_176 : decode cX4_markKinds 176 = .ok (.dup2, 1) := by decide +kernel
theorem dX4_markKinds_177 : decode cX4_markKinds 177 = .ok (.iaload, 1) := by decide +kernel
theorem dX4_markKinds_178 : decode cX4_markKinds 178 = .ok (.iconst 1, 1) := by decide +kernel
theorem dX4_markKinds_179 : decode cX4_markKinds 179 = .ok (.iload 5, 2) := by decide +kernel
theorem dX4_markKinds_181 : decode cX4_markKinds 181 = .ok (.ishl, 1) := by decide +kernel
theorem dX4_markKinds_182 : decode cX4_markKinds 182 = .ok (.ior, 1) := by decide +kernel
theorem dX4_markKinds_183 : decode cX4_markKinds 183 = .ok (.iastore, 1) := by decide +kernel
theorem dX4_markKinds_184 : decode cX4_markKinds 184 = .ok (.iinc 5 1, 3) := by decide +kernel
theorem dX4_markKinds_187 : decode cX4_markKinds 187 = .ok (.goto (-89), 3) := by decide +kernel
theorem dX4_markKinds_190 : decode cX4_markKinds 190 = .ok (.iinc 2 1, 3) := by decide +kernel
theorem dX4_markKinds_193 : decode cX4_markKinds 193 = .ok (.goto (-181), 3) := by decide +kernel
theorem dX4_markKinds_196 : decode cX4_markKinds 196 = .ok (.return_, 1) := by decide +kernel
theorem dX4_countNamings_0 : decode cX4_countNamings 0 = .ok (.aload_n 0, 1) := by decide +kernel
theorem dX4_countNamings_1 : decode cX4_countNamings 1 = .ok (.iconst 1, 1) := by decide +kernel
theorem dX4_countNamings_2 : decode cX4_countNamings 2 = .ok (.putfield 89, 3) := by decide +kernel
theorem dX4_countNamings_5 : decode cX4_countNamings 5 = .ok (.iconst 0, 1) := by decide +kernel
theorem dX4_countNamings_6 : decode cX4_countNamings 6 = .ok (.istore_n 1, 1) := by decide +kernel
theorem dX4_countNamings_7 : decode cX4_countNamings 7 = .ok (.iconst 0, 1) := by decide +kernel
theorem dX4_countNamings_8 : decode cX4_countNamings 8 = .ok (.istore_n 2, 1) := by decide +kernel
theorem dX4_countNamings_9 : decode cX4_countNamings 9 = .ok (.iload_n 2, 1) := by decide +kernel
theorem dX4_countNamings_10 : decode cX4_countNamings 10 = .ok (.aload_n 0, 1) := by decide +kernel
theorem dX4_countNamings_11 : decode cX4_countNamings 11 = .ok (.getfield 33, 3) := by decide +kernel
theorem dX4_countNamings_14 : decode cX4_countNamings 14 = .ok (.if_icmp .ge 35, 3) := by decide +kernel
theorem dX4_countNamings_17 : decode cX4_countNamings 17 = .ok (.aload_n 0, 1) := by decide +kernel
theorem dX4_countNamings_18 : decode cX4_countNamings 18 = .ok (.iload_n 2, 1) := by decide +kernel
theorem dX4_countNamings_19 : decode cX4_countNamings 19 = .ok (.invokevirtual 92, 3) := by decide +kernel
theorem dX4_countNamings_22 : decode cX4_countNamings 22 = .ok (.ifCond .eq 9, 3) := by decide +kernel
theorem dX4_countNamings_25 : decode cX4_countNamings 25 = .ok (.iload_n 1, 1) := by decide +kernel
theorem dX4_countNamings_26 : decode cX4_countNamings 26 = .ok (.iconst 1, 1) := by decide +kernel
theorem dX4_countNamings_27 : decode cX4_countNamings 27 = .ok (.iadd, 1) := by decide +kernel
theorem dX4_countNamings_28 : decode cX4_countNamings 28 = .ok (.goto 4, 3) := by decide +kernel
theorem dX4_countNamings_31 : decode cX4_countNamings 31 = .ok (.iconst 1, 1) := by decide +kernel
theorem dX4_countNamings_32 : decode cX4_countNamings 32 = .ok (.istore_n 1, 1) := by decide +kernel
theorem dX4_countNamings_33 : decode cX4_countNamings 33 = .ok (.aload_n 0, 1) := by decide +kernel
theorem dX4_countNamings_34 : decode cX4_countNamings 34 = .ok (.dup, 1) := by decide +kernel
theorem dX4_countNamings_35 : decode cX4_countNamings 35 = .ok (.getfield 89, 3) := by decide +kernel
theorem dX4_countNamings_38 : decode cX4_countNamings 38 = .ok (.iload_n 1, 1) := by decide +kernel
theorem dX4_countNamings_39 : decode cX4_countNamings 39 = .ok (.imul, 1) := by decide +kernel
theorem dX4_countNamings_40 : decode cX4_countNamings 40 = .ok (.putfield 89, 3) := by decide +kernel
theorem dX4_countNamings_43 : decode cX4_countNamings 43 = .ok (.iinc 2 1, 3) := by decide +kernel
theorem dX4_countNamings_46 : decode cX4_countNamings 46 = .ok (.goto (-37), 3) := by decide +kernel
theorem dX4_countNamings_49 : decode cX4_countNamings 49 = .ok (.aload_n 0, 1) := by decide +kernel
theorem dX4_countNamings_50 : decode cX4_countNamings 50 = .ok (.getfield 42, 3) := by decide +kernel
theorem dX4_countNamings_53 : decode cX4_countNamings 53 = .ok (.istore_n 2, 1) := by decide +kernel
theorem dX4_countNamings_54 : decode cX4_countNamings 54 = .ok (.iload_n 2, 1) := by decide +kernel
theorem dX4_countNamings_55 : decode cX4_countNamings 55 = .ok (.aload_n 0, 1) := by decide +kernel
theorem dX4_countNamings_56 : decode cX4_countNamings 56 = .ok (.getfield 45, 3) := by decide +kernel
theorem dX4_countNamings_59 : decode cX4_countNamings 59 = .ok (.if_icmp .ge 33, 3) := by decide +kernel
theorem dX4_countNamings_62 : decode cX4_countNamings 62 = .ok (.aload_n 0, 1) := by decide +kernel
theorem dX4_countNamings_63 : decode cX4_countNamings 63 = .ok (.dup, 1) := by decide +kernel
theorem dX4_countNamings_64 : decode cX4_countNamings 64 = .ok (.getfield 89, 3) := by decide +kernel
theorem dX4_countNamings_67 : decode cX4_countNamings 67 = .ok (.aload_n 0, 1) := by decide +kernel
theorem dX4_countNamings_68 : decode cX4_countNamings 68 = .ok (.getfield 21, 3) := by decide +kernel
theorem dX4_countNamings_71 : decode cX4_countNamings 71 = .ok (.iload_n 2, 1) := by decide +kernel
theorem dX4_countNamings_72 : decode cX4_countNamings 72 = .ok (.iaload, 1) := by decide +kernel
theorem dX4_countNamings_73 : decode cX4_countNamings 73 = .ok (.iconst 2, 1) := by decide +kernel
theorem dX4_countNamings_74 : decode cX4_countNamings 74 = .ok (.iload_n 2, 1) := by decide +kernel
theorem dX4_countNamings_75 : decode cX4_countNamings 75 = .ok (.ishl, 1) := by decide +kernel
theorem dX4_countNamings_76 : decode cX4_countNamings 76 = .ok (.iconst 1, 1) := by decide +kernel
theorem dX4_countNamings_77 : decode cX4_countNamings 77 = .ok (.isub, 1) := by decide +kernel
theorem dX4_countNamings_78 : decode cX4_countNamings 78 = .ok (.iand, 1) := by decide +kernel
theorem dX4_countNamings_79 : decode cX4_countNamings 79 = .ok (.invokestatic 95, 3) := by decide +kernel
theorem dX4_countNamings_82 : decode cX4_countNamings 82 = .ok (.imul, 1) := by decide +kernel
theorem dX4_countNamings_83 : decode cX4_countNamings 83 = .ok (.putfield 89, 3) := by decide +kernel
theorem dX4_countNamings_86 : decode cX4_countNamings 86 = .ok (.iinc 2 1, 3) := by decide +kernel
theorem dX4_countNamings_89 : decode cX4_countNamings 89 = .ok (.goto (-35), 3) := by decide +kernel
theorem dX4_countNamings_92 : decode cX4_countNamings 92 = .ok (.return_, 1) := by decide +kernel
theorem dX4_followsAlike_0 : decode cX4_followsAlike 0 = .ok (.iload_n 1, 1) := by decide +kernel
theorem dX4_followsAlike_1 : decode cX4_followsAlike 1 = .ok (.ifCond .le 32, 3) := by decide +kernel
theorem dX4_followsAlike_4 : decode cX4_followsAlike 4 = .ok (.iload_n 1, 1) := by decide +kernel
theorem dX4_followsAlike_5 : decode cX4_followsAlike 5 = .ok (.aload_n 0, 1) := by decide +kernel
theorem dX4_followsAlike_6 : decode cX4_followsAlike 6 = .ok (.getfield 33, 3) := by decide +kernel
theorem dX4_followsAlike_9 : decode cX4_followsAlike 9 = .ok (.if_icmp .ge 24, 3) := by decide +kernel
theorem dX4_followsAlike_12 : decode cX4_followsAlike 12 = .ok (.aload_n 0, 1) := by decide +kernel
theorem dX4_followsAlike_13 : decode cX4_followsAlike 13 = .ok (.getfield 27, 3) := by decide +kernel
theorem dX4_followsAlike_16 : decode cX4_followsAlike 16 = .ok (.iload_n 1, 1) := by decide +kernel
theorem dX4_followsAlike_17 : decode cX4_followsAlike 17 = .ok (.iaload, 1) := by decide +kernel
theorem dX4_followsAlike_18 : decode cX4_followsAlike 18 = .ok (.aload_n 0, 1) := by decide +kernel
theorem dX4_followsAlike_19 : decode cX4_followsAlike 19 = .ok (.getfield 27, 3) := by decide +kernel
theorem dX4_followsAlike_22 : decode cX4_followsAlike 22 = .ok (.iload_n 1, 1) := by decide +kernel
theorem dX4_followsAlike_23 : decode cX4_followsAlike 23 = .ok (.iconst 1, 1) := by decide +kernel
theorem dX4_followsAlike_24 : decode cX4_followsAlike 24 = .ok (.isub, 1) := by decide +kernel
theorem dX4_followsAlike_25 : decode cX4_followsAlike 25 = .ok (.iaload, 1) := by decide +kernel
theorem dX4_followsAlike_26 : decode cX4_followsAlike 26 = .ok (.if_icmp .ne 7, 3) := by decide +kernel
theorem dX4_followsAlike_29 : decode cX4_followsAlike 29 = .ok (.iconst 1, 1) := by decide +kernel
theorem dX4_followsAlike_30 : decode cX4_followsAlike 30 = .ok (.goto 4, 3) := by decide +kernel
theorem dX4_followsAlike_33 : decode cX4_followsAlike 33 = .ok (.iconst 0, 1) := by decide +kernel
theorem dX4_followsAlike_34 : decode cX4_followsAlike 34 = .ok (.ireturn, 1) := by decide +kernel
theorem dX4_allLegs_0 : decode cX4_allLegs 0 = .ok (.iconst 1, 1) := by decide +kernel
theorem dX4_allLegs_1 : decode cX4_allLegs 1 = .ok (.aload_n 0, 1) := by decide +kernel
theorem dX4_allLegs_2 : decode cX4_allLegs 2 = .ok (.getfield 45, 3) := by decide +kernel
theorem dX4_allLegs_5 : decode cX4_allLegs 5 = .ok (.ishl, 1) := by decide +kernel
theorem dX4_allLegs_6 : decode cX4_allLegs 6 = .ok (.iconst 1, 1) := by decide +kernel
theorem dX4_allLegs_7 : decode cX4_allLegs 7 = .ok (.isub, 1) := by decide +kernel
theorem dX4_allLegs_8 : decode cX4_allLegs 8 = .ok (.ireturn, 1) := by decide +kernel
theorem dX4_pointBit_0 : decode cX4_pointBit 0 = .ok (.aload_n 0, 1) := by decide +kernel
theorem dX4_pointBit_1 : decode cX4_pointBit 1 = .ok (.getfield 15, 3) := by decide +kernel
theorem dX4_pointBit_4 : decode cX4_pointBit 4 = .ok (.iload_n 1, 1) := by decide +kernel
theorem dX4_pointBit_5 : decode cX4_pointBit 5 = .ok (.iaload, 1) := by decide +kernel
theorem dX4_pointBit_6 : decode cX4_pointBit 6 = .ok (.ifCond .ge 7, 3) := by decide +kernel
theorem dX4_pointBit_9 : decode cX4_pointBit 9 = .ok (.iconst 0, 1) := by decide +kernel
theorem dX4_pointBit_10 : decode cX4_pointBit 10 = .ok (.goto 11, 3) := by decide +kernel
theorem dX4_pointBit_13 : decode cX4_pointBit 13 = .ok (.iconst 1, 1) := by decide +kernel
theorem dX4_pointBit_14 : decode cX4_pointBit 14 = .ok (.aload_n 0, 1) := by decide +kernel
theorem dX4_pointBit_15 : decode cX4_pointBit 15 = .ok (.getfield 15, 3) := by decide +kernel
theorem dX4_pointBit_18 : decode cX4_pointBit 18 = .ok (.iload_n 1, 1) := by decide +kernel
theorem dX4_pointBit_19 : decode cX4_pointBit 19 = .ok (.iaload, 1) := by decide +kernel
theorem dX4_pointBit_20 : decode cX4_pointBit 20 = .ok (.ishl, 1) := by decide +kernel
theorem dX4_pointBit_21 : decode cX4_pointBit 21 = .ok (.ireturn, 1) := by decide +kernel
theorem dX4_link_0 : decode cX4_link 0 = .ok (.aload_n 0, 1) := by decide +kernel
theorem dX4_link_1 : decode cX4_link 1 = .ok (.getfield 15, 3) := by decide +kernel
theorem dX4_link_4 : decode cX4_link 4 = .ok (.iload_n 1, 1) := by decide +kernel
theorem dX4_link_5 : decode cX4_link 5 = .ok (.iaload, 1) := by decide +kernel
theorem dX4_link_6 : decode cX4_link 6 = .ok (.istore_n 3, 1) := by decide +kernel
theorem dX4_link_7 : decode cX4_link 7 = .ok (.aload_n 0, 1) := by decide +kernel
theorem dX4_link_8 : decode cX4_link 8 = .ok (.getfield 15, 3) := by decide +kernel
theorem dX4_link_11 : decode cX4_link 11 = .ok (.iload_n 2, 1) := by decide +kernel
theorem dX4_link_12 : decode cX4_link 12 = .ok (.iaload, 1) := by decide +kernel
theorem dX4_link_13 : decode cX4_link 13 = .ok (.istore 4, 2) := by decide +kernel
theorem dX4_link_15 : decode cX4_link 15 = .ok (.iload_n 3, 1) := by decide +kernel
theorem dX4_link_16 : decode cX4_link 16 = .ok (.ifCond .lt 14, 3) := by decide +kernel
theorem dX4_link_19 : decode cX4_link 19 = .ok (.iload 4, 2) := by decide +kernel
theorem dX4_link_21 : decode cX4_link 21 = .ok (.ifCond .lt 9, 3) := by decide +kernel
theorem dX4_link_24 : decode cX4_link 24 = .ok (.iload_n 3, 1) := by decide +kernel
theorem dX4_link_25 : decode cX4_link 25 = .ok (.iload 4, 2) := by decide +kernel
theorem dX4_link_27 : decode cX4_link 27 = .ok (.if_icmp .ne 7, 3) := by decide +kernel
theorem dX4_link_30 : decode cX4_link 30 = .ok (.iconst 0, 1) := by decide +kernel
theorem dX4_link_31 : decode cX4_link 31 = .ok (.goto 11, 3) := by decide +kernel
theorem dX4_link_34 : decode cX4_link 34 = .ok (.iconst 1, 1) := by decide +kernel
theorem dX4_link_35 : decode cX4_link 35 = .ok (.iload_n 3, 1) := by decide +kernel
theorem dX4_link_36 : decode cX4_link 36 = .ok (.iload 4, 2) := by decide +kernel
theorem dX4_link_38 : decode cX4_link 38 = .ok (.iadd, 1) := by decide +kernel
theorem dX4_link_39 : decode cX4_link 39 = .ok (.iconst 1, 1) := by decide +kernel
theorem dX4_link_40 : decode cX4_link 40 = .ok (.isub, 1) := by decide +kernel
theorem dX4_link_41 : decode cX4_link 41 = .ok (.ishl, 1) := by decide +kernel
theorem dX4_link_42 : decode cX4_link 42 = .ok (.ireturn, 1) := by decide +kernel
theorem dX4_hangs_0 : decode cX4_hangs 0 = .ok (.iload_n 1, 1) := by decide +kernel
theorem dX4_hangs_1 : decode cX4_hangs 1 = .ok (.invokestatic 95, 3) := by decide +kernel
theorem dX4_hangs_4 : decode cX4_hangs 4 = .ok (.aload_n 0, 1) := by decide +kernel
theorem dX4_hangs_5 : decode cX4_hangs 5 = .ok (.getfield 33, 3) := by decide +kernel
theorem dX4_hangs_8 : decode cX4_hangs 8 = .ok (.iconst 1, 1) := by decide +kernel
theorem dX4_hangs_9 : decode cX4_hangs 9 = .ok (.isub, 1) := by decide +kernel
theorem dX4_hangs_10 : decode cX4_hangs 10 = .ok (.if_icmp .lt 7, 3) := by decide +kernel
theorem dX4_hangs_13 : decode cX4_hangs 13 = .ok (.iconst 1, 1) := by decide +kernel
theorem dX4_hangs_14 : decode cX4_hangs 14 = .ok (.goto 4, 3) := by decide +kernel
theorem dX4_hangs_17 : decode cX4_hangs 17 = .ok (.iconst 0, 1) := by decide +kernel
theorem dX4_hangs_18 : decode cX4_hangs 18 = .ok (.ireturn, 1) := by decide +kernel
theorem dX4_mayJoin_0 : decode cX4_mayJoin 0 = .ok (.iload_n 3, 1) := by decide +kernel
theorem dX4_mayJoin_1 : decode cX4_mayJoin 1 = .ok (.aload_n 0, 1) := by decide +kernel
theorem dX4_mayJoin_2 : decode cX4_mayJoin 2 = .ok (.getfield 24, 3) := by decide +kernel
theorem dX4_mayJoin_5 : decode cX4_mayJoin 5 = .ok (.iload_n 1, 1) := by decide +kernel
theorem dX4_mayJoin_6 : decode cX4_mayJoin 6 = .ok (.iaload, 1) := by decide +kernel
theorem dX4_mayJoin_7 : decode cX4_mayJoin 7 = .ok (.iand, 1) := by decide +kernel
theorem dX4_mayJoin_8 : decode cX4_mayJoin 8 = .ok (.iload_n 2, 1) := by decide +kernel
theorem dX4_mayJoin_9 : decode cX4_mayJoin 9 = .ok (.ishr, 1) := by decide +kernel
theorem dX4_mayJoin_10 : decode cX4_mayJoin 10 = .ok (.iconst 1, 1) := by decide +kernel
theorem dX4_mayJoin_11 : decode cX4_mayJoin 11 = .ok (.iand, 1) := by decide +kernel
theorem dX4_mayJoin_12 : decode cX4_mayJoin 12 = .ok (.ifCond .eq 7, 3) := by decide +kernel
theorem dX4_mayJoin_15 : decode cX4_mayJoin 15 = .ok (.iconst 1, 1) := by decide +kernel
theorem dX4_mayJoin_16 : decode cX4_mayJoin 16 = .ok (.goto 4, 3) := by decide +kernel
theorem dX4_mayJoin_19 : decode cX4_mayJoin 19 = .ok (.iconst 0, 1) := by decide +kernel
theorem dX4_mayJoin_20 : decode cX4_mayJoin 20 = .ok (.ireturn, 1) := by decide +kernel
theorem dX4_mayLead_0 : decode cX4_mayLead 0 = .ok (.aload_n 0, 1) := by decide +kernel
theorem dX4_mayLead_1 : decode cX4_mayLead 1 = .ok (.iload_n 1, 1) := by decide +kernel
theorem dX4_mayLead_2 : decode cX4_mayLead 2 = .ok (.iload_n 2, 1) := by decide +kernel
theorem dX4_mayLead_3 : decode cX4_mayLead 3 = .ok (.iload_n 3, 1) := by decide +kernel
theorem dX4_mayLead_4 : decode cX4_mayLead 4 = .ok (.invokevirtual 101, 3) := by decide +kernel
theorem dX4_mayLead_7 : decode cX4_mayLead 7 = .ok (.ifCond .eq 20, 3) := by decide +kernel
theorem dX4_mayLead_10 : decode cX4_mayLead 10 = .ok (.iload_n 3, 1) := by decide +kernel
theorem dX4_mayLead_11 : decode cX4_mayLead 11 = .ok (.aload_n 0, 1) := by decide +kernel
theorem dX4_mayLead_12 : decode cX4_mayLead 12 = .ok (.getfield 21, 3) := by decide +kernel
theorem dX4_mayLead_15 : decode cX4_mayLead 15 = .ok (.iload_n 2, 1) := by decide +kernel
theorem dX4_mayLead_16 : decode cX4_mayLead 16 = .ok (.iaload, 1) := by decide +kernel
theorem dX4_mayLead_17 : decode cX4_mayLead 17 = .ok (.iand, 1) := by decide +kernel
theorem dX4_mayLead_18 : decode cX4_mayLead 18 = .ok (.iconst 1, 1) := by decide +kernel
theorem dX4_mayLead_19 : decode cX4_mayLead 19 = .ok (.iload_n 2, 1) := by decide +kernel
theorem dX4_mayLead_20 : decode cX4_mayLead 20 = .ok (.ishl, 1) := by decide +kernel
theorem dX4_mayLead_21 : decode cX4_mayLead 21 = .ok (.iconst 1, 1) := by decide +kernel
theorem dX4_mayLead_22 : decode cX4_mayLead 22 = .ok (.isub, 1) := by decide +kernel
theorem dX4_mayLead_23 : decode cX4_mayLead 23 = .ok (.iand, 1) := by decide +kernel
theorem dX4_mayLead_24 : decode cX4_mayLead 24 = .ok (.ifCond .eq 5, 3) := by decide +kernel
theorem dX4_mayLead_27 : decode cX4_mayLead 27 = .ok (.iconst 0, 1) := by decide +kernel
theorem dX4_mayLead_28 : decode cX4_mayLead 28 = .ok (.ireturn, 1) := by decide +kernel
theorem dX4_mayLead_29 : decode cX4_mayLead 29 = .ok (.aload_n 0, 1) := by decide +kernel
theorem dX4_mayLead_30 : decode cX4_mayLead 30 = .ok (.getfield 15, 3) := by decide +kernel
theorem dX4_mayLead_33 : decode cX4_mayLead 33 = .ok (.iload_n 2, 1) := by decide +kernel
theorem dX4_mayLead_34 : decode cX4_mayLead 34 = .ok (.iaload, 1) := by decide +kernel
theorem dX4_mayLead_35 : decode cX4_mayLead 35 = .ok (.istore 5, 2) := by decide +kernel
theorem dX4_mayLead_37 : decode cX4_mayLead 37 = .ok (.iload 4, 2) := by decide +kernel
theorem dX4_mayLead_39 : decode cX4_mayLead 39 = .ok (.aload_n 0, 1) := by decide +kernel
theorem dX4_mayLead_40 : decode cX4_mayLead 40 = .ok (.iload_n 1, 1) := by decide +kernel
theorem dX4_mayLead_41 : decode cX4_mayLead 41 = .ok (.invokevirtual 105, 3) := by decide +kernel
theorem dX4_mayLead_44 : decode cX4_mayLead 44 = .ok (.ior, 1) := by decide +kernel
theorem dX4_mayLead_45 : decode cX4_mayLead 45 = .ok (.istore 6, 2) := by decide +kernel
theorem dX4_mayLead_47 : decode cX4_mayLead 47 = .ok (.aload_n 0, 1) := by decide +kernel
theorem dX4_mayLead_48 : decode cX4_mayLead 48 = .ok (.iload 5, 2) := by decide +kernel
theorem dX4_mayLead_50 : decode cX4_mayLead 50 = .ok (.invokevirtual 92, 3) := by decide +kernel
theorem dX4_mayLead_53 : decode cX4_mayLead 53 = .ok (.ifCond .eq 15, 3) := by decide +kernel
theorem dX4_mayLead_56 : decode cX4_mayLead 56 = .ok (.iload 6, 2) := by decide +kernel
theorem dX4_mayLead_58 : decode cX4_mayLead 58 = .ok (.iload 5, 2) := by decide +kernel
theorem dX4_mayLead_60 : decode cX4_mayLead 60 = .ok (.iconst 1, 1) := by decide +kernel
theorem dX4_mayLead_61 : decode cX4_mayLead 61 = .ok (.isub, 1) := by decide +kernel
theorem dX4_mayLead_62 : decode cX4_mayLead 62 = .ok (.ishr, 1) := by decide +kernel
theorem dX4_mayLead_63 : decode cX4_mayLead 63 = .ok (.iconst 3, 1) := by decide +kernel
theorem dX4_mayLead_64 : decode cX4_mayLead 64 = .ok (.iand, 1) := by decide +kernel
theorem dX4_mayLead_65 : decode cX4_mayLead 65 = .ok (.ifCond .eq 7, 3) := by decide +kernel
theorem dX4_mayLead_68 : decode cX4_mayLead 68 = .ok (.iconst 1, 1) := by decide +kernel
theorem dX4_mayLead_69 : decode cX4_mayLead 69 = .ok (.goto 4, 3) := by decide +kernel
theorem dX4_mayLead_72 : decode cX4_mayLead 72 = .ok (.iconst 0, 1) := by decide +kernel
theorem dX4_mayLead_73 : decode cX4_mayLead 73 = .ok (.ireturn, 1) := by decide +kernel
theorem dX4_signOf_0 : decode cX4_signOf 0 = .ok (.aload_n 0, 1) := by decide +kernel
theorem dX4_signOf_1 : decode cX4_signOf 1 = .ok (.getfield 76, 3) := by decide +kernel
theorem dX4_signOf_4 : decode cX4_signOf 4 = .ok (.iload_n 1, 1) := by decide +kernel
theorem dX4_signOf_5 : decode cX4_signOf 5 = .ok (.ishr, 1) := by decide +kernel
theorem dX4_signOf_6 : decode cX4_signOf 6 = .ok (.iconst 1, 1) := by decide +kernel
theorem dX4_signOf_7 : decode cX4_signOf 7 = .ok (.iand, 1) := by decide +kernel
theorem dX4_signOf_8 : decode cX4_signOf 8 = .ok (.ifCond .ne 5, 3) := by decide +kernel
theorem dX4_signOf_11 : decode cX4_signOf 11 = .ok (.iconst 1, 1) := by decide +kernel
theorem dX4_signOf_12 : decode cX4_signOf 12 = .ok (.ireturn, 1) := by decide +kernel
theorem dX4_signOf_13 : decode cX4_signOf 13 = .ok (.iload_n 3, 1) := by decide +kernel
theorem dX4_signOf_14 : decode cX4_signOf 14 = .ok (.aload_n 0, 1) := by decide +kernel
theorem dX4_signOf_15 : decode cX4_signOf 15 = .ok (.getfield 76, 3) := by decide +kernel
theorem dX4_signOf_18 : decode cX4_signOf 18 = .ok (.iand, 1) := by decide +kernel
theorem dX4_signOf_19 : decode cX4_signOf 19 = .ok (.iconst 1, 1) := by decide +kernel
theorem dX4_signOf_20 : decode cX4_signOf 20 = .ok (.iload_n 2, 1) := by decide +kernel
theorem dX4_signOf_21 : decode cX4_signOf 21 = .ok (.ishl, 1) := by decide +kernel
theorem dX4_signOf_22 : decode cX4_signOf 22 = .ok (.iconst 1, 1) := by decide +kernel
theorem dX4_signOf_23 : decode cX4_signOf 23 = .ok (.isub, 1) := by decide +kernel
theorem dX4_signOf_24 : decode cX4_signOf 24 = .ok (.iand, 1) := by decide +kernel
theorem dX4_signOf_25 : decode cX4_signOf 25 = .ok (.invokestatic 95, 3) := by decide +kernel
theorem dX4_signOf_28 : decode cX4_signOf 28 = .ok (.istore 4, 2) := by decide +kernel
theorem dX4_signOf_30 : decode cX4_signOf 30 = .ok (.aload_n 0, 1) := by decide +kernel
theorem dX4_signOf_31 : decode cX4_signOf 31 = .ok (.getfield 79, 3) := by decide +kernel
theorem dX4_signOf_34 : decode cX4_signOf 34 = .ok (.iload_n 1, 1) := by decide +kernel
theorem dX4_signOf_35 : decode cX4_signOf 35 = .ok (.ishr, 1) := by decide +kernel
theorem dX4_signOf_36 : decode cX4_signOf 36 = .ok (.iconst 1, 1) := by decide +kernel
theorem dX4_signOf_37 : decode cX4_signOf 37 = .ok (.iand, 1) := by decide +kernel
theorem dX4_signOf_38 : decode cX4_signOf 38 = .ok (.istore 5, 2) := by decide +kernel
theorem dX4_signOf_40 : decode cX4_signOf 40 = .ok (.iload 4, 2) := by decide +kernel
theorem dX4_signOf_42 : decode cX4_signOf 42 = .ok (.iload 5, 2) := by decide +kernel
theorem dX4_signOf_44 : decode cX4_signOf 44 = .ok (.iadd, 1) := by decide +kernel
theorem dX4_signOf_45 : decode cX4_signOf 45 = .ok (.iconst 2, 1) := by decide +kernel
theorem dX4_signOf_46 : decode cX4_signOf 46 = .ok (.irem, 1) := by decide +kernel
theorem dX4_signOf_47 : decode cX4_signOf 47 = .ok (.ifCond .ne 7, 3) := by decide +kernel
theorem dX4_signOf_50 : decode cX4_signOf 50 = .ok (.iconst 1, 1) := by decide +kernel
theorem dX4_signOf_51 : decode cX4_signOf 51 = .ok (.goto 4, 3) := by decide +kernel
theorem dX4_signOf_54 : decode cX4_signOf 54 = .ok (.iconst (-1), 1) := by decide +kernel
theorem dX4_signOf_55 : decode cX4_signOf 55 = .ok (.ireturn, 1) := by decide +kernel
theorem dX4_keepsRules_0 : decode cX4_keepsRules 0 = .ok (.iconst 0, 1) := by decide +kernel
theorem dX4_keepsRules_1 : decode cX4_keepsRules 1 = .ok (.istore_n 2, 1) := by decide +kernel
theorem dX4_keepsRules_2 : decode cX4_keepsRules 2 = .ok (.iload_n 2, 1) := by decide +kernel
theorem dX4_keepsRules_3 : decode cX4_keepsRules 3 = .ok (.iconst 3, 1) := by decide +kernel
theorem dX4_keepsRules_4 : decode cX4_keepsRules 4 = .ok (.if_icmp .ge 60, 3) := by decide +kernel
theorem dX4_keepsRules_7 : decode cX4_keepsRules 7 = .ok (.getstatic 108, 3) := by decide +kernel
theorem dX4_keepsRules_10 : decode cX4_keepsRules 10 = .ok (.iload_n 1, 1) := by decide +kernel
theorem dX4_keepsRules_11 : decode cX4_keepsRules 11 = .ok (.iconst 3, 1) := by decide +kernel
theorem dX4_keepsRules_12 : decode cX4_keepsRules 12 = .ok (.imul, 1) := by decide +kernel
theorem dX4_keepsRules_13 : decode cX4_keepsRules 13 = .ok (.iload_n 2, 1) := by decide +kernel
theorem dX4_keepsRules_14 : decode cX4_keepsRules 14 = .ok (.iadd, 1) := by decide +kernel
theorem dX4_keepsRules_15 : decode cX4_keepsRules 15 = .ok (.iaload, 1) := by decide +kernel
theorem dX4_keepsRules_16 : decode cX4_keepsRules 16 = .ok (.istore_n 3, 1) := by decide +kernel
theorem dX4_keepsRules_17 : decode cX4_keepsRules 17 = .ok (.iload_n 2, 1) := by decide +kernel
theorem dX4_keepsRules_18 : decode cX4_keepsRules 18 = .ok (.aload_n 0, 1) := by decide +kernel
theorem dX4_keepsRules_19 : decode cX4_keepsRules 19 = .ok (.getfield 33, 3) := by decide +kernel
theorem dX4_keepsRules_22 : decode cX4_keepsRules 22 = .ok (.if_icmp .lt 11, 3) := by decide +kernel
theorem dX4_keepsRules_25 : decode cX4_keepsRules 25 = .ok (.iload_n 3, 1) := by decide +kernel
theorem dX4_keepsRules_26 : decode cX4_keepsRules 26 = .ok (.iload_n 2, 1) := by decide +kernel
theorem dX4_keepsRules_27 : decode cX4_keepsRules 27 = .ok (.if_icmp .eq 31, 3) := by decide +kernel
theorem dX4_keepsRules_30 : decode cX4_keepsRules 30 = .ok (.goto 26, 3) := by decide +kernel
theorem dX4_keepsRules_33 : decode cX4_keepsRules 33 = .ok (.iload_n 3, 1) := by decide +kernel
theorem dX4_keepsRules_34 : decode cX4_keepsRules 34 = .ok (.aload_n 0, 1) := by decide +kernel
theorem dX4_keepsRules_35 : decode cX4_keepsRules 35 = .ok (.getfield 33, 3) := by decide +kernel
theorem dX4_keepsRules_38 : decode cX4_keepsRules 38 = .ok (.if_icmp .ge 18, 3) := by decide +kernel
theorem dX4_keepsRules_41 : decode cX4_keepsRules 41 = .ok (.aload_n 0, 1) := by decide +kernel
theorem dX4_keepsRules_42 : decode cX4_keepsRules 42 = .ok (.getfield 27, 3) := by decide +kernel
theorem dX4_keepsRules_45 : decode cX4_keepsRules 45 = .ok (.iload_n 3, 1) := by decide +kernel
theorem dX4_keepsRules_46 : decode cX4_keepsRules 46 = .ok (.iaload, 1) := by decide +kernel
theorem dX4_keepsRules_47 : decode cX4_keepsRules 47 = .ok (.aload_n 0, 1) := by decide +kernel
theorem dX4_keepsRules_48 : decode cX4_keepsRules 48 = .ok (.getfield 27, 3) := by decide +kernel
theorem dX4_keepsRules_51 : decode cX4_keepsRules 51 = .ok (.iload_n 2, 1) := by decide +kernel
theorem dX4_keepsRules_52 : decode cX4_keepsRules 52 = .ok (.iaload, 1) := by decide +kernel
theorem dX4_keepsRules_53 : decode cX4_keepsRules 53 = .ok (.if_icmp .eq 5, 3) := by decide +kernel
theorem dX4_keepsRules_56 : decode cX4_keepsRules 56 = .ok (.iconst 0, 1) := by decide +kernel
theorem dX4_keepsRules_57 : decode cX4_keepsRules 57 = .ok (.ireturn, 1) := by decide +kernel
theorem dX4_keepsRules_58 : decode cX4_keepsRules 58 = .ok (.iinc 2 1, 3) := by decide +kernel
theorem dX4_keepsRules_61 : decode cX4_keepsRules 61 = .ok (.goto (-59), 3) := by decide +kernel
theorem dX4_keepsRules_64 : decode cX4_keepsRules 64 = .ok (.iconst 1, 1) := by decide +kernel
theorem dX4_keepsRules_65 : decode cX4_keepsRules 65 = .ok (.ireturn, 1) := by decide +kernel
theorem dX4_swapped_0 : decode cX4_swapped 0 = .ok (.aload_n 0, 1) := by decide +kernel
theorem dX4_swapped_1 : decode cX4_swapped 1 = .ok (.getfield 15, 3) := by decide +kernel
theorem dX4_swapped_4 : decode cX4_swapped 4 = .ok (.iload_n 1, 1) := by decide +kernel
theorem dX4_swapped_5 : decode cX4_swapped 5 = .ok (.iaload, 1) := by decide +kernel
theorem dX4_swapped_6 : decode cX4_swapped 6 = .ok (.istore_n 3, 1) := by decide +kernel
theorem dX4_swapped_7 : decode cX4_swapped 7 = .ok (.iload_n 3, 1) := by decide +kernel
theorem dX4_swapped_8 : decode cX4_swapped 8 = .ok (.ifCond .ge 5, 3) := by decide +kernel
theorem dX4_swapped_11 : decode cX4_swapped 11 = .ok (.iload_n 1, 1) := by decide +kernel
theorem dX4_swapped_12 : decode cX4_swapped 12 = .ok (.ireturn, 1) := by decide +kernel
theorem dX4_swapped_13 : decode cX4_swapped 13 = .ok (.aload_n 0, 1) := by decide +kernel
theorem dX4_swapped_14 : decode cX4_swapped 14 = .ok (.getfield 30, 3) := by decide +kernel
theorem dX4_swapped_17 : decode cX4_swapped 17 = .ok (.getstatic 108, 3) := by decide +kernel
theorem dX4_swapped_20 : decode cX4_swapped 20 = .ok (.iload_n 2, 1) := by decide +kernel
theorem dX4_swapped_21 : decode cX4_swapped 21 = .ok (.iconst 3, 1) := by decide +kernel
theorem dX4_swapped_22 : decode cX4_swapped 22 = .ok (.imul, 1) := by decide +kernel
theorem dX4_swapped_23 : decode cX4_swapped 23 = .ok (.iload_n 3, 1) := by decide +kernel
theorem dX4_swapped_24 : decode cX4_swapped 24 = .ok (.iadd, 1) := by decide +kernel
theorem dX4_swapped_25 : decode cX4_swapped 25 = .ok (.iaload, 1) := by decide +kernel
theorem dX4_swapped_26 : decode cX4_swapped 26 = .ok (.iaload, 1) := by decide +kernel
theorem dX4_swapped_27 : decode cX4_swapped 27 = .ok (.aload_n 0, 1) := by decide +kernel
theorem dX4_swapped_28 : decode cX4_swapped 28 = .ok (.getfield 18, 3) := by decide +kernel
theorem dX4_swapped_31 : decode cX4_swapped 31 = .ok (.iload_n 1, 1) := by decide +kernel
theorem dX4_swapped_32 : decode cX4_swapped 32 = .ok (.iaload, 1) := by decide +kernel
theorem dX4_swapped_33 : decode cX4_swapped 33 = .ok (.iadd, 1) := by decide +kernel
theorem dX4_swapped_34 : decode cX4_swapped 34 = .ok (.aload_n 0, 1) := by decide +kernel
theorem dX4_swapped_35 : decode cX4_swapped 35 = .ok (.getfield 30, 3) := by decide +kernel
theorem dX4_swapped_38 : decode cX4_swapped 38 = .ok (.iload_n 3, 1) := by decide +kernel
theorem dX4_swapped_39 : decode cX4_swapped 39 = .ok (.iaload, 1) := by decide +kernel
theorem dX4_swapped_40 : decode cX4_swapped 40 = .ok (.isub, 1) := by decide +kernel
theorem dX4_swapped_41 : decode cX4_swapped 41 = .ok (.ireturn, 1) := by decide +kernel
theorem dX4_isPairing_0 : decode cX4_isPairing 0 = .ok (.iconst 0, 1) := by decide +kernel
theorem dX4_isPairing_1 : decode cX4_isPairing 1 = .ok (.istore_n 3, 1) := by decide +kernel
theorem dX4_isPairing_2 : decode cX4_isPairing 2 = .ok (.iconst 0, 1) := by decide +kernel
theorem dX4_isPairing_3 : decode cX4_isPairing 3 = .ok (.istore 4, 2) := by decide +kernel
theorem dX4_isPairing_5 : decode cX4_isPairing 5 = .ok (.iload 4, 2) := by decide +kernel
theorem dX4_isPairing_7 : decode cX4_isPairing 7 = .ok (.aload_n 0, 1) := by decide +kernel
theorem dX4_isPairing_8 : decode cX4_isPairing 8 = .ok (.getfield 45, 3) := by decide +kernel
theorem dX4_isPairing_11 : decode cX4_isPairing 11 = .ok (.if_icmp .ge 65, 3) := by decide +kernel
theorem dX4_isPairing_14 : decode cX4_isPairing 14 = .ok (.lload_n 1, 1) := by decide +kernel
theorem dX4_isPairing_15 : decode cX4_isPairing 15 = .ok (.iload 4, 2) := by decide +kernel
theorem dX4_isPairing_17 : decode cX4_isPairing 17 = .ok (.invokestatic 111, 3) := by decide +kernel
theorem dX4_isPairing_20 : decode cX4_isPairing 20 = .ok (.istore 5, 2) := by decide +kernel
theorem dX4_isPairing_22 : decode cX4_isPairing 22 = .ok (.iload 5, 2) := by decide +kernel
theorem dX4_isPairing_24 : decode cX4_isPairing 24 = .ok (.aload_n 0, 1) := by decide +kernel
theorem dX4_isPairing_25 : decode cX4_isPairing 25 = .ok (.getfield 45, 3) := by decide +kernel
theorem dX4_isPairing_28 : decode cX4_isPairing 28 = .ok (.if_icmp .ge 29, 3) := by decide +kernel
theorem dX4_isPairing_31 : decode cX4_isPairing 31 = .ok (.aload_n 0, 1) := by decide +kernel
theorem dX4_isPairing_32 : decode cX4_isPairing 32 = .ok (.getfield 24, 3) := by decide +kernel
theorem dX4_isPairing_35 : decode cX4_isPairing 35 = .ok (.iload 4, 2) := by decide +kernel
theorem dX4_isPairing_37 : decode cX4_isPairing 37 = .ok (.iaload, 1) := by decide +kernel
theorem dX4_isPairing_38 : decode cX4_isPairing 38 = .ok (.iload 5, 2) := by decide +kernel
theorem dX4_isPairing_40 : decode cX4_isPairing 40 = .ok (.ishr, 1) := by decide +kernel
theorem dX4_isPairing_41 : decode cX4_isPairing 41 = .ok (.iconst 1, 1) := by decide +kernel
theorem dX4_isPairing_42 : decode cX4_isPairing 42 = .ok (.iand, 1) := by decide +kernel
theorem dX4_isPairing_43 : decode cX4_isPairing 43 = .ok (.ifCond .eq 14, 3) := by decide +kernel
theorem dX4_isPairing_46 : decode cX4_isPairing 46 = .ok (.lload_n 1, 1) := by decide +kernel
theorem dX4_isPairing_47 : decode cX4_isPairing 47 = .ok (.iload 5, 2) := by decide +kernel
theorem dX4_isPairing_49 : decode cX4_isPairing 49 = .ok (.invokestatic 111, 3) := by decide +kernel
theorem dX4_isPairing_52 : decode cX4_isPairing 52 = .ok (.iload 4, 2) := by decide +kernel
theorem dX4_isPairing_54 : decode cX4_isPairing 54 = .ok (.if_icmp .eq 5, 3) := by decide +kernel
theorem dX4_isPairing_57 : decode cX4_isPairing 57 = .ok (.iconst 0, 1) := by decide +kernel
theorem dX4_isPairing_58 : decode cX4_isPairing 58 = .ok (.ireturn, 1) := by decide +kernel
theorem dX4_isPairing_59 : decode cX4_isPairing 59 = .ok (.iload_n 3, 1) := by decide +kernel
theorem dX4_isPairing_60 : decode cX4_isPairing 60 = .ok (.aload_n 0, 1) := by decide +kernel
theorem dX4_isPairing_61 : decode cX4_isPairing 61 = .ok (.iload 4, 2) := by decide +kernel
theorem dX4_isPairing_63 : decode cX4_isPairing 63 = .ok (.iload 5, 2) := by decide +kernel
theorem dX4_isPairing_65 : decode cX4_isPairing 65 = .ok (.invokevirtual 115, 3) := by decide +kernel
theorem dX4_isPairing_68 : decode cX4_isPairing 68 = .ok (.ior, 1) := by decide +kernel
theorem dX4_isPairing_69 : decode cX4_isPairing 69 = .ok (.istore_n 3, 1) := by decide +kernel
theorem dX4_isPairing_70 : decode cX4_isPairing 70 = .ok (.iinc 4 1, 3) := by decide +kernel
theorem dX4_isPairing_73 : decode cX4_isPairing 73 = .ok (.goto (-68), 3) := by decide +kernel
theorem dX4_isPairing_76 : decode cX4_isPairing 76 = .ok (.aload_n 0, 1) := by decide +kernel
theorem dX4_isPairing_77 : decode cX4_isPairing 77 = .ok (.iload_n 3, 1) := by decide +kernel
theorem dX4_isPairing_78 : decode cX4_isPairing 78 = .ok (.invokevirtual 119, 3) := by decide +kernel
theorem dX4_isPairing_81 : decode cX4_isPairing 81 = .ok (.ireturn, 1) := by decide +kernel
theorem dX4_inRow_0 : decode cX4_inRow 0 = .ok (.iload_n 1, 1) := by decide +kernel
theorem dX4_inRow_1 : decode cX4_inRow 1 = .ok (.i2l, 1) := by decide +kernel
theorem dX4_inRow_2 : decode cX4_inRow 2 = .ok (.iconst 4, 1) := by decide +kernel
theorem dX4_inRow_3 : decode cX4_inRow 3 = .ok (.bipush 11, 2) := by decide +kernel
theorem dX4_inRow_5 : decode cX4_inRow 5 = .ok (.iload_n 0, 1) := by decide +kernel
theorem dX4_inRow_6 : decode cX4_inRow 6 = .ok (.isub, 1) := by decide +kernel
theorem dX4_inRow_7 : decode cX4_inRow 7 = .ok (.imul, 1) := by decide +kernel
theorem dX4_inRow_8 : decode cX4_inRow 8 = .ok (.lshl, 1) := by decide +kernel
theorem dX4_inRow_9 : decode cX4_inRow 9 = .ok (.lreturn, 1) := by decide +kernel
theorem dX4_partnerIn_0 : decode cX4_partnerIn 0 = .ok (.lload_n 0, 1) := by decide +kernel
theorem dX4_partnerIn_1 : decode cX4_partnerIn 1 = .ok (.iconst 4, 1) := by decide +kernel
theorem dX4_partnerIn_2 : decode cX4_partnerIn 2 = .ok (.bipush 11, 2) := by decide +kernel
theorem dX4_partnerIn_4 : decode cX4_partnerIn 4 = .ok (.iload_n 2, 1) := by decide +kernel
theorem dX4_partnerIn_5 : decode cX4_partnerIn 5 = .ok (.isub, 1) := by decide +kernel
theorem dX4_partnerIn_6 : decode cX4_partnerIn 6 = .ok (.imul, 1) := by decide +kernel
theorem dX4_partnerIn_7 : decode cX4_partnerIn 7 = .ok (.lshr, 1) := by decide +kernel
theorem dX4_partnerIn_8 : decode cX4_partnerIn 8 = .ok (.l2i, 1) := by decide +kernel
theorem dX4_partnerIn_9 : decode cX4_partnerIn 9 = .ok (.bipush 15, 2) := by decide +kernel
theorem dX4_partnerIn_11 : decode cX4_partnerIn 11 = .ok (.iand, 1) := by decide +kernel
theorem dX4_partnerIn_12 : decode cX4_partnerIn 12 = .ok (.ireturn, 1) := by decide +kernel

