theorem dX3_init_0 : decode cX3_init 0 = .ok (.aload_n 0, 1) := by decide +kernel
theorem dX3_init_1 : decode cX3_init 1 = .ok (.invokespecial 3, 3) := by decide +kernel
theorem dX3_init_4 : decode cX3_init 4 = .ok (.aload_n 0, 1) := by decide +kernel
theorem dX3_init_5 : decode cX3_init 5 = .ok (.sipush 200, 3) := by decide +kernel
theorem dX3_init_8 : decode cX3_init 8 = .ok (.newarray .long, 2) := by decide +kernel
theorem dX3_init_10 : decode cX3_init 10 = .ok (.putfield 9, 3) := by decide +kernel
theorem dX3_init_13 : decode cX3_init 13 = .ok (.aload_n 0, 1) := by decide +kernel
theorem dX3_init_14 : decode cX3_init 14 = .ok (.sipush 200, 3) := by decide +kernel
theorem dX3_init_17 : decode cX3_init 17 = .ok (.newarray .int, 2) := by decide +kernel
theorem dX3_init_19 : decode cX3_init 19 = .ok (.putfield 15, 3) := by decide +kernel
theorem dX3_init_22 : decode cX3_init 22 = .ok (.aload_n 0, 1) := by decide +kernel
theorem dX3_init_23 : decode cX3_init 23 = .ok (.sipush 200, 3) := by decide +kernel
theorem dX3_init_26 : decode cX3_init 26 = .ok (.newarray .int, 2) := by decide +kernel
theorem dX3_init_28 : decode cX3_init 28 = .ok (.putfield 19, 3) := by decide +kernel
theorem dX3_init_31 : decode cX3_init 31 = .ok (.aload_n 0, 1) := by decide +kernel
theorem dX3_init_32 : decode cX3_init 32 = .ok (.sipush 200, 3) := by decide +kernel
theorem dX3_init_35 : decode cX3_init 35 = .ok (.newarray .int, 2) := by decide +kernel
theorem dX3_init_37 : decode cX3_init 37 = .ok (.putfield 22, 3) := by decide +kernel
theorem dX3_init_40 : decode cX3_init 40 = .ok (.aload_n 0, 1) := by decide +kernel
theorem dX3_init_41 : decode cX3_init 41 = .ok (.sipush 200, 3) := by decide +kernel
theorem dX3_init_44 : decode cX3_init 44 = .ok (.newarray .int, 2) := by decide +kernel
theorem dX3_init_46 : decode cX3_init 46 = .ok (.putfield 25, 3) := by decide +kernel
theorem dX3_init_49 : decode cX3_init 49 = .ok (.aload_n 0, 1) := by decide +kernel
theorem dX3_init_50 : decode cX3_init 50 = .ok (.sipush 400, 3) := by decide +kernel
theorem dX3_init_53 : decode cX3_init 53 = .ok (.newarray .int, 2) := by decide +kernel
theorem dX3_init_55 : decode cX3_init 55 = .ok (.putfield 28, 3) := by decide +kernel
theorem dX3_init_58 : decode cX3_init 58 = .ok (.aload_n 0, 1) := by decide +kernel
theorem dX3_init_59 : decode cX3_init 59 = .ok (.sipush 400, 3) := by decide +kernel
theorem dX3_init_62 : decode cX3_init 62 = .ok (.newarray .int, 2) := by decide +kernel
theorem dX3_init_64 : decode cX3_init 64 = .ok (.putfield 31, 3) := by decide +kernel
theorem dX3_init_67 : decode cX3_init 67 = .ok (.aload_n 0, 1) := by decide +kernel
theorem dX3_init_68 : decode cX3_init 68 = .ok (.bipush 20, 2) := by decide +kernel
theorem dX3_init_70 : decode cX3_init 70 = .ok (.newarray .int, 2) := by decide +kernel
theorem dX3_init_72 : decode cX3_init 72 = .ok (.putfield 34, 3) := by decide +kernel
theorem dX3_init_75 : decode cX3_init 75 = .ok (.aload_n 0, 1) := by decide +kernel
theorem dX3_init_76 : decode cX3_init 76 = .ok (.bipush 20, 2) := by decide +kernel
theorem dX3_init_78 : decode cX3_init 78 = .ok (.newarray .int, 2) := by decide +kernel
theorem dX3_init_80 : decode cX3_init 80 = .ok (.putfield 37, 3) := by decide +kernel
theorem dX3_init_83 : decode cX3_init 83 = .ok (.aload_n 0, 1) := by decide +kernel
theorem dX3_init_84 : decode cX3_init 84 = .ok (.bipush 20, 2) := by decide +kernel
theorem dX3_init_86 : decode cX3_init 86 = .ok (.newarray .int, 2) := by decide +kernel
theorem dX3_init_88 : decode cX3_init 88 = .ok (.putfield 40, 3) := by decide +kernel
theorem dX3_init_91 : decode cX3_init 91 = .ok (.aload_n 0, 1) := by decide +kernel
theorem dX3_init_92 : decode cX3_init 92 = .ok (.bipush 20, 2) := by decide +kernel
theorem dX3_init_94 : decode cX3_init 94 = .ok (.newarray .int, 2) := by decide +kernel
theorem dX3_init_96 : decode cX3_init 96 = .ok (.putfield 43, 3) := by decide +kernel
theorem dX3_init_99 : decode cX3_init 99 = .ok (.aload_n 0, 1) := by decide +kernel
theorem dX3_init_100 : decode cX3_init 100 = .ok (.bipush 20, 2) := by decide +kernel
theorem dX3_init_102 : decode cX3_init 102 = .ok (.newarray .int, 2) := by decide +kernel
theorem dX3_init_104 : decode cX3_init 104 = .ok (.putfield 46, 3) := by decide +kernel
theorem dX3_init_107 : decode cX3_init 107 = .ok (.aload_n 0, 1) := by decide +kernel
theorem dX3_init_108 : decode cX3_init 108 = .ok (.bipush 20, 2) := by decide +kernel
theorem dX3_init_110 : decode cX3_init 110 = .ok (.newarray .int, 2) := by decide +kernel
theorem dX3_init_112 : decode cX3_init 112 = .ok (.putfield 49, 3) := by decide +kernel
theorem dX3_init_115 : decode cX3_init 115 = .ok (.aload_n 0, 1) := by decide +kernel
theorem dX3_init_116 : decode cX3_init 116 = .ok (.bipush 20, 2) := by decide +kernel
theorem dX3_init_118 : decode cX3_init 118 = .ok (.newarray .int, 2) := by decide +kernel
theorem dX3_init_120 : decode cX3_init 120 = .ok (.putfield 52, 3) := by decide +kernel
theorem dX3_init_123 : decode cX3_init 123 = .ok (.aload_n 0, 1) := by decide +kernel
theorem dX3_init_124 : decode cX3_init 124 = .ok (.bipush 20, 2) := by decide +kernel
theorem dX3_init_126 : decode cX3_init 126 = .ok (.newarray .int, 2) := by decide +kernel
theorem dX3_init_128 : decode cX3_init 128 = .ok (.putfield 55, 3) := by decide +kernel
theorem dX3_init_131 : decode cX3_init 131 = .ok (.aload_n 0, 1) := by decide +kernel
theorem dX3_init_132 : decode cX3_init 132 = .ok (.bipush 20, 2) := by decide +kernel
theorem dX3_init_134 : decode cX3_init 134 = .ok (.newarray .boolean, 2) := by decide +kernel
theorem dX3_init_136 : decode cX3_init 136 = .ok (.putfield 58, 3) := by decide +kernel
theorem dX3_init_139 : decode cX3_init 139 = .ok (.return_, 1) := by decide +kernel
theorem dX3_clear_0 : decode cX3_clear 0 = .ok (.aload_n 0, 1) := by decide +kernel
theorem dX3_clear_1 : decode cX3_clear 1 = .ok (.iload_n 1, 1) := by decide +kernel
theorem dX3_clear_2 : decode cX3_clear 2 = .ok (.putfield 62, 3) := by decide +kernel
theorem dX3_clear_5 : decode cX3_clear 5 = .ok (.aload_n 0, 1) := by decide +kernel
theorem dX3_clear_6 : decode cX3_clear 6 = .ok (.iconst 0, 1) := by decide +kernel
theorem dX3_clear_7 : decode cX3_clear 7 = .ok (.putfield 66, 3) := by decide +kernel
theorem dX3_clear_10 : decode cX3_clear 10 = .ok (.aload_n 0, 1) := by decide +kernel
theorem dX3_clear_11 : decode cX3_clear 11 = .ok (.iconst 0, 1) := by decide +kernel
theorem dX3_clear_12 : decode cX3_clear 12 = .ok (.putfield 69, 3) := by decide +kernel
theorem dX3_clear_15 : decode cX3_clear 15 = .ok (.aload_n 0, 1) := by decide +kernel
theorem dX3_clear_16 : decode cX3_clear 16 = .ok (.iconst 0, 1) := by decide +kernel
theorem dX3_clear_17 : decode cX3_clear 17 = .ok (.putfield 72, 3) := by decide +kernel
theorem dX3_clear_20 : decode cX3_clear 20 = .ok (.return_, 1) := by decide +kernel
theorem dX3_ruleIn_0 : decode cX3_ruleIn 0 = .ok (.iload_n 0, 1) := by decide +kernel
theorem dX3_ruleIn_1 : decode cX3_ruleIn 1 = .ok (.iconst 2, 1) := by decide +kernel
theorem dX3_ruleIn_2 : decode cX3_ruleIn 2 = .ok (.iload_n 1, 1) := by decide +kernel
theorem dX3_ruleIn_3 : decode cX3_ruleIn 3 = .ok (.iconst 1, 1) := by decide +kernel
theorem dX3_ruleIn_4 : decode cX3_ruleIn 4 = .ok (.isub, 1) := by decide +kernel
theorem dX3_ruleIn_5 : decode cX3_ruleIn 5 = .ok (.iload_n 2, 1) := by decide +kernel
theorem dX3_ruleIn_6 : decode cX3_ruleIn 6 = .ok (.isub, 1) := by decide +kernel
theorem dX3_ruleIn_7 : decode cX3_ruleIn 7 = .ok (.imul, 1) := by decide +kernel
theorem dX3_ruleIn_8 : decode cX3_ruleIn 8 = .ok (.ishr, 1) := by decide +kernel
theorem dX3_ruleIn_9 : decode cX3_ruleIn 9 = .ok (.iconst 3, 1) := by decide +kernel
theorem dX3_ruleIn_10 : decode cX3_ruleIn 10 = .ok (.iand, 1) := by decide +kernel
theorem dX3_ruleIn_11 : decode cX3_ruleIn 11 = .ok (.ireturn, 1) := by decide +kernel
theorem dX3_openGroup_0 : decode cX3_openGroup 0 = .ok (.aload_n 0, 1) := by decide +kernel
theorem dX3_openGroup_1 : decode cX3_openGroup 1 = .ok (.getfield 69, 3) := by decide +kernel
theorem dX3_openGroup_4 : decode cX3_openGroup 4 = .ok (.bipush 20, 2) := by decide +kernel
theorem dX3_openGroup_6 : decode cX3_openGroup 6 = .ok (.if_icmp .lt 5, 3) := by decide +kernel
theorem dX3_openGroup_9 : decode cX3_openGroup 9 = .ok (.iconst 0, 1) := by decide +kernel
theorem dX3_openGroup_10 : decode cX3_openGroup 10 = .ok (.ireturn, 1) := by decide +kernel
theorem dX3_openGroup_11 : decode cX3_openGroup 11 = .ok (.iconst 1, 1) := by decide +kernel
theorem dX3_openGroup_12 : decode cX3_openGroup 12 = .ok (.istore 4, 2) := by decide +kernel
theorem dX3_openGroup_14 : decode cX3_openGroup 14 = .ok (.iconst 0, 1) := by decide +kernel
theorem dX3_openGroup_15 : decode cX3_openGroup 15 = .ok (.istore 5, 2) := by decide +kernel
theorem dX3_openGroup_17 : decode cX3_openGroup 17 = .ok (.iconst 0, 1) := by decide +kernel
theorem dX3_openGroup_18 : decode cX3_openGroup 18 = .ok (.istore 6, 2) := by decide +kernel
theorem dX3_openGroup_20 : decode cX3_openGroup 20 = .ok (.iload 6, 2) := by decide +kernel
theorem dX3_openGroup_22 : decode cX3_openGroup 22 = .ok (.aload_n 0, 1) := by decide +kernel
theorem dX3_openGroup_23 : decode cX3_openGroup 23 = .ok (.getfield 62, 3) := by decide +kernel
theorem dX3_openGroup_26 : decode cX3_openGroup 26 = .ok (.if_icmp .ge 54, 3) := by decide +kernel
theorem dX3_openGroup_29 : decode cX3_openGroup 29 = .ok (.iload 6, 2) := by decide +kernel
theorem dX3_openGroup_31 : decode cX3_openGroup 31 = .ok (.iconst 3, 1) := by decide +kernel
theorem dX3_openGroup_32 : decode cX3_openGroup 32 = .ok (.if_icmp .ge 48, 3) := by decide +kernel
theorem dX3_openGroup_35 : decode cX3_openGroup 35 = .ok (.aload_n 2, 1) := by decide +kernel
theorem dX3_openGroup_36 : decode cX3_openGroup 36 = .ok (.getfield 76, 3) := by decide +kernel
theorem dX3_openGroup_39 : decode cX3_openGroup 39 = .ok (.iload 6, 2) := by decide +kernel
theorem dX3_openGroup_41 : decode cX3_openGroup 41 = .ok (.iaload, 1) := by decide +kernel
theorem dX3_openGroup_42 : decode cX3_openGroup 42 = .ok (.istore 7, 2) := by decide +kernel
theorem dX3_openGroup_44 : decode cX3_openGroup 44 = .ok (.iload 4, 2) := by decide +kernel
theorem dX3_openGroup_46 : decode cX3_openGroup 46 = .ok (.aload_n 1, 1) := by decide +kernel
theorem dX3_openGroup_47 : decode cX3_openGroup 47 = .ok (.getfield 81, 3) := by decide +kernel
theorem dX3_openGroup_50 : decode cX3_openGroup 50 = .ok (.iload 7, 2) := by decide +kernel
theorem dX3_openGroup_52 : decode cX3_openGroup 52 = .ok (.iaload, 1) := by decide +kernel
theorem dX3_openGroup_53 : decode cX3_openGroup 53 = .ok (.imul, 1) := by decide +kernel
theorem dX3_openGroup_54 : decode cX3_openGroup 54 = .ok (.istore 4, 2) := by decide +kernel
theorem dX3_openGroup_56 : decode cX3_openGroup 56 = .ok (.iload 5, 2) := by decide +kernel
theorem dX3_openGroup_58 : decode cX3_openGroup 58 = .ok (.iconst 1, 1) := by decide +kernel
theorem dX3_openGroup_59 : decode cX3_openGroup 59 = .ok (.iconst 2, 1) := by decide +kernel
theorem dX3_openGroup_60 : decode cX3_openGroup 60 = .ok (.iconst 2, 1) := by decide +kernel
theorem dX3_openGroup_61 : decode cX3_openGroup 61 = .ok (.aload_n 1, 1) := by decide +kernel
theorem dX3_openGroup_62 : decode cX3_openGroup 62 = .ok (.getfield 84, 3) := by decide +kernel
theorem dX3_openGroup_65 : decode cX3_openGroup 65 = .ok (.iload 7, 2) := by decide +kernel
theorem dX3_openGroup_67 : decode cX3_openGroup 67 = .ok (.iaload, 1) := by decide +kernel
theorem dX3_openGroup_68 : decode cX3_openGroup 68 = .ok (.isub, 1) := by decide +kernel
theorem dX3_openGroup_69 : decode cX3_openGroup 69 = .ok (.imul, 1) := by decide +kernel
theorem dX3_openGroup_70 : decode cX3_openGroup 70 = .ok (.ishl, 1) := by decide +kernel
theorem dX3_openGroup_71 : decode cX3_openGroup 71 = .ok (.iadd, 1) := by decide +kernel
theorem dX3_openGroup_72 : decode cX3_openGroup 72 = .ok (.istore 5, 2) := by decide +kernel
theorem dX3_openGroup_74 : decode cX3_openGroup 74 = .ok (.iinc 6 1, 3) := by decide +kernel
theorem dX3_openGroup_77 : decode cX3_openGroup 77 = .ok (.goto (-57), 3) := by decide +kernel
theorem dX3_openGroup_80 : decode cX3_openGroup 80 = .ok (.aload_n 0, 1) := by decide +kernel
theorem dX3_openGroup_81 : decode cX3_openGroup 81 = .ok (.getfield 34, 3) := by decide +kernel
theorem dX3_openGroup_84 : decode cX3_openGroup 84 = .ok (.aload_n 0, 1) := by decide +kernel
theorem dX3_openGroup_85 : decode cX3_openGroup 85 = .ok (.getfield 69, 3) := by decide +kernel
theorem dX3_openGroup_88 : decode cX3_openGroup 88 = .ok (.iload_n 3, 1) := by decide +kernel
theorem dX3_openGroup_89 : decode cX3_openGroup 89 = .ok (.iastore, 1) := by decide +kernel
theorem dX3_openGroup_90 : decode cX3_openGroup 90 = .ok (.aload_n 0, 1) := by decide +kernel
theorem dX3_openGroup_91 : decode cX3_openGroup 91 = .ok (.getfield 37, 3) := by decide +kernel
theorem dX3_openGroup_94 : decode cX3_openGroup 94 = .ok (.aload_n 0, 1) := by decide +kernel
theorem dX3_openGroup_95 : decode cX3_openGroup 95 = .ok (.getfield 69, 3) := by decide +kernel
theorem dX3_openGroup_98 : decode cX3_openGroup 98 = .ok (.aload_n 2, 1) := by decide +kernel
theorem dX3_openGroup_99 : decode cX3_openGroup 99 = .ok (.getfield 87, 3) := by decide +kernel
theorem dX3_openGroup_102 : decode cX3_openGroup 102 = .ok (.iastore, 1) := by decide +kernel
theorem dX3_openGroup_103 : decode cX3_openGroup 103 = .ok (.aload_n 0, 1) := by decide +kernel
theorem dX3_openGroup_104 : decode cX3_openGroup 104 = .ok (.getfield 40, 3) := by decide +kernel
theorem dX3_openGroup_107 : decode cX3_openGroup 107 = .ok (.aload_n 0, 1) := by decide +kernel
theorem dX3_openGroup_108 : decode cX3_openGroup 108 = .ok (.getfield 69, 3) := by decide +kernel
theorem dX3_openGroup_111 : decode cX3_openGroup 111 = .ok (.aload_n 2, 1) := by decide +kernel
theorem dX3_openGroup_112 : decode cX3_openGroup 112 = .ok (.getfield 87, 3) := by decide +kernel
theorem dX3_openGroup_115 : decode cX3_openGroup 115 = .ok (.iconst 2, 1) := by decide +kernel
theorem dX3_openGroup_116 : decode cX3_openGroup 116 = .ok (.idiv, 1) := by decide +kernel
theorem dX3_openGroup_117 : decode cX3_openGroup 117 = .ok (.aload_n 2, 1) := by decide +kernel
theorem dX3_openGroup_118 : decode cX3_openGroup 118 = .ok (.getfield 89, 3) := by decide +kernel
theorem dX3_openGroup_121 : decode cX3_openGroup 121 = .ok (.isub, 1) := by decide +kernel
theorem dX3_openGroup_122 : decode cX3_openGroup 122 = .ok (.iastore, 1) := by decide +kernel
theorem dX3_openGroup_123 : decode cX3_openGroup 123 = .ok (.aload_n 0, 1) := by decide +kernel
theorem dX3_openGroup_124 : decode cX3_openGroup 124 = .ok (.getfield 43, 3) := by decide +kernel
theorem dX3_openGroup_127 : decode cX3_openGroup 127 = .ok (.aload_n 0, 1) := by decide +kernel
theorem dX3_openGroup_128 : decode cX3_openGroup 128 = .ok (.getfield 69, 3) := by decide +kernel
theorem dX3_openGroup_131 : decode cX3_openGroup 131 = .ok (.aload_n 2, 1) := by decide +kernel
theorem dX3_openGroup_132 : decode cX3_openGroup 132 = .ok (.getfield 92, 3) := by decide +kernel
theorem dX3_openGroup_135 : decode cX3_openGroup 135 = .ok (.iastore, 1) := by decide +kernel
theorem dX3_openGroup_136 : decode cX3_openGroup 136 = .ok (.aload_n 0, 1) := by decide +kernel
theorem dX3_openGroup_137 : decode cX3_openGroup 137 = .ok (.getfield 46, 3) := by decide +kernel
theorem dX3_openGroup_140 : decode cX3_openGroup 140 = .ok (.aload_n 0, 1) := by decide +kernel
theorem dX3_openGroup_141 : decode cX3_openGroup 141 = .ok (.getfield 69, 3) := by decide +kernel
theorem dX3_openGroup_144 : decode cX3_openGroup 144 = .ok (.iconst 1, 1) := by decide +kernel
theorem dX3_openGroup_145 : decode cX3_openGroup 145 = .ok (.iastore, 1) := by decide +kernel
theorem dX3_openGroup_146 : decode cX3_openGroup 146 = .ok (.aload_n 0, 1) := by decide +kernel
theorem dX3_openGroup_147 : decode cX3_openGroup 147 = .ok (.getfield 49, 3) := by decide +kernel
theorem dX3_openGroup_150 : decode cX3_openGroup 150 = .ok (.aload_n 0, 1) := by decide +kernel
theorem dX3_openGroup_151 : decode cX3_openGroup 151 = .ok (.getfield 69, 3) := by decide +kernel
theorem dX3_openGroup_154 : decode cX3_openGroup 154 = .ok (.iload 4, 2) := by decide +kernel
theorem dX3_openGroup_156 : decode cX3_openGroup 156 = .ok (.iastore, 1) := by decide +kernel
theorem dX3_openGroup_157 : decode cX3_openGroup 157 = .ok (.aload_n 0, 1) := by decide +kernel
theorem dX3_openGroup_158 : decode cX3_openGroup 158 = .ok (.getfield 52, 3) := by decide +kernel
theorem dX3_openGroup_161 : decode cX3_openGroup 161 = .ok (.aload_n 0, 1) := by decide +kernel
theorem dX3_openGroup_162 : decode cX3_openGroup 162 = .ok (.getfield 69, 3) := by decide +kernel
theorem dX3_openGroup_165 : decode cX3_openGroup 165 = .ok (.iload 5, 2) := by decide +kernel
theorem dX3_openGroup_167 : decode cX3_openGroup 167 = .ok (.iastore, 1) := by decide +kernel
theorem dX3_openGroup_168 : decode cX3_openGroup 168 = .ok (.aload_n 0, 1) := by decide +kernel
theorem dX3_openGroup_169 : decode cX3_openGroup 169 = .ok (.getfield 55, 3) := by decide +kernel
theorem dX3_openGroup_172 : decode cX3_openGroup 172 = .ok (.aload_n 0, 1) := by decide +kernel
theorem dX3_openGroup_173 : decode cX3_openGroup 173 = .ok (.getfield 69, 3) := by decide +kernel
theorem dX3_openGroup_176 : decode cX3_openGroup 176 = .ok (.iconst 0, 1) := by decide +kernel
theorem dX3_openGroup_177 : decode cX3_openGroup 177 = .ok (.iastore, 1) := by decide +kernel
theorem dX3_openGroup_178 : decode cX3_openGroup 178 = .ok (.aload_n 0, 1) := by decide +kernel
theorem dX3_openGroup_179 : decode cX3_openGroup 179 = .ok (.getfield 58, 3) := by decide +kernel
theorem dX3_openGroup_182 : decode cX3_openGroup 182 = .ok (.aload_n 0, 1) := by decide +kernel
theorem dX3_openGroup_183 : decode cX3_openGroup 183 = .ok (.getfield 69, 3) := by decide +kernel
theorem dX3_openGroup_186 : decode cX3_openGroup 186 = .ok (.iconst 0, 1) := by decide +kernel
theorem dX3_openGroup_187 : decode cX3_openGroup 187 = .ok (.bastore, 1) := by decide +kernel
theorem dX3_openGroup_188 : decode cX3_openGroup 188 = .ok (.aload_n 0, 1) := by decide +kernel
theorem dX3_openGroup_189 : decode cX3_openGroup 189 = .ok (.dup, 1) := by decide +kernel
theorem dX3_openGroup_190 : decode cX3_openGroup 190 = .ok (.getfield 69, 3) := by decide +kernel
theorem dX3_openGroup_193 : decode cX3_openGroup 193 = .ok (.iconst 1, 1) := by decide +kernel
theorem dX3_openGroup_194 : decode cX3_openGroup 194 = .ok (.iadd, 1) := by decide +kernel
theorem dX3_openGroup_195 : decode cX3_openGroup 195 = .ok (.putfield 69, 3) := by decide +kernel
theorem dX3_openGroup_198 : decode cX3_openGroup 198 = .ok (.iconst 1, 1) := by decide +kernel
theorem dX3_openGroup_199 : decode cX3_openGroup 199 = .ok (.ireturn, 1) := by decide +kernel
theorem dX3_add_0 : decode cX3_add 0 = .ok (.aload_n 0, 1) := by decide +kernel
theorem dX3_add_1 : decode cX3_add 1 = .ok (.getfield 66, 3) := by decide +kernel
theorem dX3_add_4 : decode cX3_add 4 = .ok (.sipush 200, 3) := by decide +kernel
theorem dX3_add_7 : decode cX3_add 7 = .ok (.if_icmp .ge 10, 3) := by decide +kernel
theorem dX3_add_10 : decode cX3_add 10 = .ok (.aload_n 0, 1) := by decide +kernel
theorem dX3_add_11 : decode cX3_add 11 = .ok (.getfield 69, 3) := by decide +kernel
theorem dX3_add_14 : decode cX3_add 14 = .ok (.ifCond .ne 9, 3) := by decide +kernel
theorem dX3_add_17 : decode cX3_add 17 = .ok (.aload_n 0, 1) := by decide +kernel
theorem dX3_add_18 : decode cX3_add 18 = .ok (.iconst 1, 1) := by decide +kernel
theorem dX3_add_19 : decode cX3_add 19 = .ok (.putfield 72, 3) := by decide +kernel
theorem dX3_add_22 : decode cX3_add 22 = .ok (.return_, 1) := by decide +kernel
theorem dX3_add_23 : decode cX3_add 23 = .ok (.aload_n 0, 1) := by decide +kernel
theorem dX3_add_24 : decode cX3_add 24 = .ok (.getfield 9, 3) := by decide +kernel
theorem dX3_add_27 : decode cX3_add 27 = .ok (.aload_n 0, 1) := by decide +kernel
theorem dX3_add_28 : decode cX3_add 28 = .ok (.getfield 66, 3) := by decide +kernel
theorem dX3_add_31 : decode cX3_add 31 = .ok (.lload_n 1, 1) := by decide +kernel
theorem dX3_add_32 : decode cX3_add 32 = .ok (.lastore, 1) := by decide +kernel
theorem dX3_add_33 : decode cX3_add 33 = .ok (.aload_n 0, 1) := by decide +kernel
theorem dX3_add_34 : decode cX3_add 34 = .ok (.getfield 15, 3) := by decide +kernel
theorem dX3_add_37 : decode cX3_add 37 = .ok (.aload_n 0, 1) := by decide +kernel
theorem dX3_add_38 : decode cX3_add 38 = .ok (.getfield 66, 3) := by decide +kernel
theorem dX3_add_41 : decode cX3_add 41 = .ok (.iload_n 3, 1) := by decide +kernel
theorem dX3_add_42 : decode cX3_add 42 = .ok (.iastore, 1) := by decide +kernel
theorem dX3_add_43 : decode cX3_add 43 = .ok (.aload_n 0, 1) := by decide +kernel
theorem dX3_add_44 : decode cX3_add 44 = .ok (.getfield 19, 3) := by decide +kernel
theorem dX3_add_47 : decode cX3_add 47 = .ok (.aload_n 0, 1) := by decide +kernel
theorem dX3_add_48 : decode cX3_add 48 = .ok (.getfield 66, 3) := by decide +kernel
theorem dX3_add_51 : decode cX3_add 51 = .ok (.iload 4, 2) := by decide +kernel
theorem dX3_add_53 : decode cX3_add 53 = .ok (.iastore, 1) := by decide +kernel
theorem dX3_add_54 : decode cX3_add 54 = .ok (.aload_n 0, 1) := by decide +kernel
theorem dX3_add_55 : decode cX3_add 55 = .ok (.getfield 22, 3) := by decide +kernel
theorem dX3_add_58 : decode cX3_add 58 = .ok (.aload_n 0, 1) := by decide +kernel
theorem dX3_add_59 : decode cX3_add 59 = .ok (.getfield 66, 3) := by decide +kernel
theorem dX3_add_62 : decode cX3_add 62 = .ok (.aload_n 0, 1) := by decide +kernel
theorem dX3_add_63 : decode cX3_add 63 = .ok (.getfield 69, 3) := by decide +kernel
theorem dX3_add_66 : decode cX3_add 66 = .ok (.iconst 1, 1) := by decide +kernel
theorem dX3_add_67 : decode cX3_add 67 = .ok (.isub, 1) := by decide +kernel
theorem dX3_add_68 : decode cX3_add 68 = .ok (.iastore, 1) := by decide +kernel
theorem dX3_add_69 : decode cX3_add 69 = .ok (.aload_n 0, 1) := by decide +kernel
theorem dX3_add_70 : decode cX3_add 70 = .ok (.getfield 25, 3) := by decide +kernel
theorem dX3_add_73 : decode cX3_add 73 = .ok (.aload_n 0, 1) := by decide +kernel
theorem dX3_add_74 : decode cX3_add 74 = .ok (.getfield 66, 3) := by decide +kernel
theorem dX3_add_77 : decode cX3_add 77 = .ok (.iconst 0, 1) := by decide +kernel
theorem dX3_add_78 : decode cX3_add 78 = .ok (.iastore, 1) := by decide +kernel
theorem dX3_add_79 : decode cX3_add 79 = .ok (.aload_n 0, 1) := by decide +kernel
theorem dX3_add_80 : decode cX3_add 80 = .ok (.dup, 1) := by decide +kernel
theorem dX3_add_81 : decode cX3_add 81 = .ok (.getfield 66, 3) := by decide +kernel
theorem dX3_add_84 : decode cX3_add 84 = .ok (.iconst 1, 1) := by decide +kernel
theorem dX3_add_85 : decode cX3_add 85 = .ok (.iadd, 1) := by decide +kernel
theorem dX3_add_86 : decode cX3_add 86 = .ok (.putfield 66, 3) := by decide +kernel
theorem dX3_add_89 : decode cX3_add 89 = .ok (.return_, 1) := by decide +kernel
theorem dX3_setHeavies_0 : decode cX3_setHeavies 0 = .ok (.aload_n 0, 1) := by decide +kernel
theorem dX3_setHeavies_1 : decode cX3_setHeavies 1 = .ok (.getfield 69, 3) := by decide +kernel
theorem dX3_setHeavies_4 : decode cX3_setHeavies 4 = .ok (.ifCond .le 15, 3) := by decide +kernel
theorem dX3_setHeavies_7 : decode cX3_setHeavies 7 = .ok (.aload_n 0, 1) := by decide +kernel
theorem dX3_setHeavies_8 : decode cX3_setHeavies 8 = .ok (.getfield 46, 3) := by decide +kernel
theorem dX3_setHeavies_11 : decode cX3_setHeavies 11 = .ok (.aload_n 0, 1) := by decide +kernel
theorem dX3_setHeavies_12 : decode cX3_setHeavies 12 = .ok (.getfield 69, 3) := by decide +kernel
theorem dX3_setHeavies_15 : decode cX3_setHeavies 15 = .ok (.iconst 1, 1) := by decide +kernel
theorem dX3_setHeavies_16 : decode cX3_setHeavies 16 = .ok (.isub, 1) := by decide +kernel
theorem dX3_setHeavies_17 : decode cX3_setHeavies 17 = .ok (.iload_n 1, 1) := by decide +kernel
theorem dX3_setHeavies_18 : decode cX3_setHeavies 18 = .ok (.iastore, 1) := by decide +kernel
theorem dX3_setHeavies_19 : decode cX3_setHeavies 19 = .ok (.return_, 1) := by decide +kernel
theorem dX3_addCut_0 : decode cX3_addCut 0 = .ok (.aload_n 0, 1) := by decide +kernel
theorem dX3_addCut_1 : decode cX3_addCut 1 = .ok (.getfield 66, 3) := by decide +kernel
theorem dX3_addCut_4 : decode cX3_addCut 4 = .ok (.ifCond .le 68, 3) := by decide +kernel
theorem dX3_addCut_7 : decode cX3_addCut 7 = .ok (.aload_n 0, 1) := by decide +kernel
theorem dX3_addCut_8 : decode cX3_addCut 8 = .ok (.getfield 25, 3) := by decide +kernel
theorem dX3_addCut_11 : decode cX3_addCut 11 = .ok (.aload_n 0, 1) := by decide +kernel
theorem dX3_addCut_12 : decode cX3_addCut 12 = .ok (.getfield 66, 3) := by decide +kernel
theorem dX3_addCut_15 : decode cX3_addCut 15 = .ok (.iconst 1, 1) := by decide +kernel
theorem dX3_addCut_16 : decode cX3_addCut 16 = .ok (.isub, 1) := by decide +kernel
theorem dX3_addCut_17 : decode cX3_addCut 17 = .ok (.iaload, 1) := by decide +kernel
theorem dX3_addCut_18 : decode cX3_addCut 18 = .ok (.iconst 2, 1) := by decide +kernel
theorem dX3_addCut_19 : decode cX3_addCut 19 = .ok (.if_icmp .ge 53, 3) := by decide +kernel
theorem dX3_addCut_22 : decode cX3_addCut 22 = .ok (.aload_n 0, 1) := by decide +kernel
theorem dX3_addCut_23 : decode cX3_addCut 23 = .ok (.getfield 66, 3) := by decide +kernel
theorem dX3_addCut_26 : decode cX3_addCut 26 = .ok (.iconst 1, 1) := by decide +kernel
theorem dX3_addCut_27 : decode cX3_addCut 27 = .ok (.isub, 1) := by decide +kernel
theorem dX3_addCut_28 : decode cX3_addCut 28 = .ok (.iconst 2, 1) := by decide +kernel
theorem dX3_addCut_29 : decode cX3_addCut 29 = .ok (.imul, 1) := by decide +kernel
theorem dX3_addCut_30 : decode cX3_addCut 30 = .ok (.aload_n 0, 1) := by decide +kernel
theorem dX3_addCut_31 : decode cX3_addCut 31 = .ok (.getfield 25, 3) := by decide +kernel
theorem dX3_addCut_34 : decode cX3_addCut 34 = .ok (.aload_n 0, 1) := by decide +kernel
theorem dX3_addCut_35 : decode cX3_addCut 35 = .ok (.getfield 66, 3) := by decide +kernel
theorem dX3_addCut_38 : decode cX3_addCut 38 = .ok (.iconst 1, 1) := by decide +kernel
theorem dX3_addCut_39 : decode cX3_addCut 39 = .ok (.isub, 1) := by decide +kernel
theorem dX3_addCut_40 : decode cX3_addCut 40 = .ok (.iaload, 1) := by decide +kernel
theorem dX3_addCut_41 : decode cX3_addCut 41 = .ok (.iadd, 1) := by decide +kernel
theorem dX3_addCut_42 : decode cX3_addCut 42 = .ok (.istore_n 3, 1) := by decide +kernel
theorem dX3_addCut_43 : decode cX3_addCut 43 = .ok (.aload_n 0, 1) := by decide +kernel
theorem dX3_addCut_44 : decode cX3_addCut 44 = .ok (.getfield 28, 3) := by decide +kernel
theorem dX3_addCut_47 : decode cX3_addCut 47 = .ok (.iload_n 3, 1) := by decide +kernel
theorem dX3_addCut_48 : decode cX3_addCut 48 = .ok (.iload_n 1, 1) := by decide +kernel
theorem dX3_addCut_49 : decode cX3_addCut 49 = .ok (.iastore, 1) := by decide +kernel
theorem dX3_addCut_50 : decode cX3_addCut 50 = .ok (.aload_n 0, 1) := by decide +kernel
theorem dX3_addCut_51 : decode cX3_addCut 51 = .ok (.getfield 31, 3) := by decide +kernel
theorem dX3_addCut_54 : decode cX3_addCut 54 = .ok (.iload_n 3, 1) := by decide +kernel
theorem dX3_addCut_55 : decode cX3_addCut 55 = .ok (.iload_n 2, 1) := by decide +kernel
theorem dX3_addCut_56 : decode cX3_addCut 56 = .ok (.iastore, 1) := by decide +kernel
theorem dX3_addCut_57 : decode cX3_addCut 57 = .ok (.aload_n 0, 1) := by decide +kernel
theorem dX3_addCut_58 : decode cX3_addCut 58 = .ok (.getfield 25, 3) := by decide +kernel
theorem dX3_addCut_61 : decode cX3_addCut 61 = .ok (.aload_n 0, 1) := by decide +kernel
theorem dX3_addCut_62 : decode cX3_addCut 62 = .ok (.getfield 66, 3) := by decide +kernel
theorem dX3_addCut_65 : decode cX3_addCut 65 = .ok (.iconst 1, 1) := by decide +kernel
theorem dX3_addCut_66 : decode cX3_addCut 66 = .ok (.isub, 1) := by decide +kernel
theorem dX3_addCut_67 : decode cX3_addCut 67 = .ok (.dup2, 1) := by decide +kernel
theorem dX3_addCut_68 : decode cX3_addCut 68 = .ok (.iaload, 1) := by decide +kernel
theorem dX3_addCut_69 : decode cX3_addCut 69 = .ok (.iconst 1, 1) := by decide +kernel
theorem dX3_addCut_70 : decode cX3_addCut 70 = .ok (.iadd, 1) := by decide +kernel
theorem dX3_addCut_71 : decode cX3_addCut 71 = .ok (.iastore, 1) := by decide +kernel
theorem dX3_addCut_72 : decode cX3_addCut 72 = .ok (.return_, 1) := by decide +kernel
theorem dX3_groupOf_0 : decode cX3_groupOf 0 = .ok (.aload_n 0, 1) := by decide +kernel
theorem dX3_groupOf_1 : decode cX3_groupOf 1 = .ok (.getfield 22, 3) := by decide +kernel
theorem dX3_groupOf_4 : decode cX3_groupOf 4 = .ok (.iload_n 1, 1) := by decide +kernel
theorem dX3_groupOf_5 : decode cX3_groupOf 5 = .ok (.iaload, 1) := by decide +kernel
theorem dX3_groupOf_6 : decode cX3_groupOf 6 = .ok (.ireturn, 1) := by decide +kernel
theorem dX3_codeOf_0 : decode cX3_codeOf 0 = .ok (.aload_n 0, 1) := by decide +kernel
theorem dX3_codeOf_1 : decode cX3_codeOf 1 = .ok (.getfield 34, 3) := by decide +kernel
theorem dX3_codeOf_4 : decode cX3_codeOf 4 = .ok (.aload_n 0, 1) := by decide +kernel
theorem dX3_codeOf_5 : decode cX3_codeOf 5 = .ok (.getfield 22, 3) := by decide +kernel
theorem dX3_codeOf_8 : decode cX3_codeOf 8 = .ok (.iload_n 1, 1) := by decide +kernel
theorem dX3_codeOf_9 : decode cX3_codeOf 9 = .ok (.iaload, 1) := by decide +kernel
theorem dX3_codeOf_10 : decode cX3_codeOf 10 = .ok (.iaload, 1) := by decide +kernel
theorem dX3_codeOf_11 : decode cX3_codeOf 11 = .ok (.ireturn, 1) := by decide +kernel
theorem dX3_legsOf_0 : decode cX3_legsOf 0 = .ok (.aload_n 0, 1) := by decide +kernel
theorem dX3_legsOf_1 : decode cX3_legsOf 1 = .ok (.getfield 37, 3) := by decide +kernel
theorem dX3_legsOf_4 : decode cX3_legsOf 4 = .ok (.aload_n 0, 1) := by decide +kernel
theorem dX3_legsOf_5 : decode cX3_legsOf 5 = .ok (.getfield 22, 3) := by decide +kernel
theorem dX3_legsOf_8 : decode cX3_legsOf 8 = .ok (.iload_n 1, 1) := by decide +kernel
theorem dX3_legsOf_9 : decode cX3_legsOf 9 = .ok (.iaload, 1) := by decide +kernel
theorem dX3_legsOf_10 : decode cX3_legsOf 10 = .ok (.iaload, 1) := by decide +kernel
theorem dX3_legsOf_11 : decode cX3_legsOf 11 = .ok (.ireturn, 1) := by decide +kernel
theorem dX3_ways_0 : decode cX3_ways 0 = .ok (.aload_n 0, 1) := by decide +kernel
theorem dX3_ways_1 : decode cX3_ways 1 = .ok (.getfield 15, 3) := by decide +kernel
theorem dX3_ways_4 : decode cX3_ways 4 = .ok (.iload_n 1, 1) := by decide +kernel
theorem dX3_ways_5 : decode cX3_ways 5 = .ok (.iaload, 1) := by decide +kernel
theorem dX3_ways_6 : decode cX3_ways 6 = .ok (.ifCond .le 24, 3) := by decide +kernel
theorem dX3_ways_9 : decode cX3_ways 9 = .ok (.aload_n 0, 1) := by decide +kernel
theorem dX3_ways_10 : decode cX3_ways 10 = .ok (.getfield 43, 3) := by decide +kernel
theorem dX3_ways_13 : decode cX3_ways 13 = .ok (.aload_n 0, 1) := by decide +kernel
theorem dX3_ways_14 : decode cX3_ways 14 = .ok (.getfield 22, 3) := by decide +kernel
theorem dX3_ways_17 : decode cX3_ways 17 = .ok (.iload_n 1, 1) := by decide +kernel
theorem dX3_ways_18 : decode cX3_ways 18 = .ok (.iaload, 1) := by decide +kernel
theorem dX3_ways_19 : decode cX3_ways 19 = .ok (.iaload, 1) := by decide +kernel
theorem dX3_ways_20 : decode cX3_ways 20 = .ok (.aload_n 0, 1) := by decide +kernel
theorem dX3_ways_21 : decode cX3_ways 21 = .ok (.getfield 15, 3) := by decide +kernel
theorem dX3_ways_24 : decode cX3_ways 24 = .ok (.iload_n 1, 1) := by decide +kernel
theorem dX3_ways_25 : decode cX3_ways 25 = .ok (.iaload, 1) := by decide +kernel
theorem dX3_ways_26 : decode cX3_ways 26 = .ok (.idiv, 1) := by decide +kernel
theorem dX3_ways_27 : decode cX3_ways 27 = .ok (.goto 4, 3) := by decide +kernel
theorem dX3_ways_30 : decode cX3_ways 30 = .ok (.iconst 0, 1) := by decide +kernel
theorem dX3_ways_31 : decode cX3_ways 31 = .ok (.ireturn, 1) := by decide +kernel
theorem dX3_loops_0 : decode cX3_loops 0 = .ok (.aload_n 0, 1) := by decide +kernel
theorem dX3_loops_1 : decode cX3_loops 1 = .ok (.getfield 40, 3) := by decide +kernel
theorem dX3_loops_4 : decode cX3_loops 4 = .ok (.aload_n 0, 1) := by decide +kernel
theorem dX3_loops_5 : decode cX3_loops 5 = .ok (.getfield 22, 3) := by decide +kernel
theorem dX3_loops_8 : decode cX3_loops 8 = .ok (.iload_n 1, 1) := by decide +kernel
theorem dX3_loops_9 : decode cX3_loops 9 = .ok (.iaload, 1) := by decide +kernel
theorem dX3_loops_10 : decode cX3_loops 10 = .ok (.iaload, 1) := by decide +kernel
theorem dX3_loops_11 : decode cX3_loops 11 = .ok (.aload_n 0, 1) := by decide +kernel
theorem dX3_loops_12 : decode cX3_loops 12 = .ok (.getfield 62, 3) := by decide +kernel
theorem dX3_loops_15 : decode cX3_loops 15 = .ok (.isub, 1) := by decide +kernel
theorem dX3_loops_16 : decode cX3_loops 16 = .ok (.iconst 1, 1) := by decide +kernel
theorem dX3_loops_17 : decode cX3_loops 17 = .ok (.iadd, 1) := by decide +kernel
theorem dX3_loops_18 : decode cX3_loops 18 = .ok (.ireturn, 1) := by decide +kernel
theorem dX3_ofDrawing_0 : decode cX3_ofDrawing 0 = .ok (.iload_n 2, 1) := by decide +kernel
theorem dX3_ofDrawing_1 : decode cX3_ofDrawing 1 = .ok (.tableswitch 90 0 6 #[43, 45, 52, 59, 65, 72, 78], 43) := by decide +kernel
theorem dX3_ofDrawing_44 : decode cX3_ofDrawing 44 = .ok (.iconst 1, 1) := by decide +kernel
theorem dX3_ofDrawing_45 : decode cX3_ofDrawing 45 = .ok (.ireturn, 1) := by decide +kernel
theorem dX3_ofDrawing_46 : decode cX3_ofDrawing 46 = .ok (.aload_n 0, 1) := by decide +kernel
theorem dX3_ofDrawing_47 : decode cX3_ofDrawing 47 = .ok (.getfield 15, 3) := by decide +kernel
theorem dX3_ofDrawing_50 : decode cX3_ofDrawing 50 = .ok (.iload_n 1, 1) := by decide +kernel
theorem dX3_ofDrawing_51 : decode cX3_ofDrawing 51 = .ok (.iaload, 1) := by decide +kernel
theorem dX3_ofDrawing_52 : decode cX3_ofDrawing 52 = .ok (.ireturn, 1) := by decide +kernel
theorem dX3_ofDrawing_53 : decode cX3_ofDrawing 53 = .ok (.aload_n 0, 1) := by decide +kernel
theorem dX3_ofDrawing_54 : decode cX3_ofDrawing 54 = .ok (.getfield 19, 3) := by decide +kernel
theorem dX3_ofDrawing_57 : decode cX3_ofDrawing 57 = .ok (.iload_n 1, 1) := by decide +kernel
theorem dX3_ofDrawing_58 : decode cX3_ofDrawing 58 = .ok (.iaload, 1) := by decide +kernel
theorem dX3_ofDrawing_59 : decode cX3_ofDrawing 59 = .ok (.ireturn, 1) := by decide +kernel
theorem dX3_ofDrawing_60 : decode cX3_ofDrawing 60 = .ok (.aload_n 0, 1) := by decide +kernel
theorem dX3_ofDrawing_61 : decode cX3_ofDrawing 61 = .ok (.iload_n 1, 1) := by decide +kernel
theorem dX3_ofDrawing_62 : decode cX3_ofDrawing 62 = .ok (.invokevirtual 94, 3) := by decide +kernel
theorem dX3_ofDrawing_65 : decode cX3_ofDrawing 65 = .ok (.ireturn, 1) := by decide +kernel
theorem dX3_ofDrawing_66 : decode cX3_ofDrawing 66 = .ok (.aload_n 0, 1) := by decide +kernel
theorem dX3_ofDrawing_67 : decode cX3_ofDrawing 67 = .ok (.getfield 25, 3) := by decide +kernel
theorem dX3_ofDrawing_70 : decode cX3_ofDrawing 70 = .ok (.iload_n 1, 1) := by decide +kernel
theorem dX3_ofDrawing_71 : decode cX3_ofDrawing 71 = .ok (.iaload, 1) := by decide +kernel
theorem dX3_ofDrawing_72 : decode cX3_ofDrawing 72 = .ok (.ireturn, 1) := by decide +kernel
theorem dX3_ofDrawing_73 : decode cX3_ofDrawing 73 = .ok (.aload_n 0, 1) := by decide +kernel
theorem dX3_ofDrawing_74 : decode cX3_ofDrawing 74 = .ok (.iload_n 1, 1) := by decide +kernel
theorem dX3_ofDrawing_75 : decode cX3_ofDrawing 75 = .ok (.invokevirtual 98, 3) := by decide +kernel
theorem dX3_ofDrawing_78 : decode cX3_ofDrawing 78 = .ok (.ireturn, 1) := by decide +kernel
theorem dX3_ofDrawing_79 : decode cX3_ofDrawing 79 = .ok (.aload_n 0, 1) := by decide +kernel
theorem dX3_ofDrawing_80 : decode cX3_ofDrawing 80 = .ok (.getfield 40, 3) := by decide +kernel
theorem dX3_ofDrawing_83 : decode cX3_ofDrawing 83 = .ok (.aload_n 0, 1) := by decide +kernel
theorem dX3_ofDrawing_84 : decode cX3_ofDrawing 84 = .ok (.getfield 22, 3) := by decide +kernel
theorem dX3_ofDrawing_87 : decode cX3_ofDrawing 87 = .ok (.iload_n 1, 1) := by decide +kernel
theorem dX3_ofDrawing_88 : decode cX3_ofDrawing 88 = .ok (.iaload, 1) := by decide +kernel
theorem dX3_ofDrawing_89 : decode cX3_ofDrawing 89 = .ok (.iaload, 1) := by decide +kernel
theorem dX3_ofDrawing_90 : decode cX3_ofDrawing 90 = .ok (.ireturn, 1) := by decide +kernel
theorem dX3_ofDrawing_91 : decode cX3_ofDrawing 91 = .ok (.ldc 101, 2) := by decide +kernel
theorem dX3_ofDrawing_93 : decode cX3_ofDrawing 93 = .ok (.ireturn, 1) := by decide +kernel
theorem dX3_ruleOf_0 : decode cX3_ruleOf 0 = .ok (.iload_n 2, 1) := by decide +kernel
theorem dX3_ruleOf_1 : decode cX3_ruleOf 1 = .ok (.ifCond .lt 27, 3) := by decide +kernel
theorem dX3_ruleOf_4 : decode cX3_ruleOf 4 = .ok (.iload_n 2, 1) := by decide +kernel
theorem dX3_ruleOf_5 : decode cX3_ruleOf 5 = .ok (.aload_n 0, 1) := by decide +kernel
theorem dX3_ruleOf_6 : decode cX3_ruleOf 6 = .ok (.getfield 62, 3) := by decide +kernel
theorem dX3_ruleOf_9 : decode cX3_ruleOf 9 = .ok (.if_icmp .ge 19, 3) := by decide +kernel
theorem dX3_ruleOf_12 : decode cX3_ruleOf 12 = .ok (.aload_n 0, 1) := by decide +kernel
theorem dX3_ruleOf_13 : decode cX3_ruleOf 13 = .ok (.iload_n 1, 1) := by decide +kernel
theorem dX3_ruleOf_14 : decode cX3_ruleOf 14 = .ok (.invokevirtual 102, 3) := by decide +kernel
theorem dX3_ruleOf_17 : decode cX3_ruleOf 17 = .ok (.aload_n 0, 1) := by decide +kernel
theorem dX3_ruleOf_18 : decode cX3_ruleOf 18 = .ok (.getfield 62, 3) := by decide +kernel
theorem dX3_ruleOf_21 : decode cX3_ruleOf 21 = .ok (.iload_n 2, 1) := by decide +kernel
theorem dX3_ruleOf_22 : decode cX3_ruleOf 22 = .ok (.invokestatic 105, 3) := by decide +kernel
theorem dX3_ruleOf_25 : decode cX3_ruleOf 25 = .ok (.goto 4, 3) := by decide +kernel
theorem dX3_ruleOf_28 : decode cX3_ruleOf 28 = .ok (.iconst (-1), 1) := by decide +kernel
theorem dX3_ruleOf_29 : decode cX3_ruleOf 29 = .ok (.ireturn, 1) := by decide +kernel
theorem dX3_partnerOf_0 : decode cX3_partnerOf 0 = .ok (.iload_n 2, 1) := by decide +kernel
theorem dX3_partnerOf_1 : decode cX3_partnerOf 1 = .ok (.ifCond .lt 25, 3) := by decide +kernel
theorem dX3_partnerOf_4 : decode cX3_partnerOf 4 = .ok (.iload_n 2, 1) := by decide +kernel
theorem dX3_partnerOf_5 : decode cX3_partnerOf 5 = .ok (.aload_n 0, 1) := by decide +kernel
theorem dX3_partnerOf_6 : decode cX3_partnerOf 6 = .ok (.iload_n 1, 1) := by decide +kernel
theorem dX3_partnerOf_7 : decode cX3_partnerOf 7 = .ok (.invokevirtual 109, 3) := by decide +kernel
theorem dX3_partnerOf_10 : decode cX3_partnerOf 10 = .ok (.if_icmp .ge 16, 3) := by decide +kernel
theorem dX3_partnerOf_13 : decode cX3_partnerOf 13 = .ok (.aload_n 0, 1) := by decide +kernel
theorem dX3_partnerOf_14 : decode cX3_partnerOf 14 = .ok (.getfield 9, 3) := by decide +kernel
theorem dX3_partnerOf_17 : decode cX3_partnerOf 17 = .ok (.iload_n 1, 1) := by decide +kernel
theorem dX3_partnerOf_18 : decode cX3_partnerOf 18 = .ok (.laload, 1) := by decide +kernel
theorem dX3_partnerOf_19 : decode cX3_partnerOf 19 = .ok (.iload_n 2, 1) := by decide +kernel
theorem dX3_partnerOf_20 : decode cX3_partnerOf 20 = .ok (.invokestatic 112, 3) := by decide +kernel
theorem dX3_partnerOf_23 : decode cX3_partnerOf 23 = .ok (.goto 4, 3) := by decide +kernel
theorem dX3_partnerOf_26 : decode cX3_partnerOf 26 = .ok (.iconst (-1), 1) := by decide +kernel
theorem dX3_partnerOf_27 : decode cX3_partnerOf 27 = .ok (.ireturn, 1) := by decide +kernel
theorem dX3_hasCut_0 : decode cX3_hasCut 0 = .ok (.iload_n 2, 1) := by decide +kernel
theorem dX3_hasCut_1 : decode cX3_hasCut 1 = .ok (.ifCond .lt 17, 3) := by decide +kernel
theorem dX3_hasCut_4 : decode cX3_hasCut 4 = .ok (.iload_n 2, 1) := by decide +kernel
theorem dX3_hasCut_5 : decode cX3_hasCut 5 = .ok (.aload_n 0, 1) := by decide +kernel
theorem dX3_hasCut_6 : decode cX3_hasCut 6 = .ok (.getfield 25, 3) := by decide +kernel
theorem dX3_hasCut_9 : decode cX3_hasCut 9 = .ok (.iload_n 1, 1) := by decide +kernel
theorem dX3_hasCut_10 : decode cX3_hasCut 10 = .ok (.iaload, 1) := by decide +kernel
theorem dX3_hasCut_11 : decode cX3_hasCut 11 = .ok (.if_icmp .ge 7, 3) := by decide +kernel
theorem dX3_hasCut_14 : decode cX3_hasCut 14 = .ok (.iconst 1, 1) := by decide +kernel
theorem dX3_hasCut_15 : decode cX3_hasCut 15 = .ok (.goto 4, 3) := by decide +kernel
theorem dX3_hasCut_18 : decode cX3_hasCut 18 = .ok (.iconst 0, 1) := by decide +kernel
theorem dX3_hasCut_19 : decode cX3_hasCut 19 = .ok (.ireturn, 1) := by decide +kernel
theorem dX3_sideOf_0 : decode cX3_sideOf 0 = .ok (.aload_n 0, 1) := by decide +kernel
theorem dX3_sideOf_1 : decode cX3_sideOf 1 = .ok (.getfield 28, 3) := by decide +kernel
theorem dX3_sideOf_4 : decode cX3_sideOf 4 = .ok (.iload_n 1, 1) := by decide +kernel
theorem dX3_sideOf_5 : decode cX3_sideOf 5 = .ok (.iconst 2, 1) := by decide +kernel
theorem dX3_sideOf_6 : decode cX3_sideOf 6 = .ok (.imul, 1) := by decide +kernel
theorem dX3_sideOf_7 : decode cX3_sideOf 7 = .ok (.iload_n 2, 1) := by decide +kernel
theorem dX3_sideOf_8 : decode cX3_sideOf 8 = .ok (.iadd, 1) := by decide +kernel
theorem dX3_sideOf_9 : decode cX3_sideOf 9 = .ok (.iaload, 1) := by decide +kernel
theorem dX3_sideOf_10 : decode cX3_sideOf 10 = .ok (.ireturn, 1) := by decide +kernel
theorem dX3_sideKindOf_0 : decode cX3_sideKindOf 0 = .ok (.aload_n 0, 1) := by decide +kernel
theorem dX3_sideKindOf_1 : decode cX3_sideKindOf 1 = .ok (.getfield 31, 3) := by decide +kernel
theorem dX3_sideKindOf_4 : decode cX3_sideKindOf 4 = .ok (.iload_n 1, 1) := by decide +kernel
theorem dX3_sideKindOf_5 : decode cX3_sideKindOf 5 = .ok (.iconst 2, 1) := by decide +kernel
theorem dX3_sideKindOf_6 : decode cX3_sideKindOf 6 = .ok (.imul, 1) := by decide +kernel
theorem dX3_sideKindOf_7 : decode cX3_sideKindOf 7 = .ok (.iload_n 2, 1) := by decide +kernel
theorem dX3_sideKindOf_8 : decode cX3_sideKindOf 8 = .ok (.iadd, 1) := by decide +kernel
theorem dX3_sideKindOf_9 : decode cX3_sideKindOf 9 = .ok (.iaload, 1) := by decide +kernel
theorem dX3_sideKindOf_10 : decode cX3_sideKindOf 10 = .ok (.ireturn, 1) := by decide +kernel
theorem dX3_allWays_0 : decode cX3_allWays 0 = .ok (.iconst 0, 1) := by decide +kernel
theorem dX3_allWays_1 : decode cX3_allWays 1 = .ok (.istore_n 1, 1) := by decide +kernel
theorem dX3_allWays_2 : decode cX3_allWays 2 = .ok (.iconst 0, 1) := by decide +kernel
theorem dX3_allWays_3 : decode cX3_allWays 3 = .ok (.istore_n 2, 1) := by decide +kernel
theorem dX3_allWays_4 : decode cX3_allWays 4 = .ok (.iload_n 2, 1) := by decide +kernel
theorem dX3_allWays_5 : decode cX3_allWays 5 = .ok (.aload_n 0, 1) := by decide +kernel
theorem dX3_allWays_6 : decode cX3_allWays 6 = .ok (.getfield 66, 3) := by decide +kernel
theorem dX3_allWays_9 : decode cX3_allWays 9 = .ok (.if_icmp .ge 17, 3) := by decide +kernel
theorem dX3_allWays_12 : decode cX3_allWays 12 = .ok (.iload_n 1, 1) := by decide +kernel
theorem dX3_allWays_13 : decode cX3_allWays 13 = .ok (.aload_n 0, 1) := by decide +kernel
theorem dX3_allWays_14 : decode cX3_allWays 14 = .ok (.iload_n 2, 1) := by decide +kernel
theorem dX3_allWays_15 : decode cX3_allWays 15 = .ok (.invokevirtual 98, 3) := by decide +kernel
theorem dX3_allWays_18 : decode cX3_allWays 18 = .ok (.iadd, 1) := by decide +kernel
theorem dX3_allWays_19 : decode cX3_allWays 19 = .ok (.istore_n 1, 1) := by decide +kernel
theorem dX3_allWays_20 : decode cX3_allWays 20 = .ok (.iinc 2 1, 3) := by decide +kernel
theorem dX3_allWays_23 : decode cX3_allWays 23 = .ok (.goto (-19), 3) := by decide +kernel
theorem dX3_allWays_26 : decode cX3_allWays 26 = .ok (.iload_n 1, 1) := by decide +kernel
theorem dX3_allWays_27 : decode cX3_allWays 27 = .ok (.ireturn, 1) := by decide +kernel
theorem dX3_withoutLoops_0 : decode cX3_withoutLoops 0 = .ok (.iconst 0, 1) := by decide +kernel
theorem dX3_withoutLoops_1 : decode cX3_withoutLoops 1 = .ok (.istore_n 1, 1) := by decide +kernel
theorem dX3_withoutLoops_2 : decode cX3_withoutLoops 2 = .ok (.iconst 0, 1) := by decide +kernel
theorem dX3_withoutLoops_3 : decode cX3_withoutLoops 3 = .ok (.istore_n 2, 1) := by decide +kernel
theorem dX3_withoutLoops_4 : decode cX3_withoutLoops 4 = .ok (.iload_n 2, 1) := by decide +kernel
theorem dX3_withoutLoops_5 : decode cX3_withoutLoops 5 = .ok (.aload_n 0, 1) := by decide +kernel
theorem dX3_withoutLoops_6 : decode cX3_withoutLoops 6 = .ok (.getfield 66, 3) := by decide +kernel
theorem dX3_withoutLoops_9 : decode cX3_withoutLoops 9 = .ok (.if_icmp .ge 25, 3) := by decide +kernel
theorem dX3_withoutLoops_12 : decode cX3_withoutLoops 12 = .ok (.iload_n 1, 1) := by decide +kernel
theorem dX3_withoutLoops_13 : decode cX3_withoutLoops 13 = .ok (.aload_n 0, 1) := by decide +kernel
theorem dX3_withoutLoops_14 : decode cX3_withoutLoops 14 = .ok (.iload_n 2, 1) := by decide +kernel
theorem dX3_withoutLoops_15 : decode cX3_withoutLoops 15 = .ok (.invokevirtual 94, 3) := by decide +kernel
theorem dX3_withoutLoops_18 : decode cX3_withoutLoops 18 = .ok (.ifCond .ne 7, 3) := by decide +kernel
theorem dX3_withoutLoops_21 : decode cX3_withoutLoops 21 = .ok (.iconst 1, 1) := by decide +kernel
theorem dX3_withoutLoops_22 : decode cX3_withoutLoops 22 = .ok (.goto 4, 3) := by decide +kernel
theorem dX3_withoutLoops_25 : decode cX3_withoutLoops 25 = .ok (.iconst 0, 1) := by decide +kernel
theorem dX3_withoutLoops_26 : decode cX3_withoutLoops 26 = .ok (.iadd, 1) := by decide +kernel
theorem dX3_withoutLoops_27 : decode cX3_withoutLoops 27 = .ok (.istore_n 1, 1) := by decide +kernel
theorem dX3_withoutLoops_28 : decode cX3_withoutLoops 28 = .ok (.iinc 2 1, 3) := by decide +kernel
theorem dX3_withoutLoops_31 : decode cX3_withoutLoops 31 = .ok (.goto (-27), 3) := by decide +kernel
theorem dX3_withoutLoops_34 : decode cX3_withoutLoops 34 = .ok (.iload_n 1, 1) := by decide +kernel
theorem dX3_withoutLoops_35 : decode cX3_withoutLoops 35 = .ok (.ireturn, 1) := by decide +kernel
theorem dX3_withoutCuts_0 : decode cX3_withoutCuts 0 = .ok (.iconst 0, 1) := by decide +kernel
theorem dX3_withoutCuts_1 : decode cX3_withoutCuts 1 = .ok (.istore_n 1, 1) := by decide +kernel
theorem dX3_withoutCuts_2 : decode cX3_withoutCuts 2 = .ok (.iconst 0, 1) := by decide +kernel
theorem dX3_withoutCuts_3 : decode cX3_withoutCuts 3 = .ok (.istore_n 2, 1) := by decide +kernel
theorem dX3_withoutCuts_4 : decode cX3_withoutCuts 4 = .ok (.iload_n 2, 1) := by decide +kernel
theorem dX3_withoutCuts_5 : decode cX3_withoutCuts 5 = .ok (.aload_n 0, 1) := by decide +kernel
theorem dX3_withoutCuts_6 : decode cX3_withoutCuts 6 = .ok (.getfield 66, 3) := by decide +kernel
theorem dX3_withoutCuts_9 : decode cX3_withoutCuts 9 = .ok (.if_icmp .ge 26, 3) := by decide +kernel
theorem dX3_withoutCuts_12 : decode cX3_withoutCuts 12 = .ok (.iload_n 1, 1) := by decide +kernel
theorem dX3_withoutCuts_13 : decode cX3_withoutCuts 13 = .ok (.aload_n 0, 1) := by decide +kernel
theorem dX3_withoutCuts_14 : decode cX3_withoutCuts 14 = .ok (.getfield 25, 3) := by decide +kernel
theorem dX3_withoutCuts_17 : decode cX3_withoutCuts 17 = .ok (.iload_n 2, 1) := by decide +kernel
theorem dX3_withoutCuts_18 : decode cX3_withoutCuts 18 = .ok (.iaload, 1) := by decide +kernel
theorem dX3_withoutCuts_19 : decode cX3_withoutCuts 19 = .ok (.ifCond .ne 7, 3) := by decide +kernel
theorem dX3_withoutCuts_22 : decode cX3_withoutCuts 22 = .ok (.iconst 1, 1) := by decide +kernel
theorem dX3_withoutCuts_23 : decode cX3_withoutCuts 23 = .ok (.goto 4, 3) := by decide +kernel
theorem dX3_withoutCuts_26 : decode cX3_withoutCuts 26 = .ok (.iconst 0, 1) := by decide +kernel
theorem dX3_withoutCuts_27 : decode cX3_withoutCuts 27 = .ok (.iadd, 1) := by decide +kernel
theorem dX3_withoutCuts_28 : decode cX3_withoutCuts 28 = .ok (.istore_n 1, 1) := by decide +kernel
theorem dX3_withoutCuts_29 : decode cX3_withoutCuts 29 = .ok (.iinc 2 1, 3) := by decide +kernel
theorem dX3_withoutCuts_32 : decode cX3_withoutCuts 32 = .ok (.goto (-28), 3) := by decide +kernel
theorem dX3_withoutCuts_35 : decode cX3_withoutCuts 35 = .ok (.iload_n 1, 1) := by decide +kernel
theorem dX3_withoutCuts_36 : decode cX3_withoutCuts 36 = .ok (.ireturn, 1) := by decide +kernel
theorem dX3_find_0 : decode cX3_find 0 = .ok (.iconst 0, 1) := by decide +kernel
theorem dX3_find_1 : decode cX3_find 1 = .ok (.istore 4, 2) := by decide +kernel
theorem dX3_find_3 : decode cX3_find 3 = .ok (.iload 4, 2) := by decide +kernel
theorem dX3_find_5 : decode cX3_find 5 = .ok (.aload_n 0, 1) := by decide +kernel
theorem dX3_find_6 : decode cX3_find 6 = .ok (.getfield 66, 3) := by decide +kernel
theorem dX3_find_9 : decode cX3_find 9 = .ok (.if_icmp .ge 35, 3) := by decide +kernel
theorem dX3_find_12 : decode cX3_find 12 = .ok (.aload_n 0, 1) := by decide +kernel
theorem dX3_find_13 : decode cX3_find 13 = .ok (.getfield 22, 3) := by decide +kernel
theorem dX3_find_16 : decode cX3_find 16 = .ok (.iload 4, 2) := by decide +kernel
theorem dX3_find_18 : decode cX3_find 18 = .ok (.iaload, 1) := by decide +kernel
theorem dX3_find_19 : decode cX3_find 19 = .ok (.iload_n 1, 1) := by decide +kernel
theorem dX3_find_20 : decode cX3_find 20 = .ok (.if_icmp .ne 18, 3) := by decide +kernel
theorem dX3_find_23 : decode cX3_find 23 = .ok (.aload_n 0, 1) := by decide +kernel
theorem dX3_find_24 : decode cX3_find 24 = .ok (.getfield 9, 3) := by decide +kernel
theorem dX3_find_27 : decode cX3_find 27 = .ok (.iload 4, 2) := by decide +kernel
theorem dX3_find_29 : decode cX3_find 29 = .ok (.laload, 1) := by decide +kernel
theorem dX3_find_30 : decode cX3_find 30 = .ok (.lload_n 2, 1) := by decide +kernel
theorem dX3_find_31 : decode cX3_find 31 = .ok (.lcmp, 1) := by decide +kernel
theorem dX3_find_32 : decode cX3_find 32 = .ok (.ifCond .ne 6, 3) := by decide +kernel
theorem dX3_find_35 : decode cX3_find 35 = .ok (.iload 4, 2) := by decide +kernel
theorem dX3_find_37 : decode cX3_find 37 = .ok (.ireturn, 1) := by decide +kernel
theorem dX3_find_38 : decode cX3_find 38 = .ok (.iinc 4 1, 3) := by decide +kernel
theorem dX3_find_41 : decode cX3_find 41 = .ok (.goto (-38), 3) := by decide +kernel
theorem dX3_find_44 : decode cX3_find 44 = .ok (.bipush (-2), 2) := by decide +kernel
theorem dX3_find_46 : decode cX3_find 46 = .ok (.ireturn, 1) := by decide +kernel
theorem dX3_signedWays_0 : decode cX3_signedWays 0 = .ok (.lconst 0, 1) := by decide +kernel
theorem dX3_signedWays_1 : decode cX3_signedWays 1 = .ok (.lstore_n 2, 1) := by decide +kernel
theorem dX3_signedWays_2 : decode cX3_signedWays 2 = .ok (.iconst 0, 1) := by decide +kernel
theorem dX3_signedWays_3 : decode cX3_signedWays 3 = .ok (.istore 4, 2) := by decide +kernel
theorem dX3_signedWays_5 : decode cX3_signedWays 5 = .ok (.iload 4, 2) := by decide +kernel
theorem dX3_signedWays_7 : decode cX3_signedWays 7 = .ok (.aload_n 0, 1) := by decide +kernel
theorem dX3_signedWays_8 : decode cX3_signedWays 8 = .ok (.getfield 66, 3) := by decide +kernel
theorem dX3_signedWays_11 : decode cX3_signedWays 11 = .ok (.if_icmp .ge 39, 3) := by decide +kernel
theorem dX3_signedWays_14 : decode cX3_signedWays 14 = .ok (.aload_n 0, 1) := by decide +kernel
theorem dX3_signedWays_15 : decode cX3_signedWays 15 = .ok (.getfield 22, 3) := by decide +kernel
theorem dX3_signedWays_18 : decode cX3_signedWays 18 = .ok (.iload 4, 2) := by decide +kernel
theorem dX3_signedWays_20 : decode cX3_signedWays 20 = .ok (.iaload, 1) := by decide +kernel
theorem dX3_signedWays_21 : decode cX3_signedWays 21 = .ok (.iload_n 1, 1) := by decide +kernel
theorem dX3_signedWays_22 : decode cX3_signedWays 22 = .ok (.if_icmp .ne 22, 3) := by decide +kernel
theorem dX3_signedWays_25 : decode cX3_signedWays 25 = .ok (.lload_n 2, 1) := by decide +kernel
theorem dX3_signedWays_26 : decode cX3_signedWays 26 = .ok (.aload_n 0, 1) := by decide +kernel
theorem dX3_signedWays_27 : decode cX3_signedWays 27 = .ok (.getfield 19, 3) := by decide +kernel
theorem dX3_signedWays_30 : decode cX3_signedWays 30 = .ok (.iload 4, 2) := by decide +kernel
theorem dX3_signedWays_32 : decode cX3_signedWays 32 = .ok (.iaload, 1) := by decide +kernel
theorem dX3_signedWays_33 : decode cX3_signedWays 33 = .ok (.i2l, 1) := by decide +kernel
theorem dX3_signedWays_34 : decode cX3_signedWays 34 = .ok (.aload_n 0, 1) := by decide +kernel
theorem dX3_signedWays_35 : decode cX3_signedWays 35 = .ok (.iload 4, 2) := by decide +kernel
theorem dX3_signedWays_37 : decode cX3_signedWays 37 = .ok (.invokevirtual 98, 3) := by decide +kernel
theorem dX3_signedWays_40 : decode cX3_signedWays 40 = .ok (.i2l, 1) := by decide +kernel
theorem dX3_signedWays_41 : decode cX3_signedWays 41 = .ok (.lmul, 1) := by decide +kernel
theorem dX3_signedWays_42 : decode cX3_signedWays 42 = .ok (.ladd, 1) := by decide +kernel
theorem dX3_signedWays_43 : decode cX3_signedWays 43 = .ok (.lstore_n 2, 1) := by decide +kernel
theorem dX3_signedWays_44 : decode cX3_signedWays 44 = .ok (.iinc 4 1, 3) := by decide +kernel
theorem dX3_signedWays_47 : decode cX3_signedWays 47 = .ok (.goto (-42), 3) := by decide +kernel
theorem dX3_signedWays_50 : decode cX3_signedWays 50 = .ok (.lload_n 2, 1) := by decide +kernel
theorem dX3_signedWays_51 : decode cX3_signedWays 51 = .ok (.lreturn, 1) := by decide +kernel
theorem dX3_divisor_0 : decode cX3_divisor 0 = .ok (.aload_n 0, 1) := by decide +kernel
theorem dX3_divisor_1 : decode cX3_divisor 1 = .ok (.getfield 43, 3) := by decide +kernel
theorem dX3_divisor_4 : decode cX3_divisor 4 = .ok (.iload_n 1, 1) := by decide +kernel
theorem dX3_divisor_5 : decode cX3_divisor 5 = .ok (.iaload, 1) := by decide +kernel
theorem dX3_divisor_6 : decode cX3_divisor 6 = .ok (.i2l, 1) := by decide +kernel
theorem dX3_divisor_7 : decode cX3_divisor 7 = .ok (.aload_n 0, 1) := by decide +kernel
theorem dX3_divisor_8 : decode cX3_divisor 8 = .ok (.getfield 46, 3) := by decide +kernel
theorem dX3_divisor_11 : decode cX3_divisor 11 = .ok (.iload_n 1, 1) := by decide +kernel
theorem dX3_divisor_12 : decode cX3_divisor 12 = .ok (.iaload, 1) := by decide +kernel
theorem dX3_divisor_13 : decode cX3_divisor 13 = .ok (.i2l, 1) := by decide +kernel
theorem dX3_divisor_14 : decode cX3_divisor 14 = .ok (.lmul, 1) := by decide +kernel
theorem dX3_divisor_15 : decode cX3_divisor 15 = .ok (.lreturn, 1) := by decide +kernel

