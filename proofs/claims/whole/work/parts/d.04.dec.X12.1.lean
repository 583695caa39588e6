theorem dX12_side_46 : decode cX12_side 46 = .ok (.if_icmp .ge 45, 3) := by decide +kernel
theorem dX12_side_49 : decode cX12_side 49 = .ok (.iload_n 2, 1) := by decide +kernel
theorem dX12_side_50 : decode cX12_side 50 = .ok (.ifCond .lt 41, 3) := by decide +kernel
theorem dX12_side_53 : decode cX12_side 53 = .ok (.aload_n 0, 1) := by decide +kernel
theorem dX12_side_54 : decode cX12_side 54 = .ok (.iload 4, 2) := by decide +kernel
theorem dX12_side_56 : decode cX12_side 56 = .ok (.invokevirtual 445, 3) := by decide +kernel
theorem dX12_side_59 : decode cX12_side 59 = .ok (.istore 5, 2) := by decide +kernel
theorem dX12_side_61 : decode cX12_side 61 = .ok (.iload 5, 2) := by decide +kernel
theorem dX12_side_63 : decode cX12_side 63 = .ok (.iconst (-1), 1) := by decide +kernel
theorem dX12_side_64 : decode cX12_side 64 = .ok (.if_icmp .ne 6, 3) := by decide +kernel
theorem dX12_side_67 : decode cX12_side 67 = .ok (.goto 18, 3) := by decide +kernel
theorem dX12_side_70 : decode cX12_side 70 = .ok (.iload_n 3, 1) := by decide +kernel
theorem dX12_side_71 : decode cX12_side 71 = .ok (.ifCond .ne 11, 3) := by decide +kernel
theorem dX12_side_74 : decode cX12_side 74 = .ok (.aload_n 0, 1) := by decide +kernel
theorem dX12_side_75 : decode cX12_side 75 = .ok (.iconst 0, 1) := by decide +kernel
theorem dX12_side_76 : decode cX12_side 76 = .ok (.putfield 147, 3) := by decide +kernel
theorem dX12_side_79 : decode cX12_side 79 = .ok (.iload 5, 2) := by decide +kernel
theorem dX12_side_81 : decode cX12_side 81 = .ok (.ireturn, 1) := by decide +kernel
theorem dX12_side_82 : decode cX12_side 82 = .ok (.iinc 3 (-1), 3) := by decide +kernel
theorem dX12_side_85 : decode cX12_side 85 = .ok (.iinc 4 1, 3) := by decide +kernel
theorem dX12_side_88 : decode cX12_side 88 = .ok (.goto (-48), 3) := by decide +kernel
theorem dX12_side_91 : decode cX12_side 91 = .ok (.iconst 0, 1) := by decide +kernel
theorem dX12_side_92 : decode cX12_side 92 = .ok (.ireturn, 1) := by decide +kernel
theorem dX12_pairings_0 : decode cX12_pairings 0 = .ok (.aload_n 0, 1) := by decide +kernel
theorem dX12_pairings_1 : decode cX12_pairings 1 = .ok (.iconst 0, 1) := by decide +kernel
theorem dX12_pairings_2 : decode cX12_pairings 2 = .ok (.putfield 147, 3) := by decide +kernel
theorem dX12_pairings_5 : decode cX12_pairings 5 = .ok (.aload_n 0, 1) := by decide +kernel
theorem dX12_pairings_6 : decode cX12_pairings 6 = .ok (.getfield 318, 3) := by decide +kernel
theorem dX12_pairings_9 : decode cX12_pairings 9 = .ok (.ifCond .eq 13, 3) := by decide +kernel
theorem dX12_pairings_12 : decode cX12_pairings 12 = .ok (.aload_n 0, 1) := by decide +kernel
theorem dX12_pairings_13 : decode cX12_pairings 13 = .ok (.getfield 47, 3) := by decide +kernel
theorem dX12_pairings_16 : decode cX12_pairings 16 = .ok (.getfield 423, 3) := by decide +kernel
theorem dX12_pairings_19 : decode cX12_pairings 19 = .ok (.goto 4, 3) := by decide +kernel
theorem dX12_pairings_22 : decode cX12_pairings 22 = .ok (.iconst (-1), 1) := by decide +kernel
theorem dX12_pairings_23 : decode cX12_pairings 23 = .ok (.ireturn, 1) := by decide +kernel
theorem dX12_same_0 : decode cX12_same 0 = .ok (.aload_n 0, 1) := by decide +kernel
theorem dX12_same_1 : decode cX12_same 1 = .ok (.iconst 0, 1) := by decide +kernel
theorem dX12_same_2 : decode cX12_same 2 = .ok (.putfield 147, 3) := by decide +kernel
theorem dX12_same_5 : decode cX12_same 5 = .ok (.aload_n 0, 1) := by decide +kernel
theorem dX12_same_6 : decode cX12_same 6 = .ok (.iload_n 1, 1) := by decide +kernel
theorem dX12_same_7 : decode cX12_same 7 = .ok (.invokevirtual 451, 3) := by decide +kernel
theorem dX12_same_10 : decode cX12_same 10 = .ok (.ifCond .ne 5, 3) := by decide +kernel
theorem dX12_same_13 : decode cX12_same 13 = .ok (.iconst (-1), 1) := by decide +kernel
theorem dX12_same_14 : decode cX12_same 14 = .ok (.ireturn, 1) := by decide +kernel
theorem dX12_same_15 : decode cX12_same 15 = .ok (.iconst 0, 1) := by decide +kernel
theorem dX12_same_16 : decode cX12_same 16 = .ok (.istore 8, 2) := by decide +kernel
theorem dX12_same_18 : decode cX12_same 18 = .ok (.iload 8, 2) := by decide +kernel
theorem dX12_same_20 : decode cX12_same 20 = .ok (.aload_n 0, 1) := by decide +kernel
theorem dX12_same_21 : decode cX12_same 21 = .ok (.getfield 47, 3) := by decide +kernel
theorem dX12_same_24 : decode cX12_same 24 = .ok (.getfield 339, 3) := by decide +kernel
theorem dX12_same_27 : decode cX12_same 27 = .ok (.if_icmp .ge 30, 3) := by decide +kernel
theorem dX12_same_30 : decode cX12_same 30 = .ok (.aload_n 0, 1) := by decide +kernel
theorem dX12_same_31 : decode cX12_same 31 = .ok (.getfield 88, 3) := by decide +kernel
theorem dX12_same_34 : decode cX12_same 34 = .ok (.iload 8, 2) := by decide +kernel
theorem dX12_same_36 : decode cX12_same 36 = .ok (.aload_n 0, 1) := by decide +kernel
theorem dX12_same_37 : decode cX12_same 37 = .ok (.getfield 47, 3) := by decide +kernel
theorem dX12_same_40 : decode cX12_same 40 = .ok (.getfield 407, 3) := by decide +kernel
theorem dX12_same_43 : decode cX12_same 43 = .ok (.iconst 3, 1) := by decide +kernel
theorem dX12_same_44 : decode cX12_same 44 = .ok (.iload_n 1, 1) := by decide +kernel
theorem dX12_same_45 : decode cX12_same 45 = .ok (.imul, 1) := by decide +kernel
theorem dX12_same_46 : decode cX12_same 46 = .ok (.iload 8, 2) := by decide +kernel
theorem dX12_same_48 : decode cX12_same 48 = .ok (.iadd, 1) := by decide +kernel
theorem dX12_same_49 : decode cX12_same 49 = .ok (.iaload, 1) := by decide +kernel
theorem dX12_same_50 : decode cX12_same 50 = .ok (.iastore, 1) := by decide +kernel
theorem dX12_same_51 : decode cX12_same 51 = .ok (.iinc 8 1, 3) := by decide +kernel
theorem dX12_same_54 : decode cX12_same 54 = .ok (.goto (-36), 3) := by decide +kernel
theorem dX12_same_57 : decode cX12_same 57 = .ok (.aload_n 0, 1) := by decide +kernel
theorem dX12_same_58 : decode cX12_same 58 = .ok (.aload_n 0, 1) := by decide +kernel
theorem dX12_same_59 : decode cX12_same 59 = .ok (.getfield 47, 3) := by decide +kernel
theorem dX12_same_62 : decode cX12_same 62 = .ok (.aload_n 0, 1) := by decide +kernel
theorem dX12_same_63 : decode cX12_same 63 = .ok (.getfield 88, 3) := by decide +kernel
theorem dX12_same_66 : decode cX12_same 66 = .ok (.iconst 0, 1) := by decide +kernel
theorem dX12_same_67 : decode cX12_same 67 = .ok (.invokevirtual 393, 3) := by decide +kernel
theorem dX12_same_70 : decode cX12_same 70 = .ok (.istore 8, 2) := by decide +kernel
theorem dX12_same_72 : decode cX12_same 72 = .ok (.aload_n 0, 1) := by decide +kernel
theorem dX12_same_73 : decode cX12_same 73 = .ok (.getfield 91, 3) := by decide +kernel
theorem dX12_same_76 : decode cX12_same 76 = .ok (.iconst 0, 1) := by decide +kernel
theorem dX12_same_77 : decode cX12_same 77 = .ok (.iload_n 2, 1) := by decide +kernel
theorem dX12_same_78 : decode cX12_same 78 = .ok (.iastore, 1) := by decide +kernel
theorem dX12_same_79 : decode cX12_same 79 = .ok (.aload_n 0, 1) := by decide +kernel
theorem dX12_same_80 : decode cX12_same 80 = .ok (.getfield 91, 3) := by decide +kernel
theorem dX12_same_83 : decode cX12_same 83 = .ok (.iconst 1, 1) := by decide +kernel
theorem dX12_same_84 : decode cX12_same 84 = .ok (.iload_n 3, 1) := by decide +kernel
theorem dX12_same_85 : decode cX12_same 85 = .ok (.iastore, 1) := by decide +kernel
theorem dX12_same_86 : decode cX12_same 86 = .ok (.aload_n 0, 1) := by decide +kernel
theorem dX12_same_87 : decode cX12_same 87 = .ok (.getfield 91, 3) := by decide +kernel
theorem dX12_same_90 : decode cX12_same 90 = .ok (.iconst 2, 1) := by decide +kernel
theorem dX12_same_91 : decode cX12_same 91 = .ok (.iload 4, 2) := by decide +kernel
theorem dX12_same_93 : decode cX12_same 93 = .ok (.iastore, 1) := by decide +kernel
theorem dX12_same_94 : decode cX12_same 94 = .ok (.aload_n 0, 1) := by decide +kernel
theorem dX12_same_95 : decode cX12_same 95 = .ok (.getfield 91, 3) := by decide +kernel
theorem dX12_same_98 : decode cX12_same 98 = .ok (.iconst 3, 1) := by decide +kernel
theorem dX12_same_99 : decode cX12_same 99 = .ok (.iload 5, 2) := by decide +kernel
theorem dX12_same_101 : decode cX12_same 101 = .ok (.iastore, 1) := by decide +kernel
theorem dX12_same_102 : decode cX12_same 102 = .ok (.aload_n 0, 1) := by decide +kernel
theorem dX12_same_103 : decode cX12_same 103 = .ok (.getfield 91, 3) := by decide +kernel
theorem dX12_same_106 : decode cX12_same 106 = .ok (.iconst 4, 1) := by decide +kernel
theorem dX12_same_107 : decode cX12_same 107 = .ok (.iload 6, 2) := by decide +kernel
theorem dX12_same_109 : decode cX12_same 109 = .ok (.iastore, 1) := by decide +kernel
theorem dX12_same_110 : decode cX12_same 110 = .ok (.aload_n 0, 1) := by decide +kernel
theorem dX12_same_111 : decode cX12_same 111 = .ok (.getfield 91, 3) := by decide +kernel
theorem dX12_same_114 : decode cX12_same 114 = .ok (.iconst 5, 1) := by decide +kernel
theorem dX12_same_115 : decode cX12_same 115 = .ok (.iload 7, 2) := by decide +kernel
theorem dX12_same_117 : decode cX12_same 117 = .ok (.iastore, 1) := by decide +kernel
theorem dX12_same_118 : decode cX12_same 118 = .ok (.iconst 0, 1) := by decide +kernel
theorem dX12_same_119 : decode cX12_same 119 = .ok (.istore 9, 2) := by decide +kernel
theorem dX12_same_121 : decode cX12_same 121 = .ok (.iload 9, 2) := by decide +kernel
theorem dX12_same_123 : decode cX12_same 123 = .ok (.aload_n 0, 1) := by decide +kernel
theorem dX12_same_124 : decode cX12_same 124 = .ok (.getfield 331, 3) := by decide +kernel
theorem dX12_same_127 : decode cX12_same 127 = .ok (.if_icmp .ge 55, 3) := by decide +kernel
theorem dX12_same_130 : decode cX12_same 130 = .ok (.aload_n 0, 1) := by decide +kernel
theorem dX12_same_131 : decode cX12_same 131 = .ok (.getfield 91, 3) := by decide +kernel
theorem dX12_same_134 : decode cX12_same 134 = .ok (.iload 9, 2) := by decide +kernel
theorem dX12_same_136 : decode cX12_same 136 = .ok (.iconst 2, 1) := by decide +kernel
theorem dX12_same_137 : decode cX12_same 137 = .ok (.idiv, 1) := by decide +kernel
theorem dX12_same_138 : decode cX12_same 138 = .ok (.iaload, 1) := by decide +kernel
theorem dX12_same_139 : decode cX12_same 139 = .ok (.istore 10, 2) := by decide +kernel
theorem dX12_same_141 : decode cX12_same 141 = .ok (.iload 10, 2) := by decide +kernel
theorem dX12_same_143 : decode cX12_same 143 = .ok (.ifCond .ge 6, 3) := by decide +kernel
theorem dX12_same_146 : decode cX12_same 146 = .ok (.bipush (-2), 2) := by decide +kernel
theorem dX12_same_148 : decode cX12_same 148 = .ok (.ireturn, 1) := by decide +kernel
theorem dX12_same_149 : decode cX12_same 149 = .ok (.aload_n 0, 1) := by decide +kernel
theorem dX12_same_150 : decode cX12_same 150 = .ok (.getfield 63, 3) := by decide +kernel
theorem dX12_same_153 : decode cX12_same 153 = .ok (.iload 9, 2) := by decide +kernel
theorem dX12_same_155 : decode cX12_same 155 = .ok (.iload 9, 2) := by decide +kernel
theorem dX12_same_157 : decode cX12_same 157 = .ok (.iconst 2, 1) := by decide +kernel
theorem dX12_same_158 : decode cX12_same 158 = .ok (.irem, 1) := by decide +kernel
theorem dX12_same_159 : decode cX12_same 159 = .ok (.ifCond .ne 11, 3) := by decide +kernel
theorem dX12_same_162 : decode cX12_same 162 = .ok (.iload 10, 2) := by decide +kernel
theorem dX12_same_164 : decode cX12_same 164 = .ok (.bipush 100, 2) := by decide +kernel
theorem dX12_same_166 : decode cX12_same 166 = .ok (.idiv, 1) := by decide +kernel
theorem dX12_same_167 : decode cX12_same 167 = .ok (.goto 8, 3) := by decide +kernel
theorem dX12_same_170 : decode cX12_same 170 = .ok (.iload 10, 2) := by decide +kernel
theorem dX12_same_172 : decode cX12_same 172 = .ok (.bipush 100, 2) := by decide +kernel
theorem dX12_same_174 : decode cX12_same 174 = .ok (.irem, 1) := by decide +kernel
theorem dX12_same_175 : decode cX12_same 175 = .ok (.iastore, 1) := by decide +kernel
theorem dX12_same_176 : decode cX12_same 176 = .ok (.iinc 9 1, 3) := by decide +kernel
theorem dX12_same_179 : decode cX12_same 179 = .ok (.goto (-58), 3) := by decide +kernel
theorem dX12_same_182 : decode cX12_same 182 = .ok (.iconst 0, 1) := by decide +kernel
theorem dX12_same_183 : decode cX12_same 183 = .ok (.istore 9, 2) := by decide +kernel
theorem dX12_same_185 : decode cX12_same 185 = .ok (.iload 9, 2) := by decide +kernel
theorem dX12_same_187 : decode cX12_same 187 = .ok (.aload_n 0, 1) := by decide +kernel
theorem dX12_same_188 : decode cX12_same 188 = .ok (.getfield 331, 3) := by decide +kernel
theorem dX12_same_191 : decode cX12_same 191 = .ok (.if_icmp .ge 55, 3) := by decide +kernel
theorem dX12_same_194 : decode cX12_same 194 = .ok (.aload_n 0, 1) := by decide +kernel
theorem dX12_same_195 : decode cX12_same 195 = .ok (.getfield 63, 3) := by decide +kernel
theorem dX12_same_198 : decode cX12_same 198 = .ok (.iload 9, 2) := by decide +kernel
theorem dX12_same_200 : decode cX12_same 200 = .ok (.iaload, 1) := by decide +kernel
theorem dX12_same_201 : decode cX12_same 201 = .ok (.aload_n 0, 1) := by decide +kernel
theorem dX12_same_202 : decode cX12_same 202 = .ok (.getfield 331, 3) := by decide +kernel
theorem dX12_same_205 : decode cX12_same 205 = .ok (.if_icmp .ge 32, 3) := by decide +kernel
theorem dX12_same_208 : decode cX12_same 208 = .ok (.aload_n 0, 1) := by decide +kernel
theorem dX12_same_209 : decode cX12_same 209 = .ok (.getfield 63, 3) := by decide +kernel
theorem dX12_same_212 : decode cX12_same 212 = .ok (.iload 9, 2) := by decide +kernel
theorem dX12_same_214 : decode cX12_same 214 = .ok (.iaload, 1) := by decide +kernel
theorem dX12_same_215 : decode cX12_same 215 = .ok (.iload 9, 2) := by decide +kernel
theorem dX12_same_217 : decode cX12_same 217 = .ok (.if_icmp .eq 20, 3) := by decide +kernel
theorem dX12_same_220 : decode cX12_same 220 = .ok (.aload_n 0, 1) := by decide +kernel
theorem dX12_same_221 : decode cX12_same 221 = .ok (.getfield 63, 3) := by decide +kernel
theorem dX12_same_224 : decode cX12_same 224 = .ok (.aload_n 0, 1) := by decide +kernel
theorem dX12_same_225 : decode cX12_same 225 = .ok (.getfield 63, 3) := by decide +kernel
theorem dX12_same_228 : decode cX12_same 228 = .ok (.iload 9, 2) := by decide +kernel
theorem dX12_same_230 : decode cX12_same 230 = .ok (.iaload, 1) := by decide +kernel
theorem dX12_same_231 : decode cX12_same 231 = .ok (.iaload, 1) := by decide +kernel
theorem dX12_same_232 : decode cX12_same 232 = .ok (.iload 9, 2) := by decide +kernel
theorem dX12_same_234 : decode cX12_same 234 = .ok (.if_icmp .eq 6, 3) := by decide +kernel
theorem dX12_same_237 : decode cX12_same 237 = .ok (.bipush (-2), 2) := by decide +kernel
theorem dX12_same_239 : decode cX12_same 239 = .ok (.ireturn, 1) := by decide +kernel
theorem dX12_same_240 : decode cX12_same 240 = .ok (.iinc 9 1, 3) := by decide +kernel
theorem dX12_same_243 : decode cX12_same 243 = .ok (.goto (-58), 3) := by decide +kernel
theorem dX12_same_246 : decode cX12_same 246 = .ok (.aload_n 0, 1) := by decide +kernel
theorem dX12_same_247 : decode cX12_same 247 = .ok (.invokevirtual 362, 3) := by decide +kernel
theorem dX12_same_250 : decode cX12_same 250 = .ok (.lstore 9, 2) := by decide +kernel
theorem dX12_same_252 : decode cX12_same 252 = .ok (.aload_n 0, 1) := by decide +kernel
theorem dX12_same_253 : decode cX12_same 253 = .ok (.invokevirtual 397, 3) := by decide +kernel
theorem dX12_same_256 : decode cX12_same 256 = .ok (.aload_n 0, 1) := by decide +kernel
theorem dX12_same_257 : decode cX12_same 257 = .ok (.lload 9, 2) := by decide +kernel
theorem dX12_same_259 : decode cX12_same 259 = .ok (.invokevirtual 370, 3) := by decide +kernel
theorem dX12_same_262 : decode cX12_same 262 = .ok (.istore 11, 2) := by decide +kernel
theorem dX12_same_264 : decode cX12_same 264 = .ok (.iload 11, 2) := by decide +kernel
theorem dX12_same_266 : decode cX12_same 266 = .ok (.iconst (-1), 1) := by decide +kernel
theorem dX12_same_267 : decode cX12_same 267 = .ok (.if_icmp .ne 6, 3) := by decide +kernel
theorem dX12_same_270 : decode cX12_same 270 = .ok (.bipush (-2), 2) := by decide +kernel
theorem dX12_same_272 : decode cX12_same 272 = .ok (.ireturn, 1) := by decide +kernel
theorem dX12_same_273 : decode cX12_same 273 = .ok (.iconst 0, 1) := by decide +kernel
theorem dX12_same_274 : decode cX12_same 274 = .ok (.istore 12, 2) := by decide +kernel
theorem dX12_same_276 : decode cX12_same 276 = .ok (.iload 12, 2) := by decide +kernel
theorem dX12_same_278 : decode cX12_same 278 = .ok (.aload_n 0, 1) := by decide +kernel
theorem dX12_same_279 : decode cX12_same 279 = .ok (.getfield 47, 3) := by decide +kernel
theorem dX12_same_282 : decode cX12_same 282 = .ok (.getfield 404, 3) := by decide +kernel
theorem dX12_same_285 : decode cX12_same 285 = .ok (.if_icmp .ge 124, 3) := by decide +kernel
theorem dX12_same_288 : decode cX12_same 288 = .ok (.iconst 1, 1) := by decide +kernel
theorem dX12_same_289 : decode cX12_same 289 = .ok (.istore 13, 2) := by decide +kernel
theorem dX12_same_291 : decode cX12_same 291 = .ok (.iconst 0, 1) := by decide +kernel
theorem dX12_same_292 : decode cX12_same 292 = .ok (.istore 14, 2) := by decide +kernel
theorem dX12_same_294 : decode cX12_same 294 = .ok (.iload 14, 2) := by decide +kernel
theorem dX12_same_296 : decode cX12_same 296 = .ok (.aload_n 0, 1) := by decide +kernel
theorem dX12_same_297 : decode cX12_same 297 = .ok (.getfield 47, 3) := by decide +kernel
theorem dX12_same_300 : decode cX12_same 300 = .ok (.getfield 339, 3) := by decide +kernel
theorem dX12_same_303 : decode cX12_same 303 = .ok (.if_icmp .ge 46, 3) := by decide +kernel
theorem dX12_same_306 : decode cX12_same 306 = .ok (.iload 13, 2) := by decide +kernel
theorem dX12_same_308 : decode cX12_same 308 = .ok (.ifCond .eq 32, 3) := by decide +kernel
theorem dX12_same_311 : decode cX12_same 311 = .ok (.aload_n 0, 1) := by decide +kernel
theorem dX12_same_312 : decode cX12_same 312 = .ok (.getfield 47, 3) := by decide +kernel
theorem dX12_same_315 : decode cX12_same 315 = .ok (.getfield 407, 3) := by decide +kernel
theorem dX12_same_318 : decode cX12_same 318 = .ok (.iconst 3, 1) := by decide +kernel
theorem dX12_same_319 : decode cX12_same 319 = .ok (.iload 12, 2) := by decide +kernel
theorem dX12_same_321 : decode cX12_same 321 = .ok (.imul, 1) := by decide +kernel
theorem dX12_same_322 : decode cX12_same 322 = .ok (.iload 14, 2) := by decide +kernel
theorem dX12_same_324 : decode cX12_same 324 = .ok (.iadd, 1) := by decide +kernel
theorem dX12_same_325 : decode cX12_same 325 = .ok (.iaload, 1) := by decide +kernel
theorem dX12_same_326 : decode cX12_same 326 = .ok (.aload_n 0, 1) := by decide +kernel
theorem dX12_same_327 : decode cX12_same 327 = .ok (.getfield 88, 3) := by decide +kernel
theorem dX12_same_330 : decode cX12_same 330 = .ok (.iload 14, 2) := by decide +kernel
theorem dX12_same_332 : decode cX12_same 332 = .ok (.iaload, 1) := by decide +kernel
theorem dX12_same_333 : decode cX12_same 333 = .ok (.if_icmp .ne 7, 3) := by decide +kernel
theorem dX12_same_336 : decode cX12_same 336 = .ok (.iconst 1, 1) := by decide +kernel
theorem dX12_same_337 : decode cX12_same 337 = .ok (.goto 4, 3) := by decide +kernel
theorem dX12_same_340 : decode cX12_same 340 = .ok (.iconst 0, 1) := by decide +kernel
theorem dX12_same_341 : decode cX12_same 341 = .ok (.istore 13, 2) := by decide +kernel
theorem dX12_same_343 : decode cX12_same 343 = .ok (.iinc 14 1, 3) := by decide +kernel
theorem dX12_same_346 : decode cX12_same 346 = .ok (.goto (-52), 3) := by decide +kernel
theorem dX12_same_349 : decode cX12_same 349 = .ok (.iload 13, 2) := by decide +kernel
theorem dX12_same_351 : decode cX12_same 351 = .ok (.ifCond .ne 6, 3) := by decide +kernel
theorem dX12_same_354 : decode cX12_same 354 = .ok (.goto 49, 3) := by decide +kernel
theorem dX12_same_357 : decode cX12_same 357 = .ok (.aload_n 0, 1) := by decide +kernel
theorem dX12_same_358 : decode cX12_same 358 = .ok (.aload_n 0, 1) := by decide +kernel
theorem dX12_same_359 : decode cX12_same 359 = .ok (.getfield 47, 3) := by decide +kernel
theorem dX12_same_362 : decode cX12_same 362 = .ok (.aload_n 0, 1) := by decide +kernel
theorem dX12_same_363 : decode cX12_same 363 = .ok (.getfield 88, 3) := by decide +kernel
theorem dX12_same_366 : decode cX12_same 366 = .ok (.iconst 0, 1) := by decide +kernel
theorem dX12_same_367 : decode cX12_same 367 = .ok (.aload_n 0, 1) := by decide +kernel
theorem dX12_same_368 : decode cX12_same 368 = .ok (.aload_n 0, 1) := by decide +kernel
theorem dX12_same_369 : decode cX12_same 369 = .ok (.getfield 47, 3) := by decide +kernel
theorem dX12_same_372 : decode cX12_same 372 = .ok (.getfield 410, 3) := by decide +kernel
theorem dX12_same_375 : decode cX12_same 375 = .ok (.iload 12, 2) := by decide +kernel
theorem dX12_same_377 : decode cX12_same 377 = .ok (.laload, 1) := by decide +kernel
theorem dX12_same_378 : decode cX12_same 378 = .ok (.invokevirtual 370, 3) := by decide +kernel
theorem dX12_same_381 : decode cX12_same 381 = .ok (.iload 12, 2) := by decide +kernel
theorem dX12_same_383 : decode cX12_same 383 = .ok (.invokevirtual 419, 3) := by decide +kernel
theorem dX12_same_386 : decode cX12_same 386 = .ok (.istore 14, 2) := by decide +kernel
theorem dX12_same_388 : decode cX12_same 388 = .ok (.aload_n 0, 1) := by decide +kernel
theorem dX12_same_389 : decode cX12_same 389 = .ok (.getfield 76, 3) := by decide +kernel
theorem dX12_same_392 : decode cX12_same 392 = .ok (.iload 11, 2) := by decide +kernel
theorem dX12_same_394 : decode cX12_same 394 = .ok (.iaload, 1) := by decide +kernel
theorem dX12_same_395 : decode cX12_same 395 = .ok (.iload 12, 2) := by decide +kernel
theorem dX12_same_397 : decode cX12_same 397 = .ok (.if_icmp .ne 6, 3) := by decide +kernel
theorem dX12_same_400 : decode cX12_same 400 = .ok (.iload 12, 2) := by decide +kernel
theorem dX12_same_402 : decode cX12_same 402 = .ok (.ireturn, 1) := by decide +kernel
theorem dX12_same_403 : decode cX12_same 403 = .ok (.iinc 12 1, 3) := by decide +kernel
theorem dX12_same_406 : decode cX12_same 406 = .ok (.goto (-130), 3) := by decide +kernel
theorem dX12_same_409 : decode cX12_same 409 = .ok (.bipush (-2), 2) := by decide +kernel
theorem dX12_same_411 : decode cX12_same 411 = .ok (.ireturn, 1) := by decide +kernel
theorem dX12_set_0 : decode cX12_set 0 = .ok (.iconst 0, 1) := by decide +kernel
theorem dX12_set_1 : decode cX12_set 1 = .ok (.istore_n 2, 1) := by decide +kernel
theorem dX12_set_2 : decode cX12_set 2 = .ok (.iload_n 2, 1) := by decide +kernel
theorem dX12_set_3 : decode cX12_set 3 = .ok (.bipush 16, 2) := by decide +kernel
theorem dX12_set_5 : decode cX12_set 5 = .ok (.if_icmp .ge 29, 3) := by decide +kernel
theorem dX12_set_8 : decode cX12_set 8 = .ok (.aload_n 0, 1) := by decide +kernel
theorem dX12_set_9 : decode cX12_set 9 = .ok (.iload_n 2, 1) := by decide +kernel
theorem dX12_set_10 : decode cX12_set 10 = .ok (.iload_n 2, 1) := by decide +kernel
theorem dX12_set_11 : decode cX12_set 11 = .ok (.ifCond .ne 7, 3) := by decide +kernel
theorem dX12_set_14 : decode cX12_set 14 = .ok (.iload_n 1, 1) := by decide +kernel
theorem dX12_set_15 : decode cX12_set 15 = .ok (.goto 12, 3) := by decide +kernel
theorem dX12_set_18 : decode cX12_set 18 = .ok (.iload_n 1, 1) := by decide +kernel
theorem dX12_set_19 : decode cX12_set 19 = .ok (.ifCond .ge 7, 3) := by decide +kernel
theorem dX12_set_22 : decode cX12_set 22 = .ok (.iconst (-1), 1) := by decide +kernel
theorem dX12_set_23 : decode cX12_set 23 = .ok (.goto 4, 3) := by decide +kernel
theorem dX12_set_26 : decode cX12_set 26 = .ok (.iconst 0, 1) := by decide +kernel
theorem dX12_set_27 : decode cX12_set 27 = .ok (.iastore, 1) := by decide +kernel
theorem dX12_set_28 : decode cX12_set 28 = .ok (.iinc 2 1, 3) := by decide +kernel
theorem dX12_set_31 : decode cX12_set 31 = .ok (.goto (-29), 3) := by decide +kernel
theorem dX12_set_34 : decode cX12_set 34 = .ok (.return_, 1) := by decide +kernel
theorem dX12_copies_0 : decode cX12_copies 0 = .ok (.iconst 0, 1) := by decide +kernel
theorem dX12_copies_1 : decode cX12_copies 1 = .ok (.istore_n 2, 1) := by decide +kernel
theorem dX12_copies_2 : decode cX12_copies 2 = .ok (.iload_n 2, 1) := by decide +kernel
theorem dX12_copies_3 : decode cX12_copies 3 = .ok (.bipush 16, 2) := by decide +kernel
theorem dX12_copies_5 : decode cX12_copies 5 = .ok (.if_icmp .ge 15, 3) := by decide +kernel
theorem dX12_copies_8 : decode cX12_copies 8 = .ok (.aload_n 0, 1) := by decide +kernel
theorem dX12_copies_9 : decode cX12_copies 9 = .ok (.iload_n 2, 1) := by decide +kernel
theorem dX12_copies_10 : decode cX12_copies 10 = .ok (.aload_n 1, 1) := by decide +kernel
theorem dX12_copies_11 : decode cX12_copies 11 = .ok (.iload_n 2, 1) := by decide +kernel
theorem dX12_copies_12 : decode cX12_copies 12 = .ok (.iaload, 1) := by decide +kernel
theorem dX12_copies_13 : decode cX12_copies 13 = .ok (.iastore, 1) := by decide +kernel
theorem dX12_copies_14 : decode cX12_copies 14 = .ok (.iinc 2 1, 3) := by decide +kernel
theorem dX12_copies_17 : decode cX12_copies 17 = .ok (.goto (-15), 3) := by decide +kernel
theorem dX12_copies_20 : decode cX12_copies 20 = .ok (.return_, 1) := by decide +kernel
theorem dX12_isZero_0 : decode cX12_isZero 0 = .ok (.iconst 1, 1) := by decide +kernel
theorem dX12_isZero_1 : decode cX12_isZero 1 = .ok (.istore_n 1, 1) := by decide +kernel
theorem dX12_isZero_2 : decode cX12_isZero 2 = .ok (.iconst 0, 1) := by decide +kernel
theorem dX12_isZero_3 : decode cX12_isZero 3 = .ok (.istore_n 2, 1) := by decide +kernel
theorem dX12_isZero_4 : decode cX12_isZero 4 = .ok (.iload_n 2, 1) := by decide +kernel
theorem dX12_isZero_5 : decode cX12_isZero 5 = .ok (.bipush 16, 2) := by decide +kernel
theorem dX12_isZero_7 : decode cX12_isZero 7 = .ok (.if_icmp .ge 25, 3) := by decide +kernel
theorem dX12_isZero_10 : decode cX12_isZero 10 = .ok (.iload_n 1, 1) := by decide +kernel
theorem dX12_isZero_11 : decode cX12_isZero 11 = .ok (.ifCond .eq 13, 3) := by decide +kernel
theorem dX12_isZero_14 : decode cX12_isZero 14 = .ok (.aload_n 0, 1) := by decide +kernel
theorem dX12_isZero_15 : decode cX12_isZero 15 = .ok (.iload_n 2, 1) := by decide +kernel
theorem dX12_isZero_16 : decode cX12_isZero 16 = .ok (.iaload, 1) := by decide +kernel
theorem dX12_isZero_17 : decode cX12_isZero 17 = .ok (.ifCond .ne 7, 3) := by decide +kernel
theorem dX12_isZero_20 : decode cX12_isZero 20 = .ok (.iconst 1, 1) := by decide +kernel
theorem dX12_isZero_21 : decode cX12_isZero 21 = .ok (.goto 4, 3) := by decide +kernel
theorem dX12_isZero_24 : decode cX12_isZero 24 = .ok (.iconst 0, 1) := by decide +kernel
theorem dX12_isZero_25 : decode cX12_isZero 25 = .ok (.istore_n 1, 1) := by decide +kernel
theorem dX12_isZero_26 : decode cX12_isZero 26 = .ok (.iinc 2 1, 3) := by decide +kernel
theorem dX12_isZero_29 : decode cX12_isZero 29 = .ok (.goto (-25), 3) := by decide +kernel
theorem dX12_isZero_32 : decode cX12_isZero 32 = .ok (.iload_n 1, 1) := by decide +kernel
theorem dX12_isZero_33 : decode cX12_isZero 33 = .ok (.ireturn, 1) := by decide +kernel
theorem dX12_turns_0 : decode cX12_turns 0 = .ok (.lconst 1, 1) := by decide +kernel
theorem dX12_turns_1 : decode cX12_turns 1 = .ok (.lstore_n 1, 1) := by decide +kernel
theorem dX12_turns_2 : decode cX12_turns 2 = .ok (.iconst 0, 1) := by decide +kernel
theorem dX12_turns_3 : decode cX12_turns 3 = .ok (.istore_n 3, 1) := by decide +kernel
theorem dX12_turns_4 : decode cX12_turns 4 = .ok (.iload_n 3, 1) := by decide +kernel
theorem dX12_turns_5 : decode cX12_turns 5 = .ok (.bipush 16, 2) := by decide +kernel
theorem dX12_turns_7 : decode cX12_turns 7 = .ok (.if_icmp .ge 32, 3) := by decide +kernel
theorem dX12_turns_10 : decode cX12_turns 10 = .ok (.lload_n 1, 1) := by decide +kernel
theorem dX12_turns_11 : decode cX12_turns 11 = .ok (.aload_n 0, 1) := by decide +kernel
theorem dX12_turns_12 : decode cX12_turns 12 = .ok (.iload_n 3, 1) := by decide +kernel
theorem dX12_turns_13 : decode cX12_turns 13 = .ok (.iaload, 1) := by decide +kernel
theorem dX12_turns_14 : decode cX12_turns 14 = .ok (.iconst (-1), 1) := by decide +kernel
theorem dX12_turns_15 : decode cX12_turns 15 = .ok (.ixor, 1) := by decide +kernel
theorem dX12_turns_16 : decode cX12_turns 16 = .ok (.i2l, 1) := by decide +kernel
theorem dX12_turns_17 : decode cX12_turns 17 = .ok (.ldc2_w 470, 3) := by decide +kernel
theorem dX12_turns_20 : decode cX12_turns 20 = .ok (.land, 1) := by decide +kernel
theorem dX12_turns_21 : decode cX12_turns 21 = .ok (.ladd, 1) := by decide +kernel
theorem dX12_turns_22 : decode cX12_turns 22 = .ok (.lstore_n 1, 1) := by decide +kernel
theorem dX12_turns_23 : decode cX12_turns 23 = .ok (.aload_n 0, 1) := by decide +kernel
theorem dX12_turns_24 : decode cX12_turns 24 = .ok (.iload_n 3, 1) := by decide +kernel
theorem dX12_turns_25 : decode cX12_turns 25 = .ok (.lload_n 1, 1) := by decide +kernel
theorem dX12_turns_26 : decode cX12_turns 26 = .ok (.l2i, 1) := by decide +kernel
theorem dX12_turns_27 : decode cX12_turns 27 = .ok (.iastore, 1) := by decide +kernel
theorem dX12_turns_28 : decode cX12_turns 28 = .ok (.lload_n 1, 1) := by decide +kernel
theorem dX12_turns_29 : decode cX12_turns 29 = .ok (.bipush 32, 2) := by decide +kernel
theorem dX12_turns_31 : decode cX12_turns 31 = .ok (.lushr, 1) := by decide +kernel
theorem dX12_turns_32 : decode cX12_turns 32 = .ok (.lstore_n 1, 1) := by decide +kernel
theorem dX12_turns_33 : decode cX12_turns 33 = .ok (.iinc 3 1, 3) := by decide +kernel
theorem dX12_turns_36 : decode cX12_turns 36 = .ok (.goto (-32), 3) := by decide +kernel
theorem dX12_turns_39 : decode cX12_turns 39 = .ok (.return_, 1) := by decide +kernel
theorem dX12_adds_0 : decode cX12_adds 0 = .ok (.lconst 0, 1) := by decide +kernel
theorem dX12_adds_1 : decode cX12_adds 1 = .ok (.lstore_n 2, 1) := by decide +kernel
theorem dX12_adds_2 : decode cX12_adds 2 = .ok (.iconst 0, 1) := by decide +kernel
theorem dX12_adds_3 : decode cX12_adds 3 = .ok (.istore 4, 2) := by decide +kernel
theorem dX12_adds_5 : decode cX12_adds 5 = .ok (.iload 4, 2) := by decide +kernel
theorem dX12_adds_7 : decode cX12_adds 7 = .ok (.bipush 16, 2) := by decide +kernel
theorem dX12_adds_9 : decode cX12_adds 9 = .ok (.if_icmp .ge 42, 3) := by decide +kernel
theorem dX12_adds_12 : decode cX12_adds 12 = .ok (.lload_n 2, 1) := by decide +kernel
theorem dX12_adds_13 : decode cX12_adds 13 = .ok (.aload_n 0, 1) := by decide +kernel
theorem dX12_adds_14 : decode cX12_adds 14 = .ok (.iload 4, 2) := by decide +kernel
theorem dX12_adds_16 : decode cX12_adds 16 = .ok (.iaload, 1) := by decide +kernel
theorem dX12_adds_17 : decode cX12_adds 17 = .ok (.i2l, 1) := by decide +kernel
theorem dX12_adds_18 : decode cX12_adds 18 = .ok (.ldc2_w 470, 3) := by decide +kernel
theorem dX12_adds_21 : decode cX12_adds 21 = .ok (.land, 1) := by decide +kernel
theorem dX12_adds_22 : decode cX12_adds 22 = .ok (.aload_n 1, 1) := by decide +kernel
theorem dX12_adds_23 : decode cX12_adds 23 = .ok (.iload 4, 2) := by decide +kernel
theorem dX12_adds_25 : decode cX12_adds 25 = .ok (.iaload, 1) := by decide +kernel
theorem dX12_adds_26 : decode cX12_adds 26 = .ok (.i2l, 1) := by decide +kernel
theorem dX12_adds_27 : decode cX12_adds 27 = .ok (.ldc2_w 470, 3) := by decide +kernel
theorem dX12_adds_30 : decode cX12_adds 30 = .ok (.land, 1) := by decide +kernel
theorem dX12_adds_31 : decode cX12_adds 31 = .ok (.ladd, 1) := by decide +kernel
theorem dX12_adds_32 : decode cX12_adds 32 = .ok (.ladd, 1) := by decide +kernel
theorem dX12_adds_33 : decode cX12_adds 33 = .ok (.lstore_n 2, 1) := by decide +kernel
theorem dX12_adds_34 : decode cX12_adds 34 = .ok (.aload_n 0, 1) := by decide +kernel
theorem dX12_adds_35 : decode cX12_adds 35 = .ok (.iload 4, 2) := by decide +kernel
theorem dX12_adds_37 : decode cX12_adds 37 = .ok (.lload_n 2, 1) := by decide +kernel
theorem dX12_adds_38 : decode cX12_adds 38 = .ok (.l2i, 1) := by decide +kernel
theorem dX12_adds_39 : decode cX12_adds 39 = .ok (.iastore, 1) := by decide +kernel
theorem dX12_adds_40 : decode cX12_adds 40 = .ok (.lload_n 2, 1) := by decide +kernel
theorem dX12_adds_41 : decode cX12_adds 41 = .ok (.bipush 32, 2) := by decide +kernel
theorem dX12_adds_43 : decode cX12_adds 43 = .ok (.lushr, 1) := by decide +kernel
theorem dX12_adds_44 : decode cX12_adds 44 = .ok (.lstore_n 2, 1) := by decide +kernel
theorem dX12_adds_45 : decode cX12_adds 45 = .ok (.iinc 4 1, 3) := by decide +kernel
theorem dX12_adds_48 : decode cX12_adds 48 = .ok (.goto (-43), 3) := by decide +kernel
theorem dX12_adds_51 : decode cX12_adds 51 = .ok (.return_, 1) := by decide +kernel
theorem dX12_times_0 : decode cX12_times 0 = .ok (.iload_n 1, 1) := by decide +kernel
theorem dX12_times_1 : decode cX12_times 1 = .ok (.i2l, 1) := by decide +kernel
theorem dX12_times_2 : decode cX12_times 2 = .ok (.invokestatic 472, 3) := by decide +kernel
theorem dX12_times_5 : decode cX12_times 5 = .ok (.lstore_n 2, 1) := by decide +kernel
theorem dX12_times_6 : decode cX12_times 6 = .ok (.lconst 0, 1) := by decide +kernel
theorem dX12_times_7 : decode cX12_times 7 = .ok (.lstore 4, 2) := by decide +kernel
theorem dX12_times_9 : decode cX12_times 9 = .ok (.iconst 0, 1) := by decide +kernel
theorem dX12_times_10 : decode cX12_times 10 = .ok (.istore 6, 2) := by decide +kernel
theorem dX12_times_12 : decode cX12_times 12 = .ok (.iload 6, 2) := by decide +kernel
theorem dX12_times_14 : decode cX12_times 14 = .ok (.bipush 16, 2) := by decide +kernel
theorem dX12_times_16 : decode cX12_times 16 = .ok (.if_icmp .ge 39, 3) := by decide +kernel
theorem dX12_times_19 : decode cX12_times 19 = .ok (.lload 4, 2) := by decide +kernel
theorem dX12_times_21 : decode cX12_times 21 = .ok (.aload_n 0, 1) := by decide +kernel
theorem dX12_times_22 : decode cX12_times 22 = .ok (.iload 6, 2) := by decide +kernel
theorem dX12_times_24 : decode cX12_times 24 = .ok (.iaload, 1) := by decide +kernel
theorem dX12_times_25 : decode cX12_times 25 = .ok (.i2l, 1) := by decide +kernel
theorem dX12_times_26 : decode cX12_times 26 = .ok (.ldc2_w 470, 3) := by decide +kernel
theorem dX12_times_29 : decode cX12_times 29 = .ok (.land, 1) := by decide +kernel
theorem dX12_times_30 : decode cX12_times 30 = .ok (.lload_n 2, 1) := by decide +kernel
theorem dX12_times_31 : decode cX12_times 31 = .ok (.lmul, 1) := by decide +kernel
theorem dX12_times_32 : decode cX12_times 32 = .ok (.ladd, 1) := by decide +kernel
theorem dX12_times_33 : decode cX12_times 33 = .ok (.lstore 4, 2) := by decide +kernel
theorem dX12_times_35 : decode cX12_times 35 = .ok (.aload_n 0, 1) := by decide +kernel
theorem dX12_times_36 : decode cX12_times 36 = .ok (.iload 6, 2) := by decide +kernel
theorem dX12_times_38 : decode cX12_times 38 = .ok (.lload 4, 2) := by decide +kernel
theorem dX12_times_40 : decode cX12_times 40 = .ok (.l2i, 1) := by decide +kernel
theorem dX12_times_41 : decode cX12_times 41 = .ok (.iastore, 1) := by decide +kernel
theorem dX12_times_42 : decode cX12_times 42 = .ok (.lload 4, 2) := by decide +kernel
theorem dX12_times_44 : decode cX12_times 44 = .ok (.bipush 32, 2) := by decide +kernel
theorem dX12_times_46 : decode cX12_times 46 = .ok (.lushr, 1) := by decide +kernel
theorem dX12_times_47 : decode cX12_times 47 = .ok (.lstore 4, 2) := by decide +kernel
theorem dX12_times_49 : decode cX12_times 49 = .ok (.iinc 6 1, 3) := by decide +kernel
theorem dX12_times_52 : decode cX12_times 52 = .ok (.goto (-40), 3) := by decide +kernel
theorem dX12_times_55 : decode cX12_times 55 = .ok (.iload_n 1, 1) := by decide +kernel
theorem dX12_times_56 : decode cX12_times 56 = .ok (.ifCond .ge 7, 3) := by decide +kernel
theorem dX12_times_59 : decode cX12_times 59 = .ok (.aload_n 0, 1) := by decide +kernel
theorem dX12_times_60 : decode cX12_times 60 = .ok (.invokestatic 476, 3) := by decide +kernel
theorem dX12_times_63 : decode cX12_times 63 = .ok (.return_, 1) := by decide +kernel
theorem dX12_halves_0 : decode cX12_halves 0 = .ok (.iconst 0, 1) := by decide +kernel
theorem dX12_halves_1 : decode cX12_halves 1 = .ok (.istore_n 1, 1) := by decide +kernel
theorem dX12_halves_2 : decode cX12_halves 2 = .ok (.iload_n 1, 1) := by decide +kernel
theorem dX12_halves_3 : decode cX12_halves 3 = .ok (.bipush 16, 2) := by decide +kernel
theorem dX12_halves_5 : decode cX12_halves 5 = .ok (.if_icmp .ge 38, 3) := by decide +kernel
theorem dX12_halves_8 : decode cX12_halves 8 = .ok (.aload_n 0, 1) := by decide +kernel
theorem dX12_halves_9 : decode cX12_halves 9 = .ok (.iload_n 1, 1) := by decide +kernel
theorem dX12_halves_10 : decode cX12_halves 10 = .ok (.aload_n 0, 1) := by decide +kernel
theorem dX12_halves_11 : decode cX12_halves 11 = .ok (.iload_n 1, 1) := by decide +kernel
theorem dX12_halves_12 : decode cX12_halves 12 = .ok (.iaload, 1) := by decide +kernel
theorem dX12_halves_13 : decode cX12_halves 13 = .ok (.iconst 1, 1) := by decide +kernel
theorem dX12_halves_14 : decode cX12_halves 14 = .ok (.iushr, 1) := by decide +kernel
theorem dX12_halves_15 : decode cX12_halves 15 = .ok (.iload_n 1, 1) := by decide +kernel
theorem dX12_halves_16 : decode cX12_halves 16 = .ok (.iconst 1, 1) := by decide +kernel
theorem dX12_halves_17 : decode cX12_halves 17 = .ok (.iadd, 1) := by decide +kernel
theorem dX12_halves_18 : decode cX12_halves 18 = .ok (.bipush 16, 2) := by decide +kernel
theorem dX12_halves_20 : decode cX12_halves 20 = .ok (.if_icmp .ge 14, 3) := by decide +kernel
theorem dX12_halves_23 : decode cX12_halves 23 = .ok (.aload_n 0, 1) := by decide +kernel
theorem dX12_halves_24 : decode cX12_halves 24 = .ok (.iload_n 1, 1) := by decide +kernel
theorem dX12_halves_25 : decode cX12_halves 25 = .ok (.iconst 1, 1) := by decide +kernel
theorem dX12_halves_26 : decode cX12_halves 26 = .ok (.iadd, 1) := by decide +kernel
theorem dX12_halves_27 : decode cX12_halves 27 = .ok (.iaload, 1) := by decide +kernel
theorem dX12_halves_28 : decode cX12_halves 28 = .ok (.bipush 31, 2) := by decide +kernel
theorem dX12_halves_30 : decode cX12_halves 30 = .ok (.ishl, 1) := by decide +kernel
theorem dX12_halves_31 : decode cX12_halves 31 = .ok (.goto 4, 3) := by decide +kernel
theorem dX12_halves_34 : decode cX12_halves 34 = .ok (.iconst 0, 1) := by decide +kernel
theorem dX12_halves_35 : decode cX12_halves 35 = .ok (.ior, 1) := by decide +kernel
theorem dX12_halves_36 : decode cX12_halves 36 = .ok (.iastore, 1) := by decide +kernel
theorem dX12_halves_37 : decode cX12_halves 37 = .ok (.iinc 1 1, 3) := by decide +kernel
theorem dX12_halves_40 : decode cX12_halves 40 = .ok (.goto (-38), 3) := by decide +kernel
theorem dX12_halves_43 : decode cX12_halves 43 = .ok (.return_, 1) := by decide +kernel
theorem dX12_isNoLess_0 : decode cX12_isNoLess 0 = .ok (.bipush 15, 2) := by decide +kernel
theorem dX12_isNoLess_2 : decode cX12_isNoLess 2 = .ok (.istore_n 2, 1) := by decide +kernel
theorem dX12_isNoLess_3 : decode cX12_isNoLess 3 = .ok (.iload_n 2, 1) := by decide +kernel
theorem dX12_isNoLess_4 : decode cX12_isNoLess 4 = .ok (.ifCond .lt 48, 3) := by decide +kernel
theorem dX12_isNoLess_7 : decode cX12_isNoLess 7 = .ok (.aload_n 0, 1) := by decide +kernel
theorem dX12_isNoLess_8 : decode cX12_isNoLess 8 = .ok (.iload_n 2, 1) := by decide +kernel
theorem dX12_isNoLess_9 : decode cX12_isNoLess 9 = .ok (.iaload, 1) := by decide +kernel
theorem dX12_isNoLess_10 : decode cX12_isNoLess 10 = .ok (.i2l, 1) := by decide +kernel
theorem dX12_isNoLess_11 : decode cX12_isNoLess 11 = .ok (.ldc2_w 470, 3) := by decide +kernel
theorem dX12_isNoLess_14 : decode cX12_isNoLess 14 = .ok (.land, 1) := by decide +kernel
theorem dX12_isNoLess_15 : decode cX12_isNoLess 15 = .ok (.lstore_n 3, 1) := by decide +kernel
theorem dX12_isNoLess_16 : decode cX12_isNoLess 16 = .ok (.aload_n 1, 1) := by decide +kernel
theorem dX12_isNoLess_17 : decode cX12_isNoLess 17 = .ok (.iload_n 2, 1) := by decide +kernel
theorem dX12_isNoLess_18 : decode cX12_isNoLess 18 = .ok (.iaload, 1) := by decide +kernel
theorem dX12_isNoLess_19 : decode cX12_isNoLess 19 = .ok (.i2l, 1) := by decide +kernel
theorem dX12_isNoLess_20 : decode cX12_isNoLess 20 = .ok (.ldc2_w 470, 3) := by decide +kernel
theorem dX12_isNoLess_23 : decode cX12_isNoLess 23 = .ok (.land, 1) := by decide +kernel
theorem dX12_isNoLess_24 : decode cX12_isNoLess 24 = .ok (.lstore 5, 2) := by decide +kernel
theorem dX12_isNoLess_26 : decode cX12_isNoLess 26 = .ok (.lload_n 3, 1) := by decide +kernel
theorem dX12_isNoLess_27 : decode cX12_isNoLess 27 = .ok (.lload 5, 2) := by decide +kernel
theorem dX12_isNoLess_29 : decode cX12_isNoLess 29 = .ok (.lcmp, 1) := by decide +kernel
theorem dX12_isNoLess_30 : decode cX12_isNoLess 30 = .ok (.ifCond .eq 16, 3) := by decide +kernel
theorem dX12_isNoLess_33 : decode cX12_isNoLess 33 = .ok (.lload_n 3, 1) := by decide +kernel
theorem dX12_isNoLess_34 : decode cX12_isNoLess 34 = .ok (.lload 5, 2) := by decide +kernel
theorem dX12_isNoLess_36 : decode cX12_isNoLess 36 = .ok (.lcmp, 1) := by decide +kernel
theorem dX12_isNoLess_37 : decode cX12_isNoLess 37 = .ok (.ifCond .le 7, 3) := by decide +kernel
theorem dX12_isNoLess_40 : decode cX12_isNoLess 40 = .ok (.iconst 1, 1) := by decide +kernel
theorem dX12_isNoLess_41 : decode cX12_isNoLess 41 = .ok (.goto 4, 3) := by decide +kernel
theorem dX12_isNoLess_44 : decode cX12_isNoLess 44 = .ok (.iconst 0, 1) := by decide +kernel
theorem dX12_isNoLess_45 : decode cX12_isNoLess 45 = .ok (.ireturn, 1) := by decide +kernel
theorem dX12_isNoLess_46 : decode cX12_isNoLess 46 = .ok (.iinc 2 (-1), 3) := by decide +kernel
theorem dX12_isNoLess_49 : decode cX12_isNoLess 49 = .ok (.goto (-46), 3) := by decide +kernel
theorem dX12_isNoLess_52 : decode cX12_isNoLess 52 = .ok (.iconst 1, 1) := by decide +kernel
theorem dX12_isNoLess_53 : decode cX12_isNoLess 53 = .ok (.ireturn, 1) := by decide +kernel
theorem dX12_takesAway_0 : decode cX12_takesAway 0 = .ok (.aload_n 0, 1) := by decide +kernel
theorem dX12_takesAway_1 : decode cX12_takesAway 1 = .ok (.getfield 112, 3) := by decide +kernel
theorem dX12_takesAway_4 : decode cX12_takesAway 4 = .ok (.aload_n 2, 1) := by decide +kernel
theorem dX12_takesAway_5 : decode cX12_takesAway 5 = .ok (.invokestatic 480, 3) := by decide +kernel
theorem dX12_takesAway_8 : decode cX12_takesAway 8 = .ok (.aload_n 0, 1) := by decide +kernel
theorem dX12_takesAway_9 : decode cX12_takesAway 9 = .ok (.getfield 112, 3) := by decide +kernel
theorem dX12_takesAway_12 : decode cX12_takesAway 12 = .ok (.invokestatic 476, 3) := by decide +kernel
theorem dX12_takesAway_15 : decode cX12_takesAway 15 = .ok (.aload_n 1, 1) := by decide +kernel
theorem dX12_takesAway_16 : decode cX12_takesAway 16 = .ok (.aload_n 0, 1) := by decide +kernel
theorem dX12_takesAway_17 : decode cX12_takesAway 17 = .ok (.getfield 112, 3) := by decide +kernel
theorem dX12_takesAway_20 : decode cX12_takesAway 20 = .ok (.invokestatic 484, 3) := by decide +kernel
theorem dX12_takesAway_23 : decode cX12_takesAway 23 = .ok (.return_, 1) := by decide +kernel
theorem dX12_divisor_0 : decode cX12_divisor 0 = .ok (.iconst 0, 1) := by decide +kernel
theorem dX12_divisor_1 : decode cX12_divisor 1 = .ok (.istore_n 3, 1) := by decide +kernel
theorem dX12_divisor_2 : decode cX12_divisor 2 = .ok (.aload_n 1, 1) := by decide +kernel
theorem dX12_divisor_3 : decode cX12_divisor 3 = .ok (.invokestatic 487, 3) := by decide +kernel
theorem dX12_divisor_6 : decode cX12_divisor 6 = .ok (.ifCond .eq 9, 3) := by decide +kernel
theorem dX12_divisor_9 : decode cX12_divisor 9 = .ok (.aload_n 1, 1) := by decide +kernel
theorem dX12_divisor_10 : decode cX12_divisor 10 = .ok (.aload_n 2, 1) := by decide +kernel
theorem dX12_divisor_11 : decode cX12_divisor 11 = .ok (.invokestatic 480, 3) := by decide +kernel
theorem dX12_divisor_14 : decode cX12_divisor 14 = .ok (.return_, 1) := by decide +kernel
theorem dX12_divisor_15 : decode cX12_divisor 15 = .ok (.aload_n 1, 1) := by decide +kernel
theorem dX12_divisor_16 : decode cX12_divisor 16 = .ok (.iconst 0, 1) := by decide +kernel
theorem dX12_divisor_17 : decode cX12_divisor 17 = .ok (.iaload, 1) := by decide +kernel
theorem dX12_divisor_18 : decode cX12_divisor 18 = .ok (.aload_n 2, 1) := by decide +kernel
theorem dX12_divisor_19 : decode cX12_divisor 19 = .ok (.iconst 0, 1) := by decide +kernel
theorem dX12_divisor_20 : decode cX12_divisor 20 = .ok (.iaload, 1) := by decide +kernel
theorem dX12_divisor_21 : decode cX12_divisor 21 = .ok (.ior, 1) := by decide +kernel
theorem dX12_divisor_22 : decode cX12_divisor 22 = .ok (.iconst 1, 1) := by decide +kernel
theorem dX12_divisor_23 : decode cX12_divisor 23 = .ok (.iand, 1) := by decide +kernel
theorem dX12_divisor_24 : decode cX12_divisor 24 = .ok (.ifCond .ne 17, 3) := by decide +kernel
theorem dX12_divisor_27 : decode cX12_divisor 27 = .ok (.aload_n 1, 1) := by decide +kernel
theorem dX12_divisor_28 : decode cX12_divisor 28 = .ok (.invokestatic 491, 3) := by decide +kernel
theorem dX12_divisor_31 : decode cX12_divisor 31 = .ok (.aload_n 2, 1) := by decide +kernel
theorem dX12_divisor_32 : decode cX12_divisor 32 = .ok (.invokestatic 491, 3) := by decide +kernel
theorem dX12_divisor_35 : decode cX12_divisor 35 = .ok (.iinc 3 1, 3) := by decide +kernel
theorem dX12_divisor_38 : decode cX12_divisor 38 = .ok (.goto (-23), 3) := by decide +kernel
theorem dX12_divisor_41 : decode cX12_divisor 41 = .ok (.aload_n 2, 1) := by decide +kernel
theorem dX12_divisor_42 : decode cX12_divisor 42 = .ok (.invokestatic 487, 3) := by decide +kernel
theorem dX12_divisor_45 : decode cX12_divisor 45 = .ok (.ifCond .ne 59, 3) := by decide +kernel
theorem dX12_divisor_48 : decode cX12_divisor 48 = .ok (.aload_n 1, 1) := by decide +kernel
theorem dX12_divisor_49 : decode cX12_divisor 49 = .ok (.iconst 0, 1) := by decide +kernel
theorem dX12_divisor_50 : decode cX12_divisor 50 = .ok (.iaload, 1) := by decide +kernel
theorem dX12_divisor_51 : decode cX12_divisor 51 = .ok (.iconst 1, 1) := by decide +kernel
theorem dX12_divisor_52 : decode cX12_divisor 52 = .ok (.iand, 1) := by decide +kernel
theorem dX12_divisor_53 : decode cX12_divisor 53 = .ok (.ifCond .ne 10, 3) := by decide +kernel
theorem dX12_divisor_56 : decode cX12_divisor 56 = .ok (.aload_n 1, 1) := by decide +kernel
theorem dX12_divisor_57 : decode cX12_divisor 57 = .ok (.invokestatic 491, 3) := by decide +kernel
theorem dX12_divisor_60 : decode cX12_divisor 60 = .ok (.goto (-12), 3) := by decide +kernel
theorem dX12_divisor_63 : decode cX12_divisor 63 = .ok (.aload_n 2, 1) := by decide +kernel
theorem dX12_divisor_64 : decode cX12_divisor 64 = .ok (.iconst 0, 1) := by decide +kernel
theorem dX12_divisor_65 : decode cX12_divisor 65 = .ok (.iaload, 1) := by decide +kernel
theorem dX12_divisor_66 : decode cX12_divisor 66 = .ok (.iconst 1, 1) := by decide +kernel
theorem dX12_divisor_67 : decode cX12_divisor 67 = .ok (.iand, 1) := by decide +kernel
theorem dX12_divisor_68 : decode cX12_divisor 68 = .ok (.ifCond .ne 10, 3) := by decide +kernel
theorem dX12_divisor_71 : decode cX12_divisor 71 = .ok (.aload_n 2, 1) := by decide +kernel
theorem dX12_divisor_72 : decode cX12_divisor 72 = .ok (.invokestatic 491, 3) := by decide +kernel
theorem dX12_divisor_75 : decode cX12_divisor 75 = .ok (.goto (-12), 3) := by decide +kernel
theorem dX12_divisor_78 : decode cX12_divisor 78 = .ok (.aload_n 2, 1) := by decide +kernel
theorem dX12_divisor_79 : decode cX12_divisor 79 = .ok (.aload_n 1, 1) := by decide +kernel
theorem dX12_divisor_80 : decode cX12_divisor 80 = .ok (.invokestatic 494, 3) := by decide +kernel
theorem dX12_divisor_83 : decode cX12_divisor 83 = .ok (.ifCond .eq 12, 3) := by decide +kernel
theorem dX12_divisor_86 : decode cX12_divisor 86 = .ok (.aload_n 0, 1) := by decide +kernel
theorem dX12_divisor_87 : decode cX12_divisor 87 = .ok (.aload_n 2, 1) := by decide +kernel
theorem dX12_divisor_88 : decode cX12_divisor 88 = .ok (.aload_n 1, 1) := by decide +kernel
theorem dX12_divisor_89 : decode cX12_divisor 89 = .ok (.invokevirtual 498, 3) := by decide +kernel
theorem dX12_divisor_92 : decode cX12_divisor 92 = .ok (.goto (-51), 3) := by decide +kernel
theorem dX12_divisor_95 : decode cX12_divisor 95 = .ok (.aload_n 0, 1) := by decide +kernel
theorem dX12_divisor_96 : decode cX12_divisor 96 = .ok (.aload_n 1, 1) := by decide +kernel
theorem dX12_divisor_97 : decode cX12_divisor 97 = .ok (.aload_n 2, 1) := by decide +kernel
theorem dX12_divisor_98 : decode cX12_divisor 98 = .ok (.invokevirtual 498, 3) := by decide +kernel
theorem dX12_divisor_101 : decode cX12_divisor 101 = .ok (.goto (-60), 3) := by decide +kernel
theorem dX12_divisor_104 : decode cX12_divisor 104 = .ok (.iconst 0, 1) := by decide +kernel
theorem dX12_divisor_105 : decode cX12_divisor 105 = .ok (.istore 4, 2) := by decide +kernel
theorem dX12_divisor_107 : decode cX12_divisor 107 = .ok (.iload 4, 2) := by decide +kernel
theorem dX12_divisor_109 : decode cX12_divisor 109 = .ok (.iload_n 3, 1) := by decide +kernel
theorem dX12_divisor_110 : decode cX12_divisor 110 = .ok (.if_icmp .ge 14, 3) := by decide +kernel
theorem dX12_divisor_113 : decode cX12_divisor 113 = .ok (.aload_n 1, 1) := by decide +kernel
theorem dX12_divisor_114 : decode cX12_divisor 114 = .ok (.aload_n 1, 1) := by decide +kernel
theorem dX12_divisor_115 : decode cX12_divisor 115 = .ok (.invokestatic 484, 3) := by decide +kernel
theorem dX12_divisor_118 : decode cX12_divisor 118 = .ok (.iinc 4 1, 3) := by decide +kernel
theorem dX12_divisor_121 : decode cX12_divisor 121 = .ok (.goto (-14), 3) := by decide +kernel
theorem dX12_divisor_124 : decode cX12_divisor 124 = .ok (.return_, 1) := by decide +kernel
theorem dX12_divides_0 : decode cX12_divides 0 = .ok (.aload_n 0, 1) := by decide +kernel
theorem dX12_divides_1 : decode cX12_divides 1 = .ok (.getfield 106, 3) := by decide +kernel
theorem dX12_divides_4 : decode cX12_divides 4 = .ok (.iconst 0, 1) := by decide +kernel
theorem dX12_divides_5 : decode cX12_divides 5 = .ok (.invokestatic 501, 3) := by decide +kernel
theorem dX12_divides_8 : decode cX12_divides 8 = .ok (.aload_n 0, 1) := by decide +kernel
theorem dX12_divides_9 : decode cX12_divides 9 = .ok (.getfield 109, 3) := by decide +kernel
theorem dX12_divides_12 : decode cX12_divides 12 = .ok (.iconst 0, 1) := by decide +kernel
theorem dX12_divides_13 : decode cX12_divides 13 = .ok (.invokestatic 501, 3) := by decide +kernel
theorem dX12_divides_16 : decode cX12_divides 16 = .ok (.aload_n 0, 1) := by decide +kernel
theorem dX12_divides_17 : decode cX12_divides 17 = .ok (.getfield 112, 3) := by decide +kernel
theorem dX12_divides_20 : decode cX12_divides 20 = .ok (.aload_n 2, 1) := by decide +kernel
theorem dX12_divides_21 : decode cX12_divides 21 = .ok (.invokestatic 480, 3) := by decide +kernel
theorem dX12_divides_24 : decode cX12_divides 24 = .ok (.aload_n 0, 1) := by decide +kernel
theorem dX12_divides_25 : decode cX12_divides 25 = .ok (.getfield 112, 3) := by decide +kernel
theorem dX12_divides_28 : decode cX12_divides 28 = .ok (.invokestatic 476, 3) := by decide +kernel
theorem dX12_divides_31 : decode cX12_divides 31 = .ok (.sipush 511, 3) := by decide +kernel
theorem dX12_divides_34 : decode cX12_divides 34 = .ok (.istore_n 3, 1) := by decide +kernel
theorem dX12_divides_35 : decode cX12_divides 35 = .ok (.iload_n 3, 1) := by decide +kernel
theorem dX12_divides_36 : decode cX12_divides 36 = .ok (.ifCond .lt 88, 3) := by decide +kernel
theorem dX12_divides_39 : decode cX12_divides 39 = .ok (.aload_n 0, 1) := by decide +kernel
theorem dX12_divides_40 : decode cX12_divides 40 = .ok (.getfield 109, 3) := by decide +kernel
theorem dX12_divides_43 : decode cX12_divides 43 = .ok (.aload_n 0, 1) := by decide +kernel
theorem dX12_divides_44 : decode cX12_divides 44 = .ok (.getfield 109, 3) := by decide +kernel
theorem dX12_divides_47 : decode cX12_divides 47 = .ok (.invokestatic 484, 3) := by decide +kernel
theorem dX12_divides_50 : decode cX12_divides 50 = .ok (.aload_n 0, 1) := by decide +kernel
theorem dX12_divides_51 : decode cX12_divides 51 = .ok (.getfield 109, 3) := by decide +kernel
theorem dX12_divides_54 : decode cX12_divides 54 = .ok (.iconst 0, 1) := by decide +kernel
theorem dX12_divides_55 : decode cX12_divides 55 = .ok (.dup2, 1) := by decide +kernel
theorem dX12_divides_56 : decode cX12_divides 56 = .ok (.iaload, 1) := by decide +kernel
theorem dX12_divides_57 : decode cX12_divides 57 = .ok (.aload_n 1, 1) := by decide +kernel
theorem dX12_divides_58 : decode cX12_divides 58 = .ok (.iload_n 3, 1) := by decide +kernel
theorem dX12_divides_59 : decode cX12_divides 59 = .ok (.bipush 32, 2) := by decide +kernel
theorem dX12_divides_61 : decode cX12_divides 61 = .ok (.idiv, 1) := by decide +kernel
theorem dX12_divides_62 : decode cX12_divides 62 = .ok (.iaload, 1) := by decide +kernel
theorem dX12_divides_63 : decode cX12_divides 63 = .ok (.iload_n 3, 1) := by decide +kernel
theorem dX12_divides_64 : decode cX12_divides 64 = .ok (.bipush 32, 2) := by decide +kernel
theorem dX12_divides_66 : decode cX12_divides 66 = .ok (.irem, 1) := by decide +kernel
theorem dX12_divides_67 : decode cX12_divides 67 = .ok (.iushr, 1) := by decide +kernel
theorem dX12_divides_68 : decode cX12_divides 68 = .ok (.iconst 1, 1) := by decide +kernel
theorem dX12_divides_69 : decode cX12_divides 69 = .ok (.iand, 1) := by decide +kernel
theorem dX12_divides_70 : decode cX12_divides 70 = .ok (.ior, 1) := by decide +kernel
theorem dX12_divides_71 : decode cX12_divides 71 = .ok (.iastore, 1) := by decide +kernel
theorem dX12_divides_72 : decode cX12_divides 72 = .ok (.aload_n 0, 1) := by decide +kernel
theorem dX12_divides_73 : decode cX12_divides 73 = .ok (.getfield 106, 3) := by decide +kernel
theorem dX12_divides_76 : decode cX12_divides 76 = .ok (.aload_n 0, 1) := by decide +kernel
theorem dX12_divides_77 : decode cX12_divides 77 = .ok (.getfield 106, 3) := by decide +kernel
theorem dX12_divides_80 : decode cX12_divides 80 = .ok (.invokestatic 484, 3) := by decide +kernel
theorem dX12_divides_83 : decode cX12_divides 83 = .ok (.aload_n 0, 1) := by decide +kernel
theorem dX12_divides_84 : decode cX12_divides 84 = .ok (.getfield 109, 3) := by decide +kernel
theorem dX12_divides_87 : decode cX12_divides 87 = .ok (.aload_n 2, 1) := by decide +kernel
theorem dX12_divides_88 : decode cX12_divides 88 = .ok (.invokestatic 494, 3) := by decide +kernel
theorem dX12_divides_91 : decode cX12_divides 91 = .ok (.ifCond .ne 6, 3) := by decide +kernel
theorem dX12_divides_94 : decode cX12_divides 94 = .ok (.goto 24, 3) := by decide +kernel
theorem dX12_divides_97 : decode cX12_divides 97 = .ok (.aload_n 0, 1) := by decide +kernel
theorem dX12_divides_98 : decode cX12_divides 98 = .ok (.getfield 109, 3) := by decide +kernel
theorem dX12_divides_101 : decode cX12_divides 101 = .ok (.aload_n 0, 1) := by decide +kernel
theorem dX12_divides_102 : decode cX12_divides 102 = .ok (.getfield 112, 3) := by decide +kernel
theorem dX12_divides_105 : decode cX12_divides 105 = .ok (.invokestatic 484, 3) := by decide +kernel
theorem dX12_divides_108 : decode cX12_divides 108 = .ok (.aload_n 0, 1) := by decide +kernel
theorem dX12_divides_109 : decode cX12_divides 109 = .ok (.getfield 106, 3) := by decide +kernel
theorem dX12_divides_112 : decode cX12_divides 112 = .ok (.iconst 0, 1) := by decide +kernel
theorem dX12_divides_113 : decode cX12_divides 113 = .ok (.dup2, 1) := by decide +kernel
theorem dX12_divides_114 : decode cX12_divides 114 = .ok (.iaload, 1) := by decide +kernel
theorem dX12_divides_115 : decode cX12_divides 115 = .ok (.iconst 1, 1) := by decide +kernel
theorem dX12_divides_116 : decode cX12_divides 116 = .ok (.ior, 1) := by decide +kernel
theorem dX12_divides_117 : decode cX12_divides 117 = .ok (.iastore, 1) := by decide +kernel
theorem dX12_divides_118 : decode cX12_divides 118 = .ok (.iinc 3 (-1), 3) := by decide +kernel
theorem dX12_divides_121 : decode cX12_divides 121 = .ok (.goto (-86), 3) := by decide +kernel
theorem dX12_divides_124 : decode cX12_divides 124 = .ok (.aload_n 1, 1) := by decide +kernel
theorem dX12_divides_125 : decode cX12_divides 125 = .ok (.aload_n 0, 1) := by decide +kernel
theorem dX12_divides_126 : decode cX12_divides 126 = .ok (.getfield 106, 3) := by decide +kernel
theorem dX12_divides_129 : decode cX12_divides 129 = .ok (.invokestatic 480, 3) := by decide +kernel
theorem dX12_divides_132 : decode cX12_divides 132 = .ok (.return_, 1) := by decide +kernel
theorem dX12_lowers_0 : decode cX12_lowers 0 = .ok (.aload_n 0, 1) := by decide +kernel
theorem dX12_lowers_1 : decode cX12_lowers 1 = .ok (.getfield 94, 3) := by decide +kernel
theorem dX12_lowers_4 : decode cX12_lowers 4 = .ok (.bipush 15, 2) := by decide +kernel
theorem dX12_lowers_6 : decode cX12_lowers 6 = .ok (.iaload, 1) := by decide +kernel
theorem dX12_lowers_7 : decode cX12_lowers 7 = .ok (.ifCond .ge 7, 3) := by decide +kernel
theorem dX12_lowers_10 : decode cX12_lowers 10 = .ok (.iconst 1, 1) := by decide +kernel
theorem dX12_lowers_11 : decode cX12_lowers 11 = .ok (.goto 4, 3) := by decide +kernel
theorem dX12_lowers_14 : decode cX12_lowers 14 = .ok (.iconst 0, 1) := by decide +kernel
theorem dX12_lowers_15 : decode cX12_lowers 15 = .ok (.istore_n 1, 1) := by decide +kernel
theorem dX12_lowers_16 : decode cX12_lowers 16 = .ok (.iload_n 1, 1) := by decide +kernel
theorem dX12_lowers_17 : decode cX12_lowers 17 = .ok (.ifCond .eq 10, 3) := by decide +kernel
theorem dX12_lowers_20 : decode cX12_lowers 20 = .ok (.aload_n 0, 1) := by decide +kernel
theorem dX12_lowers_21 : decode cX12_lowers 21 = .ok (.getfield 94, 3) := by decide +kernel
theorem dX12_lowers_24 : decode cX12_lowers 24 = .ok (.invokestatic 476, 3) := by decide +kernel
theorem dX12_lowers_27 : decode cX12_lowers 27 = .ok (.aload_n 0, 1) := by decide +kernel
theorem dX12_lowers_28 : decode cX12_lowers 28 = .ok (.getfield 100, 3) := by decide +kernel
theorem dX12_lowers_31 : decode cX12_lowers 31 = .ok (.aload_n 0, 1) := by decide +kernel
theorem dX12_lowers_32 : decode cX12_lowers 32 = .ok (.getfield 94, 3) := by decide +kernel
theorem dX12_lowers_35 : decode cX12_lowers 35 = .ok (.invokestatic 480, 3) := by decide +kernel
theorem dX12_lowers_38 : decode cX12_lowers 38 = .ok (.aload_n 0, 1) := by decide +kernel
theorem dX12_lowers_39 : decode cX12_lowers 39 = .ok (.getfield 103, 3) := by decide +kernel
theorem dX12_lowers_42 : decode cX12_lowers 42 = .ok (.aload_n 0, 1) := by decide +kernel
theorem dX12_lowers_43 : decode cX12_lowers 43 = .ok (.getfield 97, 3) := by decide +kernel
theorem dX12_lowers_46 : decode cX12_lowers 46 = .ok (.invokestatic 480, 3) := by decide +kernel
theorem dX12_lowers_49 : decode cX12_lowers 49 = .ok (.aload_n 0, 1) := by decide +kernel
theorem dX12_lowers_50 : decode cX12_lowers 50 = .ok (.aload_n 0, 1) := by decide +kernel
theorem dX12_lowers_51 : decode cX12_lowers 51 = .ok (.getfield 100, 3) := by decide +kernel
theorem dX12_lowers_54 : decode cX12_lowers 54 = .ok (.aload_n 0, 1) := by decide +kernel
theorem dX12_lowers_55 : decode cX12_lowers 55 = .ok (.getfield 103, 3) := by decide +kernel
theorem dX12_lowers_58 : decode cX12_lowers 58 = .ok (.invokevirtual 505, 3) := by decide +kernel
theorem dX12_lowers_61 : decode cX12_lowers 61 = .ok (.aload_n 0, 1) := by decide +kernel
theorem dX12_lowers_62 : decode cX12_lowers 62 = .ok (.aload_n 0, 1) := by decide +kernel
theorem dX12_lowers_63 : decode cX12_lowers 63 = .ok (.getfield 94, 3) := by decide +kernel
theorem dX12_lowers_66 : decode cX12_lowers 66 = .ok (.aload_n 0, 1) := by decide +kernel
theorem dX12_lowers_67 : decode cX12_lowers 67 = .ok (.getfield 100, 3) := by decide +kernel
theorem dX12_lowers_70 : decode cX12_lowers 70 = .ok (.invokevirtual 508, 3) := by decide +kernel
theorem dX12_lowers_73 : decode cX12_lowers 73 = .ok (.aload_n 0, 1) := by decide +kernel
theorem dX12_lowers_74 : decode cX12_lowers 74 = .ok (.aload_n 0, 1) := by decide +kernel
theorem dX12_lowers_75 : decode cX12_lowers 75 = .ok (.getfield 97, 3) := by decide +kernel
theorem dX12_lowers_78 : decode cX12_lowers 78 = .ok (.aload_n 0, 1) := by decide +kernel
theorem dX12_lowers_79 : decode cX12_lowers 79 = .ok (.getfield 100, 3) := by decide +kernel
theorem dX12_lowers_82 : decode cX12_lowers 82 = .ok (.invokevirtual 508, 3) := by decide +kernel
theorem dX12_lowers_85 : decode cX12_lowers 85 = .ok (.iload_n 1, 1) := by decide +kernel
theorem dX12_lowers_86 : decode cX12_lowers 86 = .ok (.ifCond .eq 10, 3) := by decide +kernel
theorem dX12_lowers_89 : decode cX12_lowers 89 = .ok (.aload_n 0, 1) := by decide +kernel
theorem dX12_lowers_90 : decode cX12_lowers 90 = .ok (.getfield 94, 3) := by decide +kernel
theorem dX12_lowers_93 : decode cX12_lowers 93 = .ok (.invokestatic 476, 3) := by decide +kernel
theorem dX12_lowers_96 : decode cX12_lowers 96 = .ok (.return_, 1) := by decide +kernel
theorem dX12_isBeyond_0 : decode cX12_isBeyond 0 = .ok (.iconst 0, 1) := by decide +kernel
theorem dX12_isBeyond_1 : decode cX12_isBeyond 1 = .ok (.istore_n 2, 1) := by decide +kernel
theorem dX12_isBeyond_2 : decode cX12_isBeyond 2 = .ok (.iconst 2, 1) := by decide +kernel
theorem dX12_isBeyond_3 : decode cX12_isBeyond 3 = .ok (.istore_n 3, 1) := by decide +kernel
theorem dX12_isBeyond_4 : decode cX12_isBeyond 4 = .ok (.iload_n 3, 1) := by decide +kernel
theorem dX12_isBeyond_5 : decode cX12_isBeyond 5 = .ok (.bipush 16, 2) := by decide +kernel
theorem dX12_isBeyond_7 : decode cX12_isBeyond 7 = .ok (.if_icmp .ge 25, 3) := by decide +kernel
theorem dX12_isBeyond_10 : decode cX12_isBeyond 10 = .ok (.iload_n 2, 1) := by decide +kernel
theorem dX12_isBeyond_11 : decode cX12_isBeyond 11 = .ok (.ifCond .ne 9, 3) := by decide +kernel
theorem dX12_isBeyond_14 : decode cX12_isBeyond 14 = .ok (.aload_n 1, 1) := by decide +kernel
theorem dX12_isBeyond_15 : decode cX12_isBeyond 15 = .ok (.iload_n 3, 1) := by decide +kernel
theorem dX12_isBeyond_16 : decode cX12_isBeyond 16 = .ok (.iaload, 1) := by decide +kernel
theorem dX12_isBeyond_17 : decode cX12_isBeyond 17 = .ok (.ifCond .eq 7, 3) := by decide +kernel
theorem dX12_isBeyond_20 : decode cX12_isBeyond 20 = .ok (.iconst 1, 1) := by decide +kernel
theorem dX12_isBeyond_21 : decode cX12_isBeyond 21 = .ok (.goto 4, 3) := by decide +kernel
theorem dX12_isBeyond_24 : decode cX12_isBeyond 24 = .ok (.iconst 0, 1) := by decide +kernel
theorem dX12_isBeyond_25 : decode cX12_isBeyond 25 = .ok (.istore_n 2, 1) := by decide +kernel
theorem dX12_isBeyond_26 : decode cX12_isBeyond 26 = .ok (.iinc 3 1, 3) := by decide +kernel
theorem dX12_isBeyond_29 : decode cX12_isBeyond 29 = .ok (.goto (-25), 3) := by decide +kernel
theorem dX12_isBeyond_32 : decode cX12_isBeyond 32 = .ok (.iload_n 2, 1) := by decide +kernel
theorem dX12_isBeyond_33 : decode cX12_isBeyond 33 = .ok (.ifCond .ne 20, 3) := by decide +kernel
theorem dX12_isBeyond_36 : decode cX12_isBeyond 36 = .ok (.aload_n 1, 1) := by decide +kernel
theorem dX12_isBeyond_37 : decode cX12_isBeyond 37 = .ok (.iconst 1, 1) := by decide +kernel
theorem dX12_isBeyond_38 : decode cX12_isBeyond 38 = .ok (.iaload, 1) := by decide +kernel
theorem dX12_isBeyond_39 : decode cX12_isBeyond 39 = .ok (.ifCond .lt 14, 3) := by decide +kernel
theorem dX12_isBeyond_42 : decode cX12_isBeyond 42 = .ok (.aload_n 1, 1) := by decide +kernel
theorem dX12_isBeyond_43 : decode cX12_isBeyond 43 = .ok (.invokestatic 511, 3) := by decide +kernel
theorem dX12_isBeyond_46 : decode cX12_isBeyond 46 = .ok (.ldc2_w 515, 3) := by decide +kernel
theorem dX12_isBeyond_49 : decode cX12_isBeyond 49 = .ok (.lcmp, 1) := by decide +kernel
theorem dX12_isBeyond_50 : decode cX12_isBeyond 50 = .ok (.ifCond .le 7, 3) := by decide +kernel
theorem dX12_isBeyond_53 : decode cX12_isBeyond 53 = .ok (.iconst 1, 1) := by decide +kernel
theorem dX12_isBeyond_54 : decode cX12_isBeyond 54 = .ok (.goto 4, 3) := by decide +kernel
theorem dX12_isBeyond_57 : decode cX12_isBeyond 57 = .ok (.iconst 0, 1) := by decide +kernel
theorem dX12_isBeyond_58 : decode cX12_isBeyond 58 = .ok (.ireturn, 1) := by decide +kernel
theorem dX12_longOf_0 : decode cX12_longOf 0 = .ok (.aload_n 0, 1) := by decide +kernel
theorem dX12_longOf_1 : decode cX12_longOf 1 = .ok (.iconst 1, 1) := by decide +kernel
theorem dX12_longOf_2 : decode cX12_longOf 2 = .ok (.iaload, 1) := by decide +kernel
theorem dX12_longOf_3 : decode cX12_longOf 3 = .ok (.i2l, 1) := by decide +kernel
theorem dX12_longOf_4 : decode cX12_longOf 4 = .ok (.bipush 32, 2) := by decide +kernel
theorem dX12_longOf_6 : decode cX12_longOf 6 = .ok (.lshl, 1) := by decide +kernel
theorem dX12_longOf_7 : decode cX12_longOf 7 = .ok (.aload_n 0, 1) := by decide +kernel
theorem dX12_longOf_8 : decode cX12_longOf 8 = .ok (.iconst 0, 1) := by decide +kernel
theorem dX12_longOf_9 : decode cX12_longOf 9 = .ok (.iaload, 1) := by decide +kernel
theorem dX12_longOf_10 : decode cX12_longOf 10 = .ok (.i2l, 1) := by decide +kernel
theorem dX12_longOf_11 : decode cX12_longOf 11 = .ok (.ldc2_w 470, 3) := by decide +kernel
theorem dX12_longOf_14 : decode cX12_longOf 14 = .ok (.land, 1) := by decide +kernel
theorem dX12_longOf_15 : decode cX12_longOf 15 = .ok (.lor, 1) := by decide +kernel
theorem dX12_longOf_16 : decode cX12_longOf 16 = .ok (.lreturn, 1) := by decide +kernel
theorem dX12_told_0 : decode cX12_told 0 = .ok (.aload_n 0, 1) := by decide +kernel
theorem dX12_told_1 : decode cX12_told 1 = .ok (.getfield 94, 3) := by decide +kernel
theorem dX12_told_4 : decode cX12_told 4 = .ok (.bipush 15, 2) := by decide +kernel
theorem dX12_told_6 : decode cX12_told 6 = .ok (.iaload, 1) := by decide +kernel
theorem dX12_told_7 : decode cX12_told 7 = .ok (.ifCond .ge 7, 3) := by decide +kernel
theorem dX12_told_10 : decode cX12_told 10 = .ok (.iconst 1, 1) := by decide +kernel
theorem dX12_told_11 : decode cX12_told 11 = .ok (.goto 4, 3) := by decide +kernel
theorem dX12_told_14 : decode cX12_told 14 = .ok (.iconst 0, 1) := by decide +kernel
theorem dX12_told_15 : decode cX12_told 15 = .ok (.istore_n 2, 1) := by decide +kernel
theorem dX12_told_16 : decode cX12_told 16 = .ok (.iload_n 2, 1) := by decide +kernel
theorem dX12_told_17 : decode cX12_told 17 = .ok (.ifCond .eq 10, 3) := by decide +kernel
theorem dX12_told_20 : decode cX12_told 20 = .ok (.aload_n 0, 1) := by decide +kernel
theorem dX12_told_21 : decode cX12_told 21 = .ok (.getfield 94, 3) := by decide +kernel
theorem dX12_told_24 : decode cX12_told 24 = .ok (.invokestatic 476, 3) := by decide +kernel
theorem dX12_told_27 : decode cX12_told 27 = .ok (.aload_n 0, 1) := by decide +kernel
theorem dX12_told_28 : decode cX12_told 28 = .ok (.aload_n 0, 1) := by decide +kernel
theorem dX12_told_29 : decode cX12_told 29 = .ok (.getfield 94, 3) := by decide +kernel
theorem dX12_told_32 : decode cX12_told 32 = .ok (.invokevirtual 517, 3) := by decide +kernel
theorem dX12_told_35 : decode cX12_told 35 = .ok (.ifCond .ne 14, 3) := by decide +kernel
theorem dX12_told_38 : decode cX12_told 38 = .ok (.aload_n 0, 1) := by decide +kernel
theorem dX12_told_39 : decode cX12_told 39 = .ok (.aload_n 0, 1) := by decide +kernel
theorem dX12_told_40 : decode cX12_told 40 = .ok (.getfield 97, 3) := by decide +kernel
theorem dX12_told_43 : decode cX12_told 43 = .ok (.invokevirtual 517, 3) := by decide +kernel
theorem dX12_told_46 : decode cX12_told 46 = .ok (.ifCond .eq 7, 3) := by decide +kernel
theorem dX12_told_49 : decode cX12_told 49 = .ok (.ldc2_w 129, 3) := by decide +kernel
theorem dX12_told_52 : decode cX12_told 52 = .ok (.lreturn, 1) := by decide +kernel
theorem dX12_told_53 : decode cX12_told 53 = .ok (.iload_n 1, 1) := by decide +kernel
theorem dX12_told_54 : decode cX12_told 54 = .ok (.ifCond .eq 13, 3) := by decide +kernel
theorem dX12_told_57 : decode cX12_told 57 = .ok (.aload_n 0, 1) := by decide +kernel
theorem dX12_told_58 : decode cX12_told 58 = .ok (.getfield 97, 3) := by decide +kernel
theorem dX12_told_61 : decode cX12_told 61 = .ok (.invokestatic 511, 3) := by decide +kernel
theorem dX12_told_64 : decode cX12_told 64 = .ok (.goto 25, 3) := by decide +kernel
theorem dX12_told_67 : decode cX12_told 67 = .ok (.iload_n 2, 1) := by decide +kernel
theorem dX12_told_68 : decode cX12_told 68 = .ok (.ifCond .eq 14, 3) := by decide +kernel
theorem dX12_told_71 : decode cX12_told 71 = .ok (.aload_n 0, 1) := by decide +kernel
theorem dX12_told_72 : decode cX12_told 72 = .ok (.getfield 94, 3) := by decide +kernel
theorem dX12_told_75 : decode cX12_told 75 = .ok (.invokestatic 511, 3) := by decide +kernel
theorem dX12_told_78 : decode cX12_told 78 = .ok (.lneg, 1) := by decide +kernel
theorem dX12_told_79 : decode cX12_told 79 = .ok (.goto 10, 3) := by decide +kernel
theorem dX12_told_82 : decode cX12_told 82 = .ok (.aload_n 0, 1) := by decide +kernel
theorem dX12_told_83 : decode cX12_told 83 = .ok (.getfield 94, 3) := by decide +kernel
theorem dX12_told_86 : decode cX12_told 86 = .ok (.invokestatic 511, 3) := by decide +kernel
theorem dX12_told_89 : decode cX12_told 89 = .ok (.lreturn, 1) := by decide +kernel
theorem dX12_hasPowers_0 : decode cX12_hasPowers 0 = .ok (.iconst 0, 1) := by decide +kernel
theorem dX12_hasPowers_1 : decode cX12_hasPowers 1 = .ok (.istore 6, 2) := by decide +kernel
theorem dX12_hasPowers_3 : decode cX12_hasPowers 3 = .ok (.iload 6, 2) := by decide +kernel
theorem dX12_hasPowers_5 : decode cX12_hasPowers 5 = .ok (.iconst 3, 1) := by decide +kernel
theorem dX12_hasPowers_6 : decode cX12_hasPowers 6 = .ok (.if_icmp .ge 17, 3) := by decide +kernel
theorem dX12_hasPowers_9 : decode cX12_hasPowers 9 = .ok (.aload_n 0, 1) := by decide +kernel
theorem dX12_hasPowers_10 : decode cX12_hasPowers 10 = .ok (.getfield 115, 3) := by decide +kernel
theorem dX12_hasPowers_13 : decode cX12_hasPowers 13 = .ok (.iload 6, 2) := by decide +kernel
theorem dX12_hasPowers_15 : decode cX12_hasPowers 15 = .ok (.iconst 0, 1) := by decide +kernel
theorem dX12_hasPowers_16 : decode cX12_hasPowers 16 = .ok (.iastore, 1) := by decide +kernel
theorem dX12_hasPowers_17 : decode cX12_hasPowers 17 = .ok (.iinc 6 1, 3) := by decide +kernel
theorem dX12_hasPowers_20 : decode cX12_hasPowers 20 = .ok (.goto (-17), 3) := by decide +kernel
theorem dX12_hasPowers_23 : decode cX12_hasPowers 23 = .ok (.iconst 0, 1) := by decide +kernel
theorem dX12_hasPowers_24 : decode cX12_hasPowers 24 = .ok (.istore 6, 2) := by decide +kernel
theorem dX12_hasPowers_26 : decode cX12_hasPowers 26 = .ok (.iload 6, 2) := by decide +kernel
theorem dX12_hasPowers_28 : decode cX12_hasPowers 28 = .ok (.aload_n 1, 1) := by decide +kernel
theorem dX12_hasPowers_29 : decode cX12_hasPowers 29 = .ok (.getfield 339, 3) := by decide +kernel
theorem dX12_hasPowers_32 : decode cX12_hasPowers 32 = .ok (.if_icmp .ge 37, 3) := by decide +kernel
theorem dX12_hasPowers_35 : decode cX12_hasPowers 35 = .ok (.aload_n 0, 1) := by decide +kernel
theorem dX12_hasPowers_36 : decode cX12_hasPowers 36 = .ok (.getfield 115, 3) := by decide +kernel
theorem dX12_hasPowers_39 : decode cX12_hasPowers 39 = .ok (.aload_n 0, 1) := by decide +kernel
theorem dX12_hasPowers_40 : decode cX12_hasPowers 40 = .ok (.getfield 312, 3) := by decide +kernel
theorem dX12_hasPowers_43 : decode cX12_hasPowers 43 = .ok (.getfield 290, 3) := by decide +kernel
theorem dX12_hasPowers_46 : decode cX12_hasPowers 46 = .ok (.aload_n 1, 1) := by decide +kernel
theorem dX12_hasPowers_47 : decode cX12_hasPowers 47 = .ok (.getfield 407, 3) := by decide +kernel
theorem dX12_hasPowers_50 : decode cX12_hasPowers 50 = .ok (.iconst 3, 1) := by decide +kernel
theorem dX12_hasPowers_51 : decode cX12_hasPowers 51 = .ok (.iload_n 2, 1) := by decide +kernel
theorem dX12_hasPowers_52 : decode cX12_hasPowers 52 = .ok (.imul, 1) := by decide +kernel
theorem dX12_hasPowers_53 : decode cX12_hasPowers 53 = .ok (.iload 6, 2) := by decide +kernel
theorem dX12_hasPowers_55 : decode cX12_hasPowers 55 = .ok (.iadd, 1) := by decide +kernel
theorem dX12_hasPowers_56 : decode cX12_hasPowers 56 = .ok (.iaload, 1) := by decide +kernel
theorem dX12_hasPowers_57 : decode cX12_hasPowers 57 = .ok (.iaload, 1) := by decide +kernel
theorem dX12_hasPowers_58 : decode cX12_hasPowers 58 = .ok (.dup2, 1) := by decide +kernel
theorem dX12_hasPowers_59 : decode cX12_hasPowers 59 = .ok (.iaload, 1) := by decide +kernel
theorem dX12_hasPowers_60 : decode cX12_hasPowers 60 = .ok (.iconst 1, 1) := by decide +kernel
theorem dX12_hasPowers_61 : decode cX12_hasPowers 61 = .ok (.iadd, 1) := by decide +kernel
theorem dX12_hasPowers_62 : decode cX12_hasPowers 62 = .ok (.iastore, 1) := by decide +kernel
theorem dX12_hasPowers_63 : decode cX12_hasPowers 63 = .ok (.iinc 6 1, 3) := by decide +kernel
theorem dX12_hasPowers_66 : decode cX12_hasPowers 66 = .ok (.goto (-40), 3) := by decide +kernel
theorem dX12_hasPowers_69 : decode cX12_hasPowers 69 = .ok (.aload_n 0, 1) := by decide +kernel
theorem dX12_hasPowers_70 : decode cX12_hasPowers 70 = .ok (.getfield 115, 3) := by decide +kernel
theorem dX12_hasPowers_73 : decode cX12_hasPowers 73 = .ok (.iconst 0, 1) := by decide +kernel
theorem dX12_hasPowers_74 : decode cX12_hasPowers 74 = .ok (.iaload, 1) := by decide +kernel
theorem dX12_hasPowers_75 : decode cX12_hasPowers 75 = .ok (.iload_n 3, 1) := by decide +kernel
theorem dX12_hasPowers_76 : decode cX12_hasPowers 76 = .ok (.if_icmp .ne 29, 3) := by decide +kernel
theorem dX12_hasPowers_79 : decode cX12_hasPowers 79 = .ok (.aload_n 0, 1) := by decide +kernel
theorem dX12_hasPowers_80 : decode cX12_hasPowers 80 = .ok (.getfield 115, 3) := by decide +kernel
theorem dX12_hasPowers_83 : decode cX12_hasPowers 83 = .ok (.iconst 1, 1) := by decide +kernel
theorem dX12_hasPowers_84 : decode cX12_hasPowers 84 = .ok (.iaload, 1) := by decide +kernel
theorem dX12_hasPowers_85 : decode cX12_hasPowers 85 = .ok (.iload 4, 2) := by decide +kernel
theorem dX12_hasPowers_87 : decode cX12_hasPowers 87 = .ok (.if_icmp .ne 18, 3) := by decide +kernel
theorem dX12_hasPowers_90 : decode cX12_hasPowers 90 = .ok (.aload_n 0, 1) := by decide +kernel
theorem dX12_hasPowers_91 : decode cX12_hasPowers 91 = .ok (.getfield 115, 3) := by decide +kernel
theorem dX12_hasPowers_94 : decode cX12_hasPowers 94 = .ok (.iconst 2, 1) := by decide +kernel
theorem dX12_hasPowers_95 : decode cX12_hasPowers 95 = .ok (.iaload, 1) := by decide +kernel
theorem dX12_hasPowers_96 : decode cX12_hasPowers 96 = .ok (.iload 5, 2) := by decide +kernel
theorem dX12_hasPowers_98 : decode cX12_hasPowers 98 = .ok (.if_icmp .ne 7, 3) := by decide +kernel
theorem dX12_hasPowers_101 : decode cX12_hasPowers 101 = .ok (.iconst 1, 1) := by decide +kernel
theorem dX12_hasPowers_102 : decode cX12_hasPowers 102 = .ok (.goto 4, 3) := by decide +kernel
theorem dX12_hasPowers_105 : decode cX12_hasPowers 105 = .ok (.iconst 0, 1) := by decide +kernel
theorem dX12_hasPowers_106 : decode cX12_hasPowers 106 = .ok (.ireturn, 1) := by decide +kernel
theorem dX12_areOf_0 : decode cX12_areOf 0 = .ok (.aload_n 0, 1) := by decide +kernel
theorem dX12_areOf_1 : decode cX12_areOf 1 = .ok (.getfield 318, 3) := by decide +kernel
theorem dX12_areOf_4 : decode cX12_areOf 4 = .ok (.ifCond .eq 39, 3) := by decide +kernel
theorem dX12_areOf_7 : decode cX12_areOf 7 = .ok (.iload_n 1, 1) := by decide +kernel
theorem dX12_areOf_8 : decode cX12_areOf 8 = .ok (.ifCond .lt 35, 3) := by decide +kernel
theorem dX12_areOf_11 : decode cX12_areOf 11 = .ok (.iload_n 2, 1) := by decide +kernel
theorem dX12_areOf_12 : decode cX12_areOf 12 = .ok (.ifCond .lt 31, 3) := by decide +kernel
theorem dX12_areOf_15 : decode cX12_areOf 15 = .ok (.iload_n 3, 1) := by decide +kernel
theorem dX12_areOf_16 : decode cX12_areOf 16 = .ok (.ifCond .lt 27, 3) := by decide +kernel
theorem dX12_areOf_19 : decode cX12_areOf 19 = .ok (.iload_n 1, 1) := by decide +kernel
theorem dX12_areOf_20 : decode cX12_areOf 20 = .ok (.i2l, 1) := by decide +kernel
theorem dX12_areOf_21 : decode cX12_areOf 21 = .ok (.iload_n 2, 1) := by decide +kernel
theorem dX12_areOf_22 : decode cX12_areOf 22 = .ok (.i2l, 1) := by decide +kernel
theorem dX12_areOf_23 : decode cX12_areOf 23 = .ok (.ladd, 1) := by decide +kernel
theorem dX12_areOf_24 : decode cX12_areOf 24 = .ok (.iload_n 3, 1) := by decide +kernel
theorem dX12_areOf_25 : decode cX12_areOf 25 = .ok (.i2l, 1) := by decide +kernel
theorem dX12_areOf_26 : decode cX12_areOf 26 = .ok (.ladd, 1) := by decide +kernel
theorem dX12_areOf_27 : decode cX12_areOf 27 = .ok (.aload_n 0, 1) := by decide +kernel
theorem dX12_areOf_28 : decode cX12_areOf 28 = .ok (.getfield 47, 3) := by decide +kernel
theorem dX12_areOf_31 : decode cX12_areOf 31 = .ok (.getfield 339, 3) := by decide +kernel
theorem dX12_areOf_34 : decode cX12_areOf 34 = .ok (.i2l, 1) := by decide +kernel
theorem dX12_areOf_35 : decode cX12_areOf 35 = .ok (.lcmp, 1) := by decide +kernel
theorem dX12_areOf_36 : decode cX12_areOf 36 = .ok (.ifCond .ne 7, 3) := by decide +kernel
theorem dX12_areOf_39 : decode cX12_areOf 39 = .ok (.iconst 1, 1) := by decide +kernel
theorem dX12_areOf_40 : decode cX12_areOf 40 = .ok (.goto 4, 3) := by decide +kernel
theorem dX12_areOf_43 : decode cX12_areOf 43 = .ok (.iconst 0, 1) := by decide +kernel
theorem dX12_areOf_44 : decode cX12_areOf 44 = .ok (.ireturn, 1) := by decide +kernel
theorem dX12_worths_0 : decode cX12_worths 0 = .ok (.iconst 1, 1) := by decide +kernel
theorem dX12_worths_1 : decode cX12_worths 1 = .ok (.istore_n 3, 1) := by decide +kernel
theorem dX12_worths_2 : decode cX12_worths 2 = .ok (.iconst 0, 1) := by decide +kernel
theorem dX12_worths_3 : decode cX12_worths 3 = .ok (.istore 4, 2) := by decide +kernel
theorem dX12_worths_5 : decode cX12_worths 5 = .ok (.iload 4, 2) := by decide +kernel
theorem dX12_worths_7 : decode cX12_worths 7 = .ok (.aload_n 1, 1) := by decide +kernel
theorem dX12_worths_8 : decode cX12_worths 8 = .ok (.getfield 339, 3) := by decide +kernel
theorem dX12_worths_11 : decode cX12_worths 11 = .ok (.if_icmp .ge 31, 3) := by decide +kernel
theorem dX12_worths_14 : decode cX12_worths 14 = .ok (.iload_n 3, 1) := by decide +kernel
theorem dX12_worths_15 : decode cX12_worths 15 = .ok (.aload_n 0, 1) := by decide +kernel
theorem dX12_worths_16 : decode cX12_worths 16 = .ok (.getfield 312, 3) := by decide +kernel
theorem dX12_worths_19 : decode cX12_worths 19 = .ok (.getfield 287, 3) := by decide +kernel
theorem dX12_worths_22 : decode cX12_worths 22 = .ok (.aload_n 1, 1) := by decide +kernel
theorem dX12_worths_23 : decode cX12_worths 23 = .ok (.getfield 407, 3) := by decide +kernel
theorem dX12_worths_26 : decode cX12_worths 26 = .ok (.iconst 3, 1) := by decide +kernel
theorem dX12_worths_27 : decode cX12_worths 27 = .ok (.iload_n 2, 1) := by decide +kernel
theorem dX12_worths_28 : decode cX12_worths 28 = .ok (.imul, 1) := by decide +kernel
theorem dX12_worths_29 : decode cX12_worths 29 = .ok (.iload 4, 2) := by decide +kernel
theorem dX12_worths_31 : decode cX12_worths 31 = .ok (.iadd, 1) := by decide +kernel
theorem dX12_worths_32 : decode cX12_worths 32 = .ok (.iaload, 1) := by decide +kernel
theorem dX12_worths_33 : decode cX12_worths 33 = .ok (.iaload, 1) := by decide +kernel
theorem dX12_worths_34 : decode cX12_worths 34 = .ok (.imul, 1) := by decide +kernel
theorem dX12_worths_35 : decode cX12_worths 35 = .ok (.istore_n 3, 1) := by decide +kernel
theorem dX12_worths_36 : decode cX12_worths 36 = .ok (.iinc 4 1, 3) := by decide +kernel
theorem dX12_worths_39 : decode cX12_worths 39 = .ok (.goto (-34), 3) := by decide +kernel
theorem dX12_worths_42 : decode cX12_worths 42 = .ok (.iload_n 3, 1) := by decide +kernel
theorem dX12_worths_43 : decode cX12_worths 43 = .ok (.ireturn, 1) := by decide +kernel
theorem dX12_comes_0 : decode cX12_comes 0 = .ok (.aload_n 0, 1) := by decide +kernel
theorem dX12_comes_1 : decode cX12_comes 1 = .ok (.getfield 100, 3) := by decide +kernel
theorem dX12_comes_4 : decode cX12_comes 4 = .ok (.aload_n 0, 1) := by decide +kernel
theorem dX12_comes_5 : decode cX12_comes 5 = .ok (.getfield 97, 3) := by decide +kernel
theorem dX12_comes_8 : decode cX12_comes 8 = .ok (.invokestatic 480, 3) := by decide +kernel
theorem dX12_comes_11 : decode cX12_comes 11 = .ok (.aload_n 0, 1) := by decide +kernel
theorem dX12_comes_12 : decode cX12_comes 12 = .ok (.getfield 100, 3) := by decide +kernel
theorem dX12_comes_15 : decode cX12_comes 15 = .ok (.iload_n 3, 1) := by decide +kernel
theorem dX12_comes_16 : decode cX12_comes 16 = .ok (.invokestatic 520, 3) := by decide +kernel
theorem dX12_comes_19 : decode cX12_comes 19 = .ok (.aload_n 0, 1) := by decide +kernel
theorem dX12_comes_20 : decode cX12_comes 20 = .ok (.getfield 100, 3) := by decide +kernel
theorem dX12_comes_23 : decode cX12_comes 23 = .ok (.aload_n 0, 1) := by decide +kernel
theorem dX12_comes_24 : decode cX12_comes 24 = .ok (.aload_n 1, 1) := by decide +kernel
theorem dX12_comes_25 : decode cX12_comes 25 = .ok (.iload_n 2, 1) := by decide +kernel
theorem dX12_comes_26 : decode cX12_comes 26 = .ok (.invokevirtual 523, 3) := by decide +kernel
theorem dX12_comes_29 : decode cX12_comes 29 = .ok (.invokestatic 520, 3) := by decide +kernel
theorem dX12_comes_32 : decode cX12_comes 32 = .ok (.aload_n 0, 1) := by decide +kernel
theorem dX12_comes_33 : decode cX12_comes 33 = .ok (.getfield 94, 3) := by decide +kernel
theorem dX12_comes_36 : decode cX12_comes 36 = .ok (.aload_n 1, 1) := by decide +kernel
theorem dX12_comes_37 : decode cX12_comes 37 = .ok (.getfield 413, 3) := by decide +kernel
theorem dX12_comes_40 : decode cX12_comes 40 = .ok (.iload_n 2, 1) := by decide +kernel
theorem dX12_comes_41 : decode cX12_comes 41 = .ok (.iaload, 1) := by decide +kernel
theorem dX12_comes_42 : decode cX12_comes 42 = .ok (.invokestatic 520, 3) := by decide +kernel
theorem dX12_comes_45 : decode cX12_comes 45 = .ok (.aload_n 0, 1) := by decide +kernel
theorem dX12_comes_46 : decode cX12_comes 46 = .ok (.getfield 97, 3) := by decide +kernel
theorem dX12_comes_49 : decode cX12_comes 49 = .ok (.aload_n 1, 1) := by decide +kernel
theorem dX12_comes_50 : decode cX12_comes 50 = .ok (.getfield 413, 3) := by decide +kernel
theorem dX12_comes_53 : decode cX12_comes 53 = .ok (.iload_n 2, 1) := by decide +kernel
theorem dX12_comes_54 : decode cX12_comes 54 = .ok (.iaload, 1) := by decide +kernel
theorem dX12_comes_55 : decode cX12_comes 55 = .ok (.invokestatic 520, 3) := by decide +kernel
theorem dX12_comes_58 : decode cX12_comes 58 = .ok (.iconst 0, 1) := by decide +kernel
theorem dX12_comes_59 : decode cX12_comes 59 = .ok (.istore 4, 2) := by decide +kernel
theorem dX12_comes_61 : decode cX12_comes 61 = .ok (.iload 4, 2) := by decide +kernel
theorem dX12_comes_63 : decode cX12_comes 63 = .ok (.aload_n 0, 1) := by decide +kernel
theorem dX12_comes_64 : decode cX12_comes 64 = .ok (.getfield 331, 3) := by decide +kernel
theorem dX12_comes_67 : decode cX12_comes 67 = .ok (.if_icmp .ge 65, 3) := by decide +kernel
theorem dX12_comes_70 : decode cX12_comes 70 = .ok (.aload_n 0, 1) := by decide +kernel
theorem dX12_comes_71 : decode cX12_comes 71 = .ok (.iload 4, 2) := by decide +kernel
theorem dX12_comes_73 : decode cX12_comes 73 = .ok (.invokevirtual 442, 3) := by decide +kernel
theorem dX12_comes_76 : decode cX12_comes 76 = .ok (.ifCond .ne 6, 3) := by decide +kernel
theorem dX12_comes_79 : decode cX12_comes 79 = .ok (.goto 47, 3) := by decide +kernel
theorem dX12_comes_82 : decode cX12_comes 82 = .ok (.aload_n 0, 1) := by decide +kernel
theorem dX12_comes_83 : decode cX12_comes 83 = .ok (.getfield 94, 3) := by decide +kernel
theorem dX12_comes_86 : decode cX12_comes 86 = .ok (.aload_n 0, 1) := by decide +kernel
theorem dX12_comes_87 : decode cX12_comes 87 = .ok (.getfield 312, 3) := by decide +kernel
theorem dX12_comes_90 : decode cX12_comes 90 = .ok (.getfield 252, 3) := by decide +kernel
theorem dX12_comes_93 : decode cX12_comes 93 = .ok (.aload_n 0, 1) := by decide +kernel
theorem dX12_comes_94 : decode cX12_comes 94 = .ok (.getfield 57, 3) := by decide +kernel
theorem dX12_comes_97 : decode cX12_comes 97 = .ok (.iload 4, 2) := by decide +kernel
theorem dX12_comes_99 : decode cX12_comes 99 = .ok (.iaload, 1) := by decide +kernel
theorem dX12_comes_100 : decode cX12_comes 100 = .ok (.iaload, 1) := by decide +kernel
theorem dX12_comes_101 : decode cX12_comes 101 = .ok (.invokestatic 520, 3) := by decide +kernel
theorem dX12_comes_104 : decode cX12_comes 104 = .ok (.aload_n 0, 1) := by decide +kernel
theorem dX12_comes_105 : decode cX12_comes 105 = .ok (.getfield 97, 3) := by decide +kernel
theorem dX12_comes_108 : decode cX12_comes 108 = .ok (.aload_n 0, 1) := by decide +kernel
theorem dX12_comes_109 : decode cX12_comes 109 = .ok (.getfield 312, 3) := by decide +kernel
theorem dX12_comes_112 : decode cX12_comes 112 = .ok (.getfield 252, 3) := by decide +kernel
theorem dX12_comes_115 : decode cX12_comes 115 = .ok (.aload_n 0, 1) := by decide +kernel
theorem dX12_comes_116 : decode cX12_comes 116 = .ok (.getfield 57, 3) := by decide +kernel
theorem dX12_comes_119 : decode cX12_comes 119 = .ok (.iload 4, 2) := by decide +kernel
theorem dX12_comes_121 : decode cX12_comes 121 = .ok (.iaload, 1) := by decide +kernel
theorem dX12_comes_122 : decode cX12_comes 122 = .ok (.iaload, 1) := by decide +kernel
theorem dX12_comes_123 : decode cX12_comes 123 = .ok (.invokestatic 520, 3) := by decide +kernel
theorem dX12_comes_126 : decode cX12_comes 126 = .ok (.iinc 4 1, 3) := by decide +kernel
theorem dX12_comes_129 : decode cX12_comes 129 = .ok (.goto (-68), 3) := by decide +kernel
theorem dX12_comes_132 : decode cX12_comes 132 = .ok (.aload_n 0, 1) := by decide +kernel
theorem dX12_comes_133 : decode cX12_comes 133 = .ok (.getfield 94, 3) := by decide +kernel
theorem dX12_comes_136 : decode cX12_comes 136 = .ok (.aload_n 0, 1) := by decide +kernel
theorem dX12_comes_137 : decode cX12_comes 137 = .ok (.getfield 100, 3) := by decide +kernel
theorem dX12_comes_140 : decode cX12_comes 140 = .ok (.invokestatic 484, 3) := by decide +kernel
theorem dX12_comes_143 : decode cX12_comes 143 = .ok (.aload_n 0, 1) := by decide +kernel
theorem dX12_comes_144 : decode cX12_comes 144 = .ok (.invokevirtual 527, 3) := by decide +kernel
theorem dX12_comes_147 : decode cX12_comes 147 = .ok (.return_, 1) := by decide +kernel
theorem dX12_sum_0 : decode cX12_sum 0 = .ok (.aload_n 0, 1) := by decide +kernel
theorem dX12_sum_1 : decode cX12_sum 1 = .ok (.iconst 0, 1) := by decide +kernel
theorem dX12_sum_2 : decode cX12_sum 2 = .ok (.putfield 147, 3) := by decide +kernel
theorem dX12_sum_5 : decode cX12_sum 5 = .ok (.aload_n 0, 1) := by decide +kernel
theorem dX12_sum_6 : decode cX12_sum 6 = .ok (.iload_n 1, 1) := by decide +kernel
theorem dX12_sum_7 : decode cX12_sum 7 = .ok (.iload_n 2, 1) := by decide +kernel
theorem dX12_sum_8 : decode cX12_sum 8 = .ok (.iload_n 3, 1) := by decide +kernel
theorem dX12_sum_9 : decode cX12_sum 9 = .ok (.invokevirtual 530, 3) := by decide +kernel
theorem dX12_sum_12 : decode cX12_sum 12 = .ok (.ifCond .ne 7, 3) := by decide +kernel
theorem dX12_sum_15 : decode cX12_sum 15 = .ok (.ldc2_w 129, 3) := by decide +kernel
theorem dX12_sum_18 : decode cX12_sum 18 = .ok (.lreturn, 1) := by decide +kernel
theorem dX12_sum_19 : decode cX12_sum 19 = .ok (.aload_n 0, 1) := by decide +kernel
theorem dX12_sum_20 : decode cX12_sum 20 = .ok (.getfield 94, 3) := by decide +kernel
theorem dX12_sum_23 : decode cX12_sum 23 = .ok (.iconst 0, 1) := by decide +kernel
theorem dX12_sum_24 : decode cX12_sum 24 = .ok (.invokestatic 501, 3) := by decide +kernel
theorem dX12_sum_27 : decode cX12_sum 27 = .ok (.aload_n 0, 1) := by decide +kernel
theorem dX12_sum_28 : decode cX12_sum 28 = .ok (.getfield 97, 3) := by decide +kernel
theorem dX12_sum_31 : decode cX12_sum 31 = .ok (.iconst 1, 1) := by decide +kernel
theorem dX12_sum_32 : decode cX12_sum 32 = .ok (.invokestatic 501, 3) := by decide +kernel
theorem dX12_sum_35 : decode cX12_sum 35 = .ok (.aload_n 0, 1) := by decide +kernel
theorem dX12_sum_36 : decode cX12_sum 36 = .ok (.aload_n 0, 1) := by decide +kernel
theorem dX12_sum_37 : decode cX12_sum 37 = .ok (.getfield 47, 3) := by decide +kernel
theorem dX12_sum_40 : decode cX12_sum 40 = .ok (.getfield 339, 3) := by decide +kernel
theorem dX12_sum_43 : decode cX12_sum 43 = .ok (.putfield 439, 3) := by decide +kernel
theorem dX12_sum_46 : decode cX12_sum 46 = .ok (.iconst 0, 1) := by decide +kernel
theorem dX12_sum_47 : decode cX12_sum 47 = .ok (.istore 5, 2) := by decide +kernel
theorem dX12_sum_49 : decode cX12_sum 49 = .ok (.iload 5, 2) := by decide +kernel
theorem dX12_sum_51 : decode cX12_sum 51 = .ok (.aload_n 0, 1) := by decide +kernel
theorem dX12_sum_52 : decode cX12_sum 52 = .ok (.getfield 47, 3) := by decide +kernel
theorem dX12_sum_55 : decode cX12_sum 55 = .ok (.getfield 404, 3) := by decide +kernel
theorem dX12_sum_58 : decode cX12_sum 58 = .ok (.if_icmp .ge 63, 3) := by decide +kernel
theorem dX12_sum_61 : decode cX12_sum 61 = .ok (.aload_n 0, 1) := by decide +kernel
theorem dX12_sum_62 : decode cX12_sum 62 = .ok (.aload_n 0, 1) := by decide +kernel
theorem dX12_sum_63 : decode cX12_sum 63 = .ok (.getfield 47, 3) := by decide +kernel
theorem dX12_sum_66 : decode cX12_sum 66 = .ok (.iload 5, 2) := by decide +kernel
theorem dX12_sum_68 : decode cX12_sum 68 = .ok (.iload_n 1, 1) := by decide +kernel
theorem dX12_sum_69 : decode cX12_sum 69 = .ok (.iload_n 2, 1) := by decide +kernel
theorem dX12_sum_70 : decode cX12_sum 70 = .ok (.iload_n 3, 1) := by decide +kernel
theorem dX12_sum_71 : decode cX12_sum 71 = .ok (.invokevirtual 533, 3) := by decide +kernel
theorem dX12_sum_74 : decode cX12_sum 74 = .ok (.ifCond .ne 6, 3) := by decide +kernel
theorem dX12_sum_77 : decode cX12_sum 77 = .ok (.goto 38, 3) := by decide +kernel
theorem dX12_sum_80 : decode cX12_sum 80 = .ok (.aload_n 0, 1) := by decide +kernel
theorem dX12_sum_81 : decode cX12_sum 81 = .ok (.aload_n 0, 1) := by decide +kernel
theorem dX12_sum_82 : decode cX12_sum 82 = .ok (.getfield 47, 3) := by decide +kernel
theorem dX12_sum_85 : decode cX12_sum 85 = .ok (.iload 5, 2) := by decide +kernel
theorem dX12_sum_87 : decode cX12_sum 87 = .ok (.invokevirtual 454, 3) := by decide +kernel
theorem dX12_sum_90 : decode cX12_sum 90 = .ok (.aload_n 0, 1) := by decide +kernel
theorem dX12_sum_91 : decode cX12_sum 91 = .ok (.aload_n 0, 1) := by decide +kernel
theorem dX12_sum_92 : decode cX12_sum 92 = .ok (.getfield 47, 3) := by decide +kernel
theorem dX12_sum_95 : decode cX12_sum 95 = .ok (.iload 5, 2) := by decide +kernel
theorem dX12_sum_97 : decode cX12_sum 97 = .ok (.aload_n 0, 1) := by decide +kernel
theorem dX12_sum_98 : decode cX12_sum 98 = .ok (.invokevirtual 461, 3) := by decide +kernel
theorem dX12_sum_101 : decode cX12_sum 101 = .ok (.aload_n 0, 1) := by decide +kernel
theorem dX12_sum_102 : decode cX12_sum 102 = .ok (.getfield 47, 3) := by decide +kernel
theorem dX12_sum_105 : decode cX12_sum 105 = .ok (.getfield 416, 3) := by decide +kernel
theorem dX12_sum_108 : decode cX12_sum 108 = .ok (.iload 5, 2) := by decide +kernel
theorem dX12_sum_110 : decode cX12_sum 110 = .ok (.iaload, 1) := by decide +kernel
theorem dX12_sum_111 : decode cX12_sum 111 = .ok (.imul, 1) := by decide +kernel
theorem dX12_sum_112 : decode cX12_sum 112 = .ok (.invokevirtual 537, 3) := by decide +kernel
theorem dX12_sum_115 : decode cX12_sum 115 = .ok (.iinc 5 1, 3) := by decide +kernel
theorem dX12_sum_118 : decode cX12_sum 118 = .ok (.goto (-69), 3) := by decide +kernel
theorem dX12_sum_121 : decode cX12_sum 121 = .ok (.aload_n 0, 1) := by decide +kernel
theorem dX12_sum_122 : decode cX12_sum 122 = .ok (.iload 4, 2) := by decide +kernel
theorem dX12_sum_124 : decode cX12_sum 124 = .ok (.invokevirtual 541, 3) := by decide +kernel
theorem dX12_sum_127 : decode cX12_sum 127 = .ok (.lreturn, 1) := by decide +kernel
theorem dX12_byPairings_0 : decode cX12_byPairings 0 = .ok (.aload_n 0, 1) := by decide +kernel
theorem dX12_byPairings_1 : decode cX12_byPairings 1 = .ok (.iconst 0, 1) := by decide +kernel
theorem dX12_byPairings_2 : decode cX12_byPairings 2 = .ok (.putfield 147, 3) := by decide +kernel
theorem dX12_byPairings_5 : decode cX12_byPairings 5 = .ok (.aload_n 0, 1) := by decide +kernel
theorem dX12_byPairings_6 : decode cX12_byPairings 6 = .ok (.iload_n 1, 1) := by decide +kernel
theorem dX12_byPairings_7 : decode cX12_byPairings 7 = .ok (.iload_n 2, 1) := by decide +kernel
theorem dX12_byPairings_8 : decode cX12_byPairings 8 = .ok (.iload_n 3, 1) := by decide +kernel
theorem dX12_byPairings_9 : decode cX12_byPairings 9 = .ok (.invokevirtual 530, 3) := by decide +kernel
theorem dX12_byPairings_12 : decode cX12_byPairings 12 = .ok (.ifCond .ne 7, 3) := by decide +kernel
theorem dX12_byPairings_15 : decode cX12_byPairings 15 = .ok (.ldc2_w 129, 3) := by decide +kernel
theorem dX12_byPairings_18 : decode cX12_byPairings 18 = .ok (.lreturn, 1) := by decide +kernel
theorem dX12_byPairings_19 : decode cX12_byPairings 19 = .ok (.aload_n 0, 1) := by decide +kernel
theorem dX12_byPairings_20 : decode cX12_byPairings 20 = .ok (.getfield 94, 3) := by decide +kernel
theorem dX12_byPairings_23 : decode cX12_byPairings 23 = .ok (.iconst 0, 1) := by decide +kernel
theorem dX12_byPairings_24 : decode cX12_byPairings 24 = .ok (.invokestatic 501, 3) := by decide +kernel
theorem dX12_byPairings_27 : decode cX12_byPairings 27 = .ok (.aload_n 0, 1) := by decide +kernel
theorem dX12_byPairings_28 : decode cX12_byPairings 28 = .ok (.getfield 97, 3) := by decide +kernel
theorem dX12_byPairings_31 : decode cX12_byPairings 31 = .ok (.iconst 1, 1) := by decide +kernel
theorem dX12_byPairings_32 : decode cX12_byPairings 32 = .ok (.invokestatic 501, 3) := by decide +kernel
theorem dX12_byPairings_35 : decode cX12_byPairings 35 = .ok (.aload_n 0, 1) := by decide +kernel
theorem dX12_byPairings_36 : decode cX12_byPairings 36 = .ok (.aload_n 0, 1) := by decide +kernel
theorem dX12_byPairings_37 : decode cX12_byPairings 37 = .ok (.getfield 47, 3) := by decide +kernel
theorem dX12_byPairings_40 : decode cX12_byPairings 40 = .ok (.getfield 339, 3) := by decide +kernel
theorem dX12_byPairings_43 : decode cX12_byPairings 43 = .ok (.putfield 439, 3) := by decide +kernel
theorem dX12_byPairings_46 : decode cX12_byPairings 46 = .ok (.iconst 0, 1) := by decide +kernel
theorem dX12_byPairings_47 : decode cX12_byPairings 47 = .ok (.istore 5, 2) := by decide +kernel
theorem dX12_byPairings_49 : decode cX12_byPairings 49 = .ok (.iload 5, 2) := by decide +kernel
theorem dX12_byPairings_51 : decode cX12_byPairings 51 = .ok (.aload_n 0, 1) := by decide +kernel
theorem dX12_byPairings_52 : decode cX12_byPairings 52 = .ok (.getfield 47, 3) := by decide +kernel
theorem dX12_byPairings_55 : decode cX12_byPairings 55 = .ok (.getfield 404, 3) := by decide +kernel
theorem dX12_byPairings_58 : decode cX12_byPairings 58 = .ok (.if_icmp .ge 353, 3) := by decide +kernel
theorem dX12_byPairings_61 : decode cX12_byPairings 61 = .ok (.iload 5, 2) := by decide +kernel
theorem dX12_byPairings_63 : decode cX12_byPairings 63 = .ok (.ifCond .ne 7, 3) := by decide +kernel
theorem dX12_byPairings_66 : decode cX12_byPairings 66 = .ok (.iconst 1, 1) := by decide +kernel
theorem dX12_byPairings_67 : decode cX12_byPairings 67 = .ok (.goto 4, 3) := by decide +kernel
theorem dX12_byPairings_70 : decode cX12_byPairings 70 = .ok (.iconst 0, 1) := by decide +kernel
theorem dX12_byPairings_71 : decode cX12_byPairings 71 = .ok (.istore 6, 2) := by decide +kernel
theorem dX12_byPairings_73 : decode cX12_byPairings 73 = .ok (.iconst 0, 1) := by decide +kernel
theorem dX12_byPairings_74 : decode cX12_byPairings 74 = .ok (.istore 7, 2) := by decide +kernel
theorem dX12_byPairings_76 : decode cX12_byPairings 76 = .ok (.iload 7, 2) := by decide +kernel
theorem dX12_byPairings_78 : decode cX12_byPairings 78 = .ok (.aload_n 0, 1) := by decide +kernel
theorem dX12_byPairings_79 : decode cX12_byPairings 79 = .ok (.getfield 47, 3) := by decide +kernel
theorem dX12_byPairings_82 : decode cX12_byPairings 82 = .ok (.getfield 339, 3) := by decide +kernel
theorem dX12_byPairings_85 : decode cX12_byPairings 85 = .ok (.if_icmp .ge 56, 3) := by decide +kernel
theorem dX12_byPairings_88 : decode cX12_byPairings 88 = .ok (.iload 6, 2) := by decide +kernel
theorem dX12_byPairings_90 : decode cX12_byPairings 90 = .ok (.ifCond .ne 51, 3) := by decide +kernel
theorem dX12_byPairings_93 : decode cX12_byPairings 93 = .ok (.aload_n 0, 1) := by decide +kernel
theorem dX12_byPairings_94 : decode cX12_byPairings 94 = .ok (.getfield 47, 3) := by decide +kernel
theorem dX12_byPairings_97 : decode cX12_byPairings 97 = .ok (.getfield 407, 3) := by decide +kernel
theorem dX12_byPairings_100 : decode cX12_byPairings 100 = .ok (.iconst 3, 1) := by decide +kernel
theorem dX12_byPairings_101 : decode cX12_byPairings 101 = .ok (.iload 5, 2) := by decide +kernel
theorem dX12_byPairings_103 : decode cX12_byPairings 103 = .ok (.imul, 1) := by decide +kernel
theorem dX12_byPairings_104 : decode cX12_byPairings 104 = .ok (.iload 7, 2) := by decide +kernel
theorem dX12_byPairings_106 : decode cX12_byPairings 106 = .ok (.iadd, 1) := by decide +kernel
theorem dX12_byPairings_107 : decode cX12_byPairings 107 = .ok (.iaload, 1) := by decide +kernel
theorem dX12_byPairings_108 : decode cX12_byPairings 108 = .ok (.aload_n 0, 1) := by decide +kernel
theorem dX12_byPairings_109 : decode cX12_byPairings 109 = .ok (.getfield 47, 3) := by decide +kernel
theorem dX12_byPairings_112 : decode cX12_byPairings 112 = .ok (.getfield 407, 3) := by decide +kernel
theorem dX12_byPairings_115 : decode cX12_byPairings 115 = .ok (.iconst 3, 1) := by decide +kernel
theorem dX12_byPairings_116 : decode cX12_byPairings 116 = .ok (.iload 5, 2) := by decide +kernel
theorem dX12_byPairings_118 : decode cX12_byPairings 118 = .ok (.imul, 1) := by decide +kernel
theorem dX12_byPairings_119 : decode cX12_byPairings 119 = .ok (.iconst 3, 1) := by decide +kernel
theorem dX12_byPairings_120 : decode cX12_byPairings 120 = .ok (.isub, 1) := by decide +kernel
theorem dX12_byPairings_121 : decode cX12_byPairings 121 = .ok (.iload 7, 2) := by decide +kernel
theorem dX12_byPairings_123 : decode cX12_byPairings 123 = .ok (.iadd, 1) := by decide +kernel
theorem dX12_byPairings_124 : decode cX12_byPairings 124 = .ok (.iaload, 1) := by decide +kernel
theorem dX12_byPairings_125 : decode cX12_byPairings 125 = .ok (.if_icmp .eq 7, 3) := by decide +kernel
theorem dX12_byPairings_128 : decode cX12_byPairings 128 = .ok (.iconst 1, 1) := by decide +kernel
theorem dX12_byPairings_129 : decode cX12_byPairings 129 = .ok (.goto 4, 3) := by decide +kernel
theorem dX12_byPairings_132 : decode cX12_byPairings 132 = .ok (.iconst 0, 1) := by decide +kernel
theorem dX12_byPairings_133 : decode cX12_byPairings 133 = .ok (.istore 6, 2) := by decide +kernel
theorem dX12_byPairings_135 : decode cX12_byPairings 135 = .ok (.iinc 7 1, 3) := by decide +kernel
theorem dX12_byPairings_138 : decode cX12_byPairings 138 = .ok (.goto (-62), 3) := by decide +kernel
theorem dX12_byPairings_141 : decode cX12_byPairings 141 = .ok (.iload 6, 2) := by decide +kernel
theorem dX12_byPairings_143 : decode cX12_byPairings 143 = .ok (.ifCond .eq 262, 3) := by decide +kernel
theorem dX12_byPairings_146 : decode cX12_byPairings 146 = .ok (.aload_n 0, 1) := by decide +kernel
theorem dX12_byPairings_147 : decode cX12_byPairings 147 = .ok (.aload_n 0, 1) := by decide +kernel
theorem dX12_byPairings_148 : decode cX12_byPairings 148 = .ok (.getfield 47, 3) := by decide +kernel
theorem dX12_byPairings_151 : decode cX12_byPairings 151 = .ok (.iload 5, 2) := by decide +kernel
theorem dX12_byPairings_153 : decode cX12_byPairings 153 = .ok (.iload_n 1, 1) := by decide +kernel
theorem dX12_byPairings_154 : decode cX12_byPairings 154 = .ok (.iload_n 2, 1) := by decide +kernel
theorem dX12_byPairings_155 : decode cX12_byPairings 155 = .ok (.iload_n 3, 1) := by decide +kernel
theorem dX12_byPairings_156 : decode cX12_byPairings 156 = .ok (.invokevirtual 533, 3) := by decide +kernel
theorem dX12_byPairings_159 : decode cX12_byPairings 159 = .ok (.ifCond .ne 6, 3) := by decide +kernel
theorem dX12_byPairings_162 : decode cX12_byPairings 162 = .ok (.goto 243, 3) := by decide +kernel
theorem dX12_byPairings_165 : decode cX12_byPairings 165 = .ok (.aload_n 0, 1) := by decide +kernel
theorem dX12_byPairings_166 : decode cX12_byPairings 166 = .ok (.aload_n 0, 1) := by decide +kernel
theorem dX12_byPairings_167 : decode cX12_byPairings 167 = .ok (.getfield 47, 3) := by decide +kernel
theorem dX12_byPairings_170 : decode cX12_byPairings 170 = .ok (.aload_n 0, 1) := by decide +kernel
theorem dX12_byPairings_171 : decode cX12_byPairings 171 = .ok (.getfield 47, 3) := by decide +kernel
theorem dX12_byPairings_174 : decode cX12_byPairings 174 = .ok (.getfield 407, 3) := by decide +kernel
theorem dX12_byPairings_177 : decode cX12_byPairings 177 = .ok (.iconst 3, 1) := by decide +kernel
theorem dX12_byPairings_178 : decode cX12_byPairings 178 = .ok (.iload 5, 2) := by decide +kernel
theorem dX12_byPairings_180 : decode cX12_byPairings 180 = .ok (.imul, 1) := by decide +kernel
theorem dX12_byPairings_181 : decode cX12_byPairings 181 = .ok (.invokevirtual 393, 3) := by decide +kernel
theorem dX12_byPairings_184 : decode cX12_byPairings 184 = .ok (.istore 7, 2) := by decide +kernel
theorem dX12_byPairings_186 : decode cX12_byPairings 186 = .ok (.aload_n 0, 1) := by decide +kernel
theorem dX12_byPairings_187 : decode cX12_byPairings 187 = .ok (.invokevirtual 397, 3) := by decide +kernel
theorem dX12_byPairings_190 : decode cX12_byPairings 190 = .ok (.iconst 0, 1) := by decide +kernel
theorem dX12_byPairings_191 : decode cX12_byPairings 191 = .ok (.istore 8, 2) := by decide +kernel
theorem dX12_byPairings_193 : decode cX12_byPairings 193 = .ok (.iconst 0, 1) := by decide +kernel
theorem dX12_byPairings_194 : decode cX12_byPairings 194 = .ok (.istore 9, 2) := by decide +kernel
theorem dX12_byPairings_196 : decode cX12_byPairings 196 = .ok (.iload 9, 2) := by decide +kernel
theorem dX12_byPairings_198 : decode cX12_byPairings 198 = .ok (.aload_n 0, 1) := by decide +kernel
theorem dX12_byPairings_199 : decode cX12_byPairings 199 = .ok (.getfield 353, 3) := by decide +kernel
theorem dX12_byPairings_202 : decode cX12_byPairings 202 = .ok (.if_icmp .ge 159, 3) := by decide +kernel
theorem dX12_byPairings_205 : decode cX12_byPairings 205 = .ok (.aload_n 0, 1) := by decide +kernel
theorem dX12_byPairings_206 : decode cX12_byPairings 206 = .ok (.aload_n 0, 1) := by decide +kernel
theorem dX12_byPairings_207 : decode cX12_byPairings 207 = .ok (.getfield 72, 3) := by decide +kernel
theorem dX12_byPairings_210 : decode cX12_byPairings 210 = .ok (.iload 9, 2) := by decide +kernel
theorem dX12_byPairings_212 : decode cX12_byPairings 212 = .ok (.laload, 1) := by decide +kernel
theorem dX12_byPairings_213 : decode cX12_byPairings 213 = .ok (.invokevirtual 366, 3) := by decide +kernel
theorem dX12_byPairings_216 : decode cX12_byPairings 216 = .ok (.lconst 1, 1) := by decide +kernel
theorem dX12_byPairings_217 : decode cX12_byPairings 217 = .ok (.lstore 10, 2) := by decide +kernel
theorem dX12_byPairings_219 : decode cX12_byPairings 219 = .ok (.iconst 0, 1) := by decide +kernel
theorem dX12_byPairings_220 : decode cX12_byPairings 220 = .ok (.istore 12, 2) := by decide +kernel
theorem dX12_byPairings_222 : decode cX12_byPairings 222 = .ok (.iload 12, 2) := by decide +kernel
theorem dX12_byPairings_224 : decode cX12_byPairings 224 = .ok (.aload_n 0, 1) := by decide +kernel
theorem dX12_byPairings_225 : decode cX12_byPairings 225 = .ok (.getfield 331, 3) := by decide +kernel
theorem dX12_byPairings_228 : decode cX12_byPairings 228 = .ok (.if_icmp .ge 43, 3) := by decide +kernel
theorem dX12_byPairings_231 : decode cX12_byPairings 231 = .ok (.lload 10, 2) := by decide +kernel
theorem dX12_byPairings_233 : decode cX12_byPairings 233 = .ok (.aload_n 0, 1) := by decide +kernel
theorem dX12_byPairings_234 : decode cX12_byPairings 234 = .ok (.iload 12, 2) := by decide +kernel
theorem dX12_byPairings_236 : decode cX12_byPairings 236 = .ok (.invokevirtual 442, 3) := by decide +kernel
theorem dX12_byPairings_239 : decode cX12_byPairings 239 = .ok (.ifCond .eq 22, 3) := by decide +kernel
theorem dX12_byPairings_242 : decode cX12_byPairings 242 = .ok (.aload_n 0, 1) := by decide +kernel
theorem dX12_byPairings_243 : decode cX12_byPairings 243 = .ok (.getfield 312, 3) := by decide +kernel
theorem dX12_byPairings_246 : decode cX12_byPairings 246 = .ok (.getfield 252, 3) := by decide +kernel
theorem dX12_byPairings_249 : decode cX12_byPairings 249 = .ok (.aload_n 0, 1) := by decide +kernel
theorem dX12_byPairings_250 : decode cX12_byPairings 250 = .ok (.getfield 57, 3) := by decide +kernel
theorem dX12_byPairings_253 : decode cX12_byPairings 253 = .ok (.iload 12, 2) := by decide +kernel
theorem dX12_byPairings_255 : decode cX12_byPairings 255 = .ok (.iaload, 1) := by decide +kernel
theorem dX12_byPairings_256 : decode cX12_byPairings 256 = .ok (.iaload, 1) := by decide +kernel
theorem dX12_byPairings_257 : decode cX12_byPairings 257 = .ok (.i2l, 1) := by decide +kernel
theorem dX12_byPairings_258 : decode cX12_byPairings 258 = .ok (.goto 4, 3) := by decide +kernel
theorem dX12_byPairings_261 : decode cX12_byPairings 261 = .ok (.lconst 1, 1) := by decide +kernel
theorem dX12_byPairings_262 : decode cX12_byPairings 262 = .ok (.lmul, 1) := by decide +kernel
theorem dX12_byPairings_263 : decode cX12_byPairings 263 = .ok (.lstore 10, 2) := by decide +kernel
theorem dX12_byPairings_265 : decode cX12_byPairings 265 = .ok (.iinc 12 1, 3) := by decide +kernel
theorem dX12_byPairings_268 : decode cX12_byPairings 268 = .ok (.goto (-46), 3) := by decide +kernel
theorem dX12_byPairings_271 : decode cX12_byPairings 271 = .ok (.iconst 0, 1) := by decide +kernel
theorem dX12_byPairings_272 : decode cX12_byPairings 272 = .ok (.istore 12, 2) := by decide +kernel
theorem dX12_byPairings_274 : decode cX12_byPairings 274 = .ok (.iload 12, 2) := by decide +kernel
theorem dX12_byPairings_276 : decode cX12_byPairings 276 = .ok (.iload 8, 2) := by decide +kernel
theorem dX12_byPairings_278 : decode cX12_byPairings 278 = .ok (.if_icmp .ge 22, 3) := by decide +kernel
theorem dX12_byPairings_281 : decode cX12_byPairings 281 = .ok (.aload_n 0, 1) := by decide +kernel
theorem dX12_byPairings_282 : decode cX12_byPairings 282 = .ok (.getfield 118, 3) := by decide +kernel
theorem dX12_byPairings_285 : decode cX12_byPairings 285 = .ok (.iload 12, 2) := by decide +kernel
theorem dX12_byPairings_287 : decode cX12_byPairings 287 = .ok (.laload, 1) := by decide +kernel
theorem dX12_byPairings_288 : decode cX12_byPairings 288 = .ok (.lload 10, 2) := by decide +kernel
theorem dX12_byPairings_290 : decode cX12_byPairings 290 = .ok (.lcmp, 1) := by decide +kernel
theorem dX12_byPairings_291 : decode cX12_byPairings 291 = .ok (.ifCond .eq 9, 3) := by decide +kernel
theorem dX12_byPairings_294 : decode cX12_byPairings 294 = .ok (.iinc 12 1, 3) := by decide +kernel
theorem dX12_byPairings_297 : decode cX12_byPairings 297 = .ok (.goto (-23), 3) := by decide +kernel
theorem dX12_byPairings_300 : decode cX12_byPairings 300 = .ok (.iload 12, 2) := by decide +kernel
theorem dX12_byPairings_302 : decode cX12_byPairings 302 = .ok (.iload 8, 2) := by decide +kernel
theorem dX12_byPairings_304 : decode cX12_byPairings 304 = .ok (.if_icmp .ne 37, 3) := by decide +kernel
theorem dX12_byPairings_307 : decode cX12_byPairings 307 = .ok (.aload_n 0, 1) := by decide +kernel
theorem dX12_byPairings_308 : decode cX12_byPairings 308 = .ok (.getfield 118, 3) := by decide +kernel
theorem dX12_byPairings_311 : decode cX12_byPairings 311 = .ok (.iload 8, 2) := by decide +kernel
theorem dX12_byPairings_313 : decode cX12_byPairings 313 = .ok (.lload 10, 2) := by decide +kernel
theorem dX12_byPairings_315 : decode cX12_byPairings 315 = .ok (.lastore, 1) := by decide +kernel
theorem dX12_byPairings_316 : decode cX12_byPairings 316 = .ok (.aload_n 0, 1) := by decide +kernel
theorem dX12_byPairings_317 : decode cX12_byPairings 317 = .ok (.getfield 121, 3) := by decide +kernel
theorem dX12_byPairings_320 : decode cX12_byPairings 320 = .ok (.iload 8, 2) := by decide +kernel
theorem dX12_byPairings_322 : decode cX12_byPairings 322 = .ok (.aload_n 0, 1) := by decide +kernel
theorem dX12_byPairings_323 : decode cX12_byPairings 323 = .ok (.getfield 72, 3) := by decide +kernel
theorem dX12_byPairings_326 : decode cX12_byPairings 326 = .ok (.iload 9, 2) := by decide +kernel
theorem dX12_byPairings_328 : decode cX12_byPairings 328 = .ok (.laload, 1) := by decide +kernel
theorem dX12_byPairings_329 : decode cX12_byPairings 329 = .ok (.lastore, 1) := by decide +kernel
theorem dX12_byPairings_330 : decode cX12_byPairings 330 = .ok (.aload_n 0, 1) := by decide +kernel
theorem dX12_byPairings_331 : decode cX12_byPairings 331 = .ok (.getfield 124, 3) := by decide +kernel
theorem dX12_byPairings_334 : decode cX12_byPairings 334 = .ok (.iload 8, 2) := by decide +kernel
theorem dX12_byPairings_336 : decode cX12_byPairings 336 = .ok (.iconst 0, 1) := by decide +kernel
theorem dX12_byPairings_337 : decode cX12_byPairings 337 = .ok (.iastore, 1) := by decide +kernel
theorem dX12_byPairings_338 : decode cX12_byPairings 338 = .ok (.iinc 8 1, 3) := by decide +kernel
theorem dX12_byPairings_341 : decode cX12_byPairings 341 = .ok (.aload_n 0, 1) := by decide +kernel
theorem dX12_byPairings_342 : decode cX12_byPairings 342 = .ok (.getfield 124, 3) := by decide +kernel
theorem dX12_byPairings_345 : decode cX12_byPairings 345 = .ok (.iload 12, 2) := by decide +kernel
theorem dX12_byPairings_347 : decode cX12_byPairings 347 = .ok (.dup2, 1) := by decide +kernel
theorem dX12_byPairings_348 : decode cX12_byPairings 348 = .ok (.iaload, 1) := by decide +kernel
theorem dX12_byPairings_349 : decode cX12_byPairings 349 = .ok (.aload_n 0, 1) := by decide +kernel
theorem dX12_byPairings_350 : decode cX12_byPairings 350 = .ok (.invokevirtual 461, 3) := by decide +kernel
theorem dX12_byPairings_353 : decode cX12_byPairings 353 = .ok (.iadd, 1) := by decide +kernel
theorem dX12_byPairings_354 : decode cX12_byPairings 354 = .ok (.iastore, 1) := by decide +kernel
theorem dX12_byPairings_355 : decode cX12_byPairings 355 = .ok (.iinc 9 1, 3) := by decide +kernel
theorem dX12_byPairings_358 : decode cX12_byPairings 358 = .ok (.goto (-162), 3) := by decide +kernel
theorem dX12_byPairings_361 : decode cX12_byPairings 361 = .ok (.iconst 0, 1) := by decide +kernel
theorem dX12_byPairings_362 : decode cX12_byPairings 362 = .ok (.istore 9, 2) := by decide +kernel
theorem dX12_byPairings_364 : decode cX12_byPairings 364 = .ok (.iload 9, 2) := by decide +kernel
theorem dX12_byPairings_366 : decode cX12_byPairings 366 = .ok (.iload 8, 2) := by decide +kernel
theorem dX12_byPairings_368 : decode cX12_byPairings 368 = .ok (.if_icmp .ge 37, 3) := by decide +kernel
theorem dX12_byPairings_371 : decode cX12_byPairings 371 = .ok (.aload_n 0, 1) := by decide +kernel
theorem dX12_byPairings_372 : decode cX12_byPairings 372 = .ok (.aload_n 0, 1) := by decide +kernel
theorem dX12_byPairings_373 : decode cX12_byPairings 373 = .ok (.getfield 121, 3) := by decide +kernel
theorem dX12_byPairings_376 : decode cX12_byPairings 376 = .ok (.iload 9, 2) := by decide +kernel
theorem dX12_byPairings_378 : decode cX12_byPairings 378 = .ok (.laload, 1) := by decide +kernel
theorem dX12_byPairings_379 : decode cX12_byPairings 379 = .ok (.invokevirtual 366, 3) := by decide +kernel
theorem dX12_byPairings_382 : decode cX12_byPairings 382 = .ok (.aload_n 0, 1) := by decide +kernel
theorem dX12_byPairings_383 : decode cX12_byPairings 383 = .ok (.aload_n 0, 1) := by decide +kernel
theorem dX12_byPairings_384 : decode cX12_byPairings 384 = .ok (.getfield 47, 3) := by decide +kernel
theorem dX12_byPairings_387 : decode cX12_byPairings 387 = .ok (.iload 5, 2) := by decide +kernel
theorem dX12_byPairings_389 : decode cX12_byPairings 389 = .ok (.aload_n 0, 1) := by decide +kernel
theorem dX12_byPairings_390 : decode cX12_byPairings 390 = .ok (.getfield 124, 3) := by decide +kernel
theorem dX12_byPairings_393 : decode cX12_byPairings 393 = .ok (.iload 9, 2) := by decide +kernel
theorem dX12_byPairings_395 : decode cX12_byPairings 395 = .ok (.iaload, 1) := by decide +kernel
theorem dX12_byPairings_396 : decode cX12_byPairings 396 = .ok (.invokevirtual 537, 3) := by decide +kernel
theorem dX12_byPairings_399 : decode cX12_byPairings 399 = .ok (.iinc 9 1, 3) := by decide +kernel
theorem dX12_byPairings_402 : decode cX12_byPairings 402 = .ok (.goto (-38), 3) := by decide +kernel
theorem dX12_byPairings_405 : decode cX12_byPairings 405 = .ok (.iinc 5 1, 3) := by decide +kernel
theorem dX12_byPairings_408 : decode cX12_byPairings 408 = .ok (.goto (-359), 3) := by decide +kernel
theorem dX12_byPairings_411 : decode cX12_byPairings 411 = .ok (.aload_n 0, 1) := by decide +kernel
theorem dX12_byPairings_412 : decode cX12_byPairings 412 = .ok (.iload 4, 2) := by decide +kernel
theorem dX12_byPairings_414 : decode cX12_byPairings 414 = .ok (.invokevirtual 541, 3) := by decide +kernel
theorem dX12_byPairings_417 : decode cX12_byPairings 417 = .ok (.lreturn, 1) := by decide +kernel
theorem dX12_prime_0 : decode cX12_prime 0 = .ok (.iload_n 0, 1) := by decide +kernel
theorem dX12_prime_1 : decode cX12_prime 1 = .ok (.ifCond .ne 9, 3) := by decide +kernel
theorem dX12_prime_4 : decode cX12_prime 4 = .ok (.ldc_w 544, 3) := by decide +kernel
theorem dX12_prime_7 : decode cX12_prime 7 = .ok (.goto 28, 3) := by decide +kernel
theorem dX12_prime_10 : decode cX12_prime 10 = .ok (.iload_n 0, 1) := by decide +kernel
theorem dX12_prime_11 : decode cX12_prime 11 = .ok (.iconst 1, 1) := by decide +kernel
theorem dX12_prime_12 : decode cX12_prime 12 = .ok (.if_icmp .ne 9, 3) := by decide +kernel
theorem dX12_prime_15 : decode cX12_prime 15 = .ok (.ldc_w 545, 3) := by decide +kernel
theorem dX12_prime_18 : decode cX12_prime 18 = .ok (.goto 17, 3) := by decide +kernel
theorem dX12_prime_21 : decode cX12_prime 21 = .ok (.iload_n 0, 1) := by decide +kernel
theorem dX12_prime_22 : decode cX12_prime 22 = .ok (.iconst 2, 1) := by decide +kernel
theorem dX12_prime_23 : decode cX12_prime 23 = .ok (.if_icmp .ne 9, 3) := by decide +kernel
theorem dX12_prime_26 : decode cX12_prime 26 = .ok (.ldc_w 546, 3) := by decide +kernel
theorem dX12_prime_29 : decode cX12_prime 29 = .ok (.goto 6, 3) := by decide +kernel
theorem dX12_prime_32 : decode cX12_prime 32 = .ok (.ldc_w 547, 3) := by decide +kernel
theorem dX12_prime_35 : decode cX12_prime 35 = .ok (.ireturn, 1) := by decide +kernel
theorem dX12_mod_0 : decode cX12_mod 0 = .ok (.lload_n 0, 1) := by decide +kernel
theorem dX12_mod_1 : decode cX12_mod 1 = .ok (.iload_n 2, 1) := by decide +kernel
theorem dX12_mod_2 : decode cX12_mod 2 = .ok (.i2l, 1) := by decide +kernel
theorem dX12_mod_3 : decode cX12_mod 3 = .ok (.lrem, 1) := by decide +kernel
theorem dX12_mod_4 : decode cX12_mod 4 = .ok (.lstore_n 3, 1) := by decide +kernel
theorem dX12_mod_5 : decode cX12_mod 5 = .ok (.lload_n 3, 1) := by decide +kernel
theorem dX12_mod_6 : decode cX12_mod 6 = .ok (.lconst 0, 1) := by decide +kernel
theorem dX12_mod_7 : decode cX12_mod 7 = .ok (.lcmp, 1) := by decide +kernel
theorem dX12_mod_8 : decode cX12_mod 8 = .ok (.ifCond .ge 10, 3) := by decide +kernel
theorem dX12_mod_11 : decode cX12_mod 11 = .ok (.lload_n 3, 1) := by decide +kernel
theorem dX12_mod_12 : decode cX12_mod 12 = .ok (.iload_n 2, 1) := by decide +kernel
theorem dX12_mod_13 : decode cX12_mod 13 = .ok (.i2l, 1) := by decide +kernel
theorem dX12_mod_14 : decode cX12_mod 14 = .ok (.ladd, 1) := by decide +kernel
theorem dX12_mod_15 : decode cX12_mod 15 = .ok (.goto 4, 3) := by decide +kernel
theorem dX12_mod_18 : decode cX12_mod 18 = .ok (.lload_n 3, 1) := by decide +kernel
theorem dX12_mod_19 : decode cX12_mod 19 = .ok (.l2i, 1) := by decide +kernel
theorem dX12_mod_20 : decode cX12_mod 20 = .ok (.ireturn, 1) := by decide +kernel
theorem dX12_inverse_0 : decode cX12_inverse 0 = .ok (.lconst 1, 1) := by decide +kernel
theorem dX12_inverse_1 : decode cX12_inverse 1 = .ok (.lstore_n 2, 1) := by decide +kernel
theorem dX12_inverse_2 : decode cX12_inverse 2 = .ok (.iload_n 0, 1) := by decide +kernel
theorem dX12_inverse_3 : decode cX12_inverse 3 = .ok (.i2l, 1) := by decide +kernel
theorem dX12_inverse_4 : decode cX12_inverse 4 = .ok (.lstore 4, 2) := by decide +kernel
theorem dX12_inverse_6 : decode cX12_inverse 6 = .ok (.iload_n 1, 1) := by decide +kernel
theorem dX12_inverse_7 : decode cX12_inverse 7 = .ok (.iconst 2, 1) := by decide +kernel
theorem dX12_inverse_8 : decode cX12_inverse 8 = .ok (.isub, 1) := by decide +kernel
theorem dX12_inverse_9 : decode cX12_inverse 9 = .ok (.istore 6, 2) := by decide +kernel
theorem dX12_inverse_11 : decode cX12_inverse 11 = .ok (.iload 6, 2) := by decide +kernel
theorem dX12_inverse_13 : decode cX12_inverse 13 = .ok (.ifCond .le 38, 3) := by decide +kernel
theorem dX12_inverse_16 : decode cX12_inverse 16 = .ok (.iload 6, 2) := by decide +kernel
theorem dX12_inverse_18 : decode cX12_inverse 18 = .ok (.iconst 1, 1) := by decide +kernel
theorem dX12_inverse_19 : decode cX12_inverse 19 = .ok (.iand, 1) := by decide +kernel
theorem dX12_inverse_20 : decode cX12_inverse 20 = .ok (.iconst 1, 1) := by decide +kernel
theorem dX12_inverse_21 : decode cX12_inverse 21 = .ok (.if_icmp .ne 11, 3) := by decide +kernel
theorem dX12_inverse_24 : decode cX12_inverse 24 = .ok (.lload_n 2, 1) := by decide +kernel
theorem dX12_inverse_25 : decode cX12_inverse 25 = .ok (.lload 4, 2) := by decide +kernel
theorem dX12_inverse_27 : decode cX12_inverse 27 = .ok (.lmul, 1) := by decide +kernel
theorem dX12_inverse_28 : decode cX12_inverse 28 = .ok (.iload_n 1, 1) := by decide +kernel
theorem dX12_inverse_29 : decode cX12_inverse 29 = .ok (.i2l, 1) := by decide +kernel
theorem dX12_inverse_30 : decode cX12_inverse 30 = .ok (.lrem, 1) := by decide +kernel
theorem dX12_inverse_31 : decode cX12_inverse 31 = .ok (.lstore_n 2, 1) := by decide +kernel
theorem dX12_inverse_32 : decode cX12_inverse 32 = .ok (.lload 4, 2) := by decide +kernel
theorem dX12_inverse_34 : decode cX12_inverse 34 = .ok (.lload 4, 2) := by decide +kernel
theorem dX12_inverse_36 : decode cX12_inverse 36 = .ok (.lmul, 1) := by decide +kernel
theorem dX12_inverse_37 : decode cX12_inverse 37 = .ok (.iload_n 1, 1) := by decide +kernel
theorem dX12_inverse_38 : decode cX12_inverse 38 = .ok (.i2l, 1) := by decide +kernel
theorem dX12_inverse_39 : decode cX12_inverse 39 = .ok (.lrem, 1) := by decide +kernel
theorem dX12_inverse_40 : decode cX12_inverse 40 = .ok (.lstore 4, 2) := by decide +kernel
theorem dX12_inverse_42 : decode cX12_inverse 42 = .ok (.iload 6, 2) := by decide +kernel
theorem dX12_inverse_44 : decode cX12_inverse 44 = .ok (.iconst 1, 1) := by decide +kernel
theorem dX12_inverse_45 : decode cX12_inverse 45 = .ok (.ishr, 1) := by decide +kernel
theorem dX12_inverse_46 : decode cX12_inverse 46 = .ok (.istore 6, 2) := by decide +kernel
theorem dX12_inverse_48 : decode cX12_inverse 48 = .ok (.goto (-37), 3) := by decide +kernel
theorem dX12_inverse_51 : decode cX12_inverse 51 = .ok (.lload_n 2, 1) := by decide +kernel
theorem dX12_inverse_52 : decode cX12_inverse 52 = .ok (.l2i, 1) := by decide +kernel
theorem dX12_inverse_53 : decode cX12_inverse 53 = .ok (.ireturn, 1) := by decide +kernel
theorem dX12_number_0 : decode cX12_number 0 = .ok (.aload_n 0, 1) := by decide +kernel
theorem dX12_number_1 : decode cX12_number 1 = .ok (.iconst 0, 1) := by decide +kernel
theorem dX12_number_2 : decode cX12_number 2 = .ok (.putfield 147, 3) := by decide +kernel
theorem dX12_number_5 : decode cX12_number 5 = .ok (.iload_n 1, 1) := by decide +kernel
theorem dX12_number_6 : decode cX12_number 6 = .ok (.ifCond .lt 11, 3) := by decide +kernel
theorem dX12_number_9 : decode cX12_number 9 = .ok (.iload_n 1, 1) := by decide +kernel
theorem dX12_number_10 : decode cX12_number 10 = .ok (.aload_n 0, 1) := by decide +kernel
theorem dX12_number_11 : decode cX12_number 11 = .ok (.getfield 315, 3) := by decide +kernel
theorem dX12_number_14 : decode cX12_number 14 = .ok (.if_icmp .lt 9, 3) := by decide +kernel
theorem dX12_number_17 : decode cX12_number 17 = .ok (.aload_n 0, 1) := by decide +kernel
theorem dX12_number_18 : decode cX12_number 18 = .ok (.iconst 1, 1) := by decide +kernel
theorem dX12_number_19 : decode cX12_number 19 = .ok (.invokevirtual 548, 3) := by decide +kernel
theorem dX12_number_22 : decode cX12_number 22 = .ok (.ireturn, 1) := by decide +kernel
theorem dX12_number_23 : decode cX12_number 23 = .ok (.iload_n 2, 1) := by decide +kernel
theorem dX12_number_24 : decode cX12_number 24 = .ok (.sipush (-999), 3) := by decide +kernel
theorem dX12_number_27 : decode cX12_number 27 = .ok (.sipush 999, 3) := by decide +kernel
theorem dX12_number_30 : decode cX12_number 30 = .ok (.invokestatic 242, 3) := by decide +kernel
theorem dX12_number_33 : decode cX12_number 33 = .ok (.ifCond .ne 9, 3) := by decide +kernel
theorem dX12_number_36 : decode cX12_number 36 = .ok (.aload_n 0, 1) := by decide +kernel
theorem dX12_number_37 : decode cX12_number 37 = .ok (.iconst 2, 1) := by decide +kernel
theorem dX12_number_38 : decode cX12_number 38 = .ok (.invokevirtual 548, 3) := by decide +kernel
theorem dX12_number_41 : decode cX12_number 41 = .ok (.ireturn, 1) := by decide +kernel
theorem dX12_number_42 : decode cX12_number 42 = .ok (.aload_n 0, 1) := by decide +kernel
theorem dX12_number_43 : decode cX12_number 43 = .ok (.getfield 38, 3) := by decide +kernel
theorem dX12_number_46 : decode cX12_number 46 = .ok (.iload_n 1, 1) := by decide +kernel
theorem dX12_number_47 : decode cX12_number 47 = .ok (.iload_n 2, 1) := by decide +kernel
theorem dX12_number_48 : decode cX12_number 48 = .ok (.iastore, 1) := by decide +kernel
theorem dX12_number_49 : decode cX12_number 49 = .ok (.aload_n 0, 1) := by decide +kernel
theorem dX12_number_50 : decode cX12_number 50 = .ok (.invokevirtual 551, 3) := by decide +kernel
theorem dX12_number_53 : decode cX12_number 53 = .ok (.ireturn, 1) := by decide +kernel
theorem dX12_letter_0 : decode cX12_letter 0 = .ok (.aload_n 0, 1) := by decide +kernel
theorem dX12_letter_1 : decode cX12_letter 1 = .ok (.iconst 0, 1) := by decide +kernel
theorem dX12_letter_2 : decode cX12_letter 2 = .ok (.putfield 147, 3) := by decide +kernel
theorem dX12_letter_5 : decode cX12_letter 5 = .ok (.aload_n 0, 1) := by decide +kernel
theorem dX12_letter_6 : decode cX12_letter 6 = .ok (.getfield 312, 3) := by decide +kernel
theorem dX12_letter_9 : decode cX12_letter 9 = .ok (.ifnull 12, 3) := by decide +kernel
theorem dX12_letter_12 : decode cX12_letter 12 = .ok (.iload_n 1, 1) := by decide +kernel
theorem dX12_letter_13 : decode cX12_letter 13 = .ok (.iconst 0, 1) := by decide +kernel
theorem dX12_letter_14 : decode cX12_letter 14 = .ok (.iconst 2, 1) := by decide +kernel
theorem dX12_letter_15 : decode cX12_letter 15 = .ok (.invokestatic 242, 3) := by decide +kernel
theorem dX12_letter_18 : decode cX12_letter 18 = .ok (.ifCond .ne 9, 3) := by decide +kernel
theorem dX12_letter_21 : decode cX12_letter 21 = .ok (.aload_n 0, 1) := by decide +kernel
theorem dX12_letter_22 : decode cX12_letter 22 = .ok (.iconst 1, 1) := by decide +kernel
theorem dX12_letter_23 : decode cX12_letter 23 = .ok (.invokevirtual 548, 3) := by decide +kernel
theorem dX12_letter_26 : decode cX12_letter 26 = .ok (.ireturn, 1) := by decide +kernel
theorem dX12_letter_27 : decode cX12_letter 27 = .ok (.iload_n 2, 1) := by decide +kernel
theorem dX12_letter_28 : decode cX12_letter 28 = .ok (.bipush (-99), 2) := by decide +kernel
theorem dX12_letter_30 : decode cX12_letter 30 = .ok (.bipush 99, 2) := by decide +kernel
theorem dX12_letter_32 : decode cX12_letter 32 = .ok (.invokestatic 242, 3) := by decide +kernel
theorem dX12_letter_35 : decode cX12_letter 35 = .ok (.ifCond .ne 9, 3) := by decide +kernel
theorem dX12_letter_38 : decode cX12_letter 38 = .ok (.aload_n 0, 1) := by decide +kernel
theorem dX12_letter_39 : decode cX12_letter 39 = .ok (.iconst 2, 1) := by decide +kernel
theorem dX12_letter_40 : decode cX12_letter 40 = .ok (.invokevirtual 548, 3) := by decide +kernel
theorem dX12_letter_43 : decode cX12_letter 43 = .ok (.ireturn, 1) := by decide +kernel
theorem dX12_letter_44 : decode cX12_letter 44 = .ok (.aload_n 0, 1) := by decide +kernel
theorem dX12_letter_45 : decode cX12_letter 45 = .ok (.getfield 41, 3) := by decide +kernel
theorem dX12_letter_48 : decode cX12_letter 48 = .ok (.iload_n 1, 1) := by decide +kernel
theorem dX12_letter_49 : decode cX12_letter 49 = .ok (.iload_n 2, 1) := by decide +kernel
theorem dX12_letter_50 : decode cX12_letter 50 = .ok (.iastore, 1) := by decide +kernel
theorem dX12_letter_51 : decode cX12_letter 51 = .ok (.aload_n 0, 1) := by decide +kernel
theorem dX12_letter_52 : decode cX12_letter 52 = .ok (.invokevirtual 551, 3) := by decide +kernel
theorem dX12_letter_55 : decode cX12_letter 55 = .ok (.ireturn, 1) := by decide +kernel
theorem dX12_flow_0 : decode cX12_flow 0 = .ok (.iconst 0, 1) := by decide +kernel
theorem dX12_flow_1 : decode cX12_flow 1 = .ok (.istore_n 2, 1) := by decide +kernel
theorem dX12_flow_2 : decode cX12_flow 2 = .ok (.iconst 0, 1) := by decide +kernel
theorem dX12_flow_3 : decode cX12_flow 3 = .ok (.istore_n 3, 1) := by decide +kernel
theorem dX12_flow_4 : decode cX12_flow 4 = .ok (.iload_n 3, 1) := by decide +kernel
theorem dX12_flow_5 : decode cX12_flow 5 = .ok (.aload_n 0, 1) := by decide +kernel
theorem dX12_flow_6 : decode cX12_flow 6 = .ok (.getfield 333, 3) := by decide +kernel
theorem dX12_flow_9 : decode cX12_flow 9 = .ok (.if_icmp .ge 31, 3) := by decide +kernel
theorem dX12_flow_12 : decode cX12_flow 12 = .ok (.iload_n 2, 1) := by decide +kernel
theorem dX12_flow_13 : decode cX12_flow 13 = .ok (.iload_n 1, 1) := by decide +kernel
theorem dX12_flow_14 : decode cX12_flow 14 = .ok (.iload_n 3, 1) := by decide +kernel
theorem dX12_flow_15 : decode cX12_flow 15 = .ok (.ishr, 1) := by decide +kernel
theorem dX12_flow_16 : decode cX12_flow 16 = .ok (.iconst 1, 1) := by decide +kernel
theorem dX12_flow_17 : decode cX12_flow 17 = .ok (.iand, 1) := by decide +kernel
theorem dX12_flow_18 : decode cX12_flow 18 = .ok (.iconst 1, 1) := by decide +kernel
theorem dX12_flow_19 : decode cX12_flow 19 = .ok (.if_icmp .ne 12, 3) := by decide +kernel
theorem dX12_flow_22 : decode cX12_flow 22 = .ok (.aload_n 0, 1) := by decide +kernel
theorem dX12_flow_23 : decode cX12_flow 23 = .ok (.getfield 426, 3) := by decide +kernel
theorem dX12_flow_26 : decode cX12_flow 26 = .ok (.iload_n 3, 1) := by decide +kernel
theorem dX12_flow_27 : decode cX12_flow 27 = .ok (.iaload, 1) := by decide +kernel
theorem dX12_flow_28 : decode cX12_flow 28 = .ok (.goto 4, 3) := by decide +kernel
theorem dX12_flow_31 : decode cX12_flow 31 = .ok (.iconst 0, 1) := by decide +kernel
theorem dX12_flow_32 : decode cX12_flow 32 = .ok (.iadd, 1) := by decide +kernel
theorem dX12_flow_33 : decode cX12_flow 33 = .ok (.istore_n 2, 1) := by decide +kernel
theorem dX12_flow_34 : decode cX12_flow 34 = .ok (.iinc 3 1, 3) := by decide +kernel
theorem dX12_flow_37 : decode cX12_flow 37 = .ok (.goto (-33), 3) := by decide +kernel
theorem dX12_flow_40 : decode cX12_flow 40 = .ok (.iload_n 2, 1) := by decide +kernel
theorem dX12_flow_41 : decode cX12_flow 41 = .ok (.ireturn, 1) := by decide +kernel
theorem dX12_by_0 : decode cX12_by 0 = .ok (.aload_n 1, 1) := by decide +kernel
theorem dX12_by_1 : decode cX12_by 1 = .ok (.iload_n 3, 1) := by decide +kernel
theorem dX12_by_2 : decode cX12_by 2 = .ok (.invokestatic 554, 3) := by decide +kernel
theorem dX12_by_5 : decode cX12_by 5 = .ok (.istore 4, 2) := by decide +kernel
theorem dX12_by_7 : decode cX12_by 7 = .ok (.aload_n 0, 1) := by decide +kernel
theorem dX12_by_8 : decode cX12_by 8 = .ok (.getfield 312, 3) := by decide +kernel
theorem dX12_by_11 : decode cX12_by 11 = .ok (.getfield 252, 3) := by decide +kernel
theorem dX12_by_14 : decode cX12_by 14 = .ok (.aload_n 0, 1) := by decide +kernel
theorem dX12_by_15 : decode cX12_by 15 = .ok (.getfield 57, 3) := by decide +kernel
theorem dX12_by_18 : decode cX12_by 18 = .ok (.iload_n 2, 1) := by decide +kernel
theorem dX12_by_19 : decode cX12_by 19 = .ok (.iaload, 1) := by decide +kernel
theorem dX12_by_20 : decode cX12_by 20 = .ok (.iaload, 1) := by decide +kernel
theorem dX12_by_21 : decode cX12_by 21 = .ok (.istore 5, 2) := by decide +kernel
theorem dX12_by_23 : decode cX12_by 23 = .ok (.iload 4, 2) := by decide +kernel
theorem dX12_by_25 : decode cX12_by 25 = .ok (.iload 4, 2) := by decide +kernel
theorem dX12_by_27 : decode cX12_by 27 = .ok (.imul, 1) := by decide +kernel
theorem dX12_by_28 : decode cX12_by 28 = .ok (.iload 5, 2) := by decide +kernel
theorem dX12_by_30 : decode cX12_by 30 = .ok (.iload 5, 2) := by decide +kernel
theorem dX12_by_32 : decode cX12_by 32 = .ok (.imul, 1) := by decide +kernel
theorem dX12_by_33 : decode cX12_by 33 = .ok (.isub, 1) := by decide +kernel
theorem dX12_by_34 : decode cX12_by 34 = .ok (.ireturn, 1) := by decide +kernel
theorem dX12_cutOf_0 : decode cX12_cutOf 0 = .ok (.iconst 0, 1) := by decide +kernel
theorem dX12_cutOf_1 : decode cX12_cutOf 1 = .ok (.istore_n 3, 1) := by decide +kernel
theorem dX12_cutOf_2 : decode cX12_cutOf 2 = .ok (.iload_n 3, 1) := by decide +kernel
theorem dX12_cutOf_3 : decode cX12_cutOf 3 = .ok (.aload_n 0, 1) := by decide +kernel
theorem dX12_cutOf_4 : decode cX12_cutOf 4 = .ok (.getfield 331, 3) := by decide +kernel
theorem dX12_cutOf_7 : decode cX12_cutOf 7 = .ok (.if_icmp .ge 70, 3) := by decide +kernel
theorem dX12_cutOf_10 : decode cX12_cutOf 10 = .ok (.aload_n 0, 1) := by decide +kernel
theorem dX12_cutOf_11 : decode cX12_cutOf 11 = .ok (.iload_n 3, 1) := by decide +kernel
theorem dX12_cutOf_12 : decode cX12_cutOf 12 = .ok (.invokevirtual 445, 3) := by decide +kernel
theorem dX12_cutOf_15 : decode cX12_cutOf 15 = .ok (.iload_n 1, 1) := by decide +kernel
theorem dX12_cutOf_16 : decode cX12_cutOf 16 = .ok (.if_icmp .eq 6, 3) := by decide +kernel
theorem dX12_cutOf_19 : decode cX12_cutOf 19 = .ok (.goto 52, 3) := by decide +kernel
theorem dX12_cutOf_22 : decode cX12_cutOf 22 = .ok (.aload_n 0, 1) := by decide +kernel
theorem dX12_cutOf_23 : decode cX12_cutOf 23 = .ok (.getfield 69, 3) := by decide +kernel
theorem dX12_cutOf_26 : decode cX12_cutOf 26 = .ok (.aload_n 0, 1) := by decide +kernel
theorem dX12_cutOf_27 : decode cX12_cutOf 27 = .ok (.getfield 60, 3) := by decide +kernel
theorem dX12_cutOf_30 : decode cX12_cutOf 30 = .ok (.iload_n 3, 1) := by decide +kernel
theorem dX12_cutOf_31 : decode cX12_cutOf 31 = .ok (.iaload, 1) := by decide +kernel
theorem dX12_cutOf_32 : decode cX12_cutOf 32 = .ok (.iaload, 1) := by decide +kernel
theorem dX12_cutOf_33 : decode cX12_cutOf 33 = .ok (.aload_n 0, 1) := by decide +kernel
theorem dX12_cutOf_34 : decode cX12_cutOf 34 = .ok (.getfield 69, 3) := by decide +kernel
theorem dX12_cutOf_37 : decode cX12_cutOf 37 = .ok (.iconst 0, 1) := by decide +kernel
theorem dX12_cutOf_38 : decode cX12_cutOf 38 = .ok (.iaload, 1) := by decide +kernel
theorem dX12_cutOf_39 : decode cX12_cutOf 39 = .ok (.if_icmp .ne 7, 3) := by decide +kernel
theorem dX12_cutOf_42 : decode cX12_cutOf 42 = .ok (.iload_n 3, 1) := by decide +kernel
theorem dX12_cutOf_43 : decode cX12_cutOf 43 = .ok (.goto 9, 3) := by decide +kernel
theorem dX12_cutOf_46 : decode cX12_cutOf 46 = .ok (.aload_n 0, 1) := by decide +kernel
theorem dX12_cutOf_47 : decode cX12_cutOf 47 = .ok (.getfield 63, 3) := by decide +kernel
theorem dX12_cutOf_50 : decode cX12_cutOf 50 = .ok (.iload_n 3, 1) := by decide +kernel
theorem dX12_cutOf_51 : decode cX12_cutOf 51 = .ok (.iaload, 1) := by decide +kernel
theorem dX12_cutOf_52 : decode cX12_cutOf 52 = .ok (.istore 4, 2) := by decide +kernel
theorem dX12_cutOf_54 : decode cX12_cutOf 54 = .ok (.aload_n 0, 1) := by decide +kernel
theorem dX12_cutOf_55 : decode cX12_cutOf 55 = .ok (.getfield 57, 3) := by decide +kernel
theorem dX12_cutOf_58 : decode cX12_cutOf 58 = .ok (.iload 4, 2) := by decide +kernel
theorem dX12_cutOf_60 : decode cX12_cutOf 60 = .ok (.iaload, 1) := by decide +kernel
theorem dX12_cutOf_61 : decode cX12_cutOf 61 = .ok (.iload_n 2, 1) := by decide +kernel
theorem dX12_cutOf_62 : decode cX12_cutOf 62 = .ok (.if_icmp .ne 7, 3) := by decide +kernel
theorem dX12_cutOf_65 : decode cX12_cutOf 65 = .ok (.iload_n 3, 1) := by decide +kernel
theorem dX12_cutOf_66 : decode cX12_cutOf 66 = .ok (.goto 4, 3) := by decide +kernel
theorem dX12_cutOf_69 : decode cX12_cutOf 69 = .ok (.iconst (-1), 1) := by decide +kernel
theorem dX12_cutOf_70 : decode cX12_cutOf 70 = .ok (.ireturn, 1) := by decide +kernel
theorem dX12_cutOf_71 : decode cX12_cutOf 71 = .ok (.iinc 3 1, 3) := by decide +kernel
theorem dX12_cutOf_74 : decode cX12_cutOf 74 = .ok (.goto (-72), 3) := by decide +kernel
theorem dX12_cutOf_77 : decode cX12_cutOf 77 = .ok (.iconst (-1), 1) := by decide +kernel
theorem dX12_cutOf_78 : decode cX12_cutOf 78 = .ok (.ireturn, 1) := by decide +kernel
theorem dX12_isTree_0 : decode cX12_isTree 0 = .ok (.aload_n 0, 1) := by decide +kernel
theorem dX12_isTree_1 : decode cX12_isTree 1 = .ok (.aload_n 1, 1) := by decide +kernel
theorem dX12_isTree_2 : decode cX12_isTree 2 = .ok (.getfield 339, 3) := by decide +kernel
theorem dX12_isTree_5 : decode cX12_isTree 5 = .ok (.putfield 439, 3) := by decide +kernel
theorem dX12_isTree_8 : decode cX12_isTree 8 = .ok (.aload_n 0, 1) := by decide +kernel
theorem dX12_isTree_9 : decode cX12_isTree 9 = .ok (.aload_n 1, 1) := by decide +kernel
theorem dX12_isTree_10 : decode cX12_isTree 10 = .ok (.iload_n 2, 1) := by decide +kernel
theorem dX12_isTree_11 : decode cX12_isTree 11 = .ok (.invokevirtual 454, 3) := by decide +kernel
theorem dX12_isTree_14 : decode cX12_isTree 14 = .ok (.aload_n 0, 1) := by decide +kernel
theorem dX12_isTree_15 : decode cX12_isTree 15 = .ok (.invokevirtual 464, 3) := by decide +kernel
theorem dX12_isTree_18 : decode cX12_isTree 18 = .ok (.aload_n 1, 1) := by decide +kernel
theorem dX12_isTree_19 : decode cX12_isTree 19 = .ok (.getfield 339, 3) := by decide +kernel
theorem dX12_isTree_22 : decode cX12_isTree 22 = .ok (.iconst 1, 1) := by decide +kernel
theorem dX12_isTree_23 : decode cX12_isTree 23 = .ok (.isub, 1) := by decide +kernel
theorem dX12_isTree_24 : decode cX12_isTree 24 = .ok (.if_icmp .ne 7, 3) := by decide +kernel
theorem dX12_isTree_27 : decode cX12_isTree 27 = .ok (.iconst 1, 1) := by decide +kernel
theorem dX12_isTree_28 : decode cX12_isTree 28 = .ok (.goto 4, 3) := by decide +kernel
theorem dX12_isTree_31 : decode cX12_isTree 31 = .ok (.iconst 0, 1) := by decide +kernel
theorem dX12_isTree_32 : decode cX12_isTree 32 = .ok (.ireturn, 1) := by decide +kernel
theorem dX12_hasPole_0 : decode cX12_hasPole 0 = .ok (.iconst 0, 1) := by decide +kernel
theorem dX12_hasPole_1 : decode cX12_hasPole 1 = .ok (.istore 4, 2) := by decide +kernel
theorem dX12_hasPole_3 : decode cX12_hasPole 3 = .ok (.iload 4, 2) := by decide +kernel
theorem dX12_hasPole_5 : decode cX12_hasPole 5 = .ok (.aload_n 1, 1) := by decide +kernel
theorem dX12_hasPole_6 : decode cX12_hasPole 6 = .ok (.getfield 404, 3) := by decide +kernel
theorem dX12_hasPole_9 : decode cX12_hasPole 9 = .ok (.if_icmp .ge 119, 3) := by decide +kernel
theorem dX12_hasPole_12 : decode cX12_hasPole 12 = .ok (.aload_n 0, 1) := by decide +kernel
theorem dX12_hasPole_13 : decode cX12_hasPole 13 = .ok (.aload_n 1, 1) := by decide +kernel
theorem dX12_hasPole_14 : decode cX12_hasPole 14 = .ok (.iload 4, 2) := by decide +kernel
theorem dX12_hasPole_16 : decode cX12_hasPole 16 = .ok (.invokevirtual 557, 3) := by decide +kernel
theorem dX12_hasPole_19 : decode cX12_hasPole 19 = .ok (.ifCond .ne 6, 3) := by decide +kernel
theorem dX12_hasPole_22 : decode cX12_hasPole 22 = .ok (.goto 100, 3) := by decide +kernel
theorem dX12_hasPole_25 : decode cX12_hasPole 25 = .ok (.iload_n 2, 1) := by decide +kernel
theorem dX12_hasPole_26 : decode cX12_hasPole 26 = .ok (.iconst (-1), 1) := by decide +kernel
theorem dX12_hasPole_27 : decode cX12_hasPole 27 = .ok (.if_icmp .ne 7, 3) := by decide +kernel
theorem dX12_hasPole_30 : decode cX12_hasPole 30 = .ok (.iconst (-1), 1) := by decide +kernel
theorem dX12_hasPole_31 : decode cX12_hasPole 31 = .ok (.goto 9, 3) := by decide +kernel
theorem dX12_hasPole_34 : decode cX12_hasPole 34 = .ok (.aload_n 0, 1) := by decide +kernel
theorem dX12_hasPole_35 : decode cX12_hasPole 35 = .ok (.iload_n 2, 1) := by decide +kernel
theorem dX12_hasPole_36 : decode cX12_hasPole 36 = .ok (.iload_n 3, 1) := by decide +kernel
theorem dX12_hasPole_37 : decode cX12_hasPole 37 = .ok (.invokevirtual 560, 3) := by decide +kernel
theorem dX12_hasPole_40 : decode cX12_hasPole 40 = .ok (.istore 5, 2) := by decide +kernel
theorem dX12_hasPole_42 : decode cX12_hasPole 42 = .ok (.iload_n 2, 1) := by decide +kernel
theorem dX12_hasPole_43 : decode cX12_hasPole 43 = .ok (.iconst (-1), 1) := by decide +kernel
theorem dX12_hasPole_44 : decode cX12_hasPole 44 = .ok (.if_icmp .eq 12, 3) := by decide +kernel
theorem dX12_hasPole_47 : decode cX12_hasPole 47 = .ok (.iload 5, 2) := by decide +kernel
theorem dX12_hasPole_49 : decode cX12_hasPole 49 = .ok (.iconst (-1), 1) := by decide +kernel
theorem dX12_hasPole_50 : decode cX12_hasPole 50 = .ok (.if_icmp .ne 6, 3) := by decide +kernel
theorem dX12_hasPole_53 : decode cX12_hasPole 53 = .ok (.goto 69, 3) := by decide +kernel
theorem dX12_hasPole_56 : decode cX12_hasPole 56 = .ok (.iconst 0, 1) := by decide +kernel
theorem dX12_hasPole_57 : decode cX12_hasPole 57 = .ok (.istore 6, 2) := by decide +kernel
theorem dX12_hasPole_59 : decode cX12_hasPole 59 = .ok (.iload 6, 2) := by decide +kernel
theorem dX12_hasPole_61 : decode cX12_hasPole 61 = .ok (.aload_n 0, 1) := by decide +kernel
theorem dX12_hasPole_62 : decode cX12_hasPole 62 = .ok (.getfield 331, 3) := by decide +kernel
theorem dX12_hasPole_65 : decode cX12_hasPole 65 = .ok (.if_icmp .ge 57, 3) := by decide +kernel
theorem dX12_hasPole_68 : decode cX12_hasPole 68 = .ok (.iload 6, 2) := by decide +kernel
theorem dX12_hasPole_70 : decode cX12_hasPole 70 = .ok (.iload 5, 2) := by decide +kernel
theorem dX12_hasPole_72 : decode cX12_hasPole 72 = .ok (.if_icmp .ne 7, 3) := by decide +kernel
theorem dX12_hasPole_75 : decode cX12_hasPole 75 = .ok (.iconst (-1), 1) := by decide +kernel
theorem dX12_hasPole_76 : decode cX12_hasPole 76 = .ok (.goto 9, 3) := by decide +kernel
theorem dX12_hasPole_79 : decode cX12_hasPole 79 = .ok (.aload_n 0, 1) := by decide +kernel
theorem dX12_hasPole_80 : decode cX12_hasPole 80 = .ok (.iload 6, 2) := by decide +kernel
theorem dX12_hasPole_82 : decode cX12_hasPole 82 = .ok (.invokevirtual 445, 3) := by decide +kernel
theorem dX12_hasPole_85 : decode cX12_hasPole 85 = .ok (.istore 7, 2) := by decide +kernel
theorem dX12_hasPole_87 : decode cX12_hasPole 87 = .ok (.iload 7, 2) := by decide +kernel
theorem dX12_hasPole_89 : decode cX12_hasPole 89 = .ok (.iconst (-1), 1) := by decide +kernel
theorem dX12_hasPole_90 : decode cX12_hasPole 90 = .ok (.if_icmp .eq 26, 3) := by decide +kernel
theorem dX12_hasPole_93 : decode cX12_hasPole 93 = .ok (.aload_n 0, 1) := by decide +kernel
theorem dX12_hasPole_94 : decode cX12_hasPole 94 = .ok (.aload_n 1, 1) := by decide +kernel
theorem dX12_hasPole_95 : decode cX12_hasPole 95 = .ok (.iload 6, 2) := by decide +kernel
theorem dX12_hasPole_97 : decode cX12_hasPole 97 = .ok (.iload 7, 2) := by decide +kernel
theorem dX12_hasPole_99 : decode cX12_hasPole 99 = .ok (.invokevirtual 563, 3) := by decide +kernel
theorem dX12_hasPole_102 : decode cX12_hasPole 102 = .ok (.ifCond .eq 6, 3) := by decide +kernel
theorem dX12_hasPole_105 : decode cX12_hasPole 105 = .ok (.goto 11, 3) := by decide +kernel
theorem dX12_hasPole_108 : decode cX12_hasPole 108 = .ok (.aload_n 0, 1) := by decide +kernel
theorem dX12_hasPole_109 : decode cX12_hasPole 109 = .ok (.iload 7, 2) := by decide +kernel
theorem dX12_hasPole_111 : decode cX12_hasPole 111 = .ok (.putfield 566, 3) := by decide +kernel
theorem dX12_hasPole_114 : decode cX12_hasPole 114 = .ok (.iconst 1, 1) := by decide +kernel
theorem dX12_hasPole_115 : decode cX12_hasPole 115 = .ok (.ireturn, 1) := by decide +kernel
theorem dX12_hasPole_116 : decode cX12_hasPole 116 = .ok (.iinc 6 1, 3) := by decide +kernel
theorem dX12_hasPole_119 : decode cX12_hasPole 119 = .ok (.goto (-60), 3) := by decide +kernel
theorem dX12_hasPole_122 : decode cX12_hasPole 122 = .ok (.iinc 4 1, 3) := by decide +kernel
theorem dX12_hasPole_125 : decode cX12_hasPole 125 = .ok (.goto (-122), 3) := by decide +kernel
theorem dX12_hasPole_128 : decode cX12_hasPole 128 = .ok (.iconst 0, 1) := by decide +kernel
theorem dX12_hasPole_129 : decode cX12_hasPole 129 = .ok (.ireturn, 1) := by decide +kernel
theorem dX12_restOf_0 : decode cX12_restOf 0 = .ok (.lconst 0, 1) := by decide +kernel
theorem dX12_restOf_1 : decode cX12_restOf 1 = .ok (.lstore 5, 2) := by decide +kernel
theorem dX12_restOf_3 : decode cX12_restOf 3 = .ok (.iconst 0, 1) := by decide +kernel
theorem dX12_restOf_4 : decode cX12_restOf 4 = .ok (.istore 7, 2) := by decide +kernel
theorem dX12_restOf_6 : decode cX12_restOf 6 = .ok (.iload 7, 2) := by decide +kernel
theorem dX12_restOf_8 : decode cX12_restOf 8 = .ok (.aload_n 1, 1) := by decide +kernel
theorem dX12_restOf_9 : decode cX12_restOf 9 = .ok (.getfield 404, 3) := by decide +kernel
theorem dX12_restOf_12 : decode cX12_restOf 12 = .ok (.if_icmp .ge 257, 3) := by decide +kernel
theorem dX12_restOf_15 : decode cX12_restOf 15 = .ok (.aload_n 0, 1) := by decide +kernel
theorem dX12_restOf_16 : decode cX12_restOf 16 = .ok (.aload_n 1, 1) := by decide +kernel
theorem dX12_restOf_17 : decode cX12_restOf 17 = .ok (.iload 7, 2) := by decide +kernel
theorem dX12_restOf_19 : decode cX12_restOf 19 = .ok (.invokevirtual 557, 3) := by decide +kernel
theorem dX12_restOf_22 : decode cX12_restOf 22 = .ok (.ifCond .ne 6, 3) := by decide +kernel
theorem dX12_restOf_25 : decode cX12_restOf 25 = .ok (.goto 238, 3) := by decide +kernel
theorem dX12_restOf_28 : decode cX12_restOf 28 = .ok (.iload_n 3, 1) := by decide +kernel
theorem dX12_restOf_29 : decode cX12_restOf 29 = .ok (.iconst (-1), 1) := by decide +kernel
theorem dX12_restOf_30 : decode cX12_restOf 30 = .ok (.if_icmp .ne 7, 3) := by decide +kernel
theorem dX12_restOf_33 : decode cX12_restOf 33 = .ok (.iconst (-1), 1) := by decide +kernel
theorem dX12_restOf_34 : decode cX12_restOf 34 = .ok (.goto 10, 3) := by decide +kernel
theorem dX12_restOf_37 : decode cX12_restOf 37 = .ok (.aload_n 0, 1) := by decide +kernel
theorem dX12_restOf_38 : decode cX12_restOf 38 = .ok (.iload_n 3, 1) := by decide +kernel
theorem dX12_restOf_39 : decode cX12_restOf 39 = .ok (.iload 4, 2) := by decide +kernel
theorem dX12_restOf_41 : decode cX12_restOf 41 = .ok (.invokevirtual 560, 3) := by decide +kernel
theorem dX12_restOf_44 : decode cX12_restOf 44 = .ok (.istore 8, 2) := by decide +kernel
theorem dX12_restOf_46 : decode cX12_restOf 46 = .ok (.iload_n 3, 1) := by decide +kernel
theorem dX12_restOf_47 : decode cX12_restOf 47 = .ok (.iconst (-1), 1) := by decide +kernel
theorem dX12_restOf_48 : decode cX12_restOf 48 = .ok (.if_icmp .eq 12, 3) := by decide +kernel
theorem dX12_restOf_51 : decode cX12_restOf 51 = .ok (.iload 8, 2) := by decide +kernel
theorem dX12_restOf_53 : decode cX12_restOf 53 = .ok (.iconst (-1), 1) := by decide +kernel
theorem dX12_restOf_54 : decode cX12_restOf 54 = .ok (.if_icmp .ne 6, 3) := by decide +kernel
theorem dX12_restOf_57 : decode cX12_restOf 57 = .ok (.goto 206, 3) := by decide +kernel
theorem dX12_restOf_60 : decode cX12_restOf 60 = .ok (.aload_n 0, 1) := by decide +kernel
theorem dX12_restOf_61 : decode cX12_restOf 61 = .ok (.invokevirtual 461, 3) := by decide +kernel
theorem dX12_restOf_64 : decode cX12_restOf 64 = .ok (.i2l, 1) := by decide +kernel
theorem dX12_restOf_65 : decode cX12_restOf 65 = .ok (.aload_n 1, 1) := by decide +kernel
theorem dX12_restOf_66 : decode cX12_restOf 66 = .ok (.getfield 416, 3) := by decide +kernel
theorem dX12_restOf_69 : decode cX12_restOf 69 = .ok (.iload 7, 2) := by decide +kernel
theorem dX12_restOf_71 : decode cX12_restOf 71 = .ok (.iaload, 1) := by decide +kernel
theorem dX12_restOf_72 : decode cX12_restOf 72 = .ok (.i2l, 1) := by decide +kernel
theorem dX12_restOf_73 : decode cX12_restOf 73 = .ok (.lmul, 1) := by decide +kernel
theorem dX12_restOf_74 : decode cX12_restOf 74 = .ok (.iload_n 2, 1) := by decide +kernel
theorem dX12_restOf_75 : decode cX12_restOf 75 = .ok (.invokestatic 569, 3) := by decide +kernel
theorem dX12_restOf_78 : decode cX12_restOf 78 = .ok (.i2l, 1) := by decide +kernel
theorem dX12_restOf_79 : decode cX12_restOf 79 = .ok (.lstore 9, 2) := by decide +kernel
theorem dX12_restOf_81 : decode cX12_restOf 81 = .ok (.aload_n 1, 1) := by decide +kernel
theorem dX12_restOf_82 : decode cX12_restOf 82 = .ok (.getfield 413, 3) := by decide +kernel
theorem dX12_restOf_85 : decode cX12_restOf 85 = .ok (.iload 7, 2) := by decide +kernel
theorem dX12_restOf_87 : decode cX12_restOf 87 = .ok (.iaload, 1) := by decide +kernel
theorem dX12_restOf_88 : decode cX12_restOf 88 = .ok (.i2l, 1) := by decide +kernel
theorem dX12_restOf_89 : decode cX12_restOf 89 = .ok (.iload_n 2, 1) := by decide +kernel
theorem dX12_restOf_90 : decode cX12_restOf 90 = .ok (.invokestatic 569, 3) := by decide +kernel
theorem dX12_restOf_93 : decode cX12_restOf 93 = .ok (.i2l, 1) := by decide +kernel
theorem dX12_restOf_94 : decode cX12_restOf 94 = .ok (.lstore 11, 2) := by decide +kernel
theorem dX12_restOf_96 : decode cX12_restOf 96 = .ok (.iconst 0, 1) := by decide +kernel
theorem dX12_restOf_97 : decode cX12_restOf 97 = .ok (.istore 13, 2) := by decide +kernel
theorem dX12_restOf_99 : decode cX12_restOf 99 = .ok (.iload 13, 2) := by decide +kernel
theorem dX12_restOf_101 : decode cX12_restOf 101 = .ok (.aload_n 1, 1) := by decide +kernel
theorem dX12_restOf_102 : decode cX12_restOf 102 = .ok (.getfield 339, 3) := by decide +kernel
theorem dX12_restOf_105 : decode cX12_restOf 105 = .ok (.if_icmp .ge 64, 3) := by decide +kernel
theorem dX12_restOf_108 : decode cX12_restOf 108 = .ok (.aload_n 1, 1) := by decide +kernel
theorem dX12_restOf_109 : decode cX12_restOf 109 = .ok (.getfield 407, 3) := by decide +kernel
theorem dX12_restOf_112 : decode cX12_restOf 112 = .ok (.iconst 3, 1) := by decide +kernel
theorem dX12_restOf_113 : decode cX12_restOf 113 = .ok (.iload 7, 2) := by decide +kernel
theorem dX12_restOf_115 : decode cX12_restOf 115 = .ok (.imul, 1) := by decide +kernel
theorem dX12_restOf_116 : decode cX12_restOf 116 = .ok (.iload 13, 2) := by decide +kernel
theorem dX12_restOf_118 : decode cX12_restOf 118 = .ok (.iadd, 1) := by decide +kernel
theorem dX12_restOf_119 : decode cX12_restOf 119 = .ok (.iaload, 1) := by decide +kernel
theorem dX12_restOf_120 : decode cX12_restOf 120 = .ok (.istore 14, 2) := by decide +kernel
theorem dX12_restOf_122 : decode cX12_restOf 122 = .ok (.lload 9, 2) := by decide +kernel
theorem dX12_restOf_124 : decode cX12_restOf 124 = .ok (.aload_n 0, 1) := by decide +kernel
theorem dX12_restOf_125 : decode cX12_restOf 125 = .ok (.getfield 312, 3) := by decide +kernel
theorem dX12_restOf_128 : decode cX12_restOf 128 = .ok (.getfield 287, 3) := by decide +kernel
theorem dX12_restOf_131 : decode cX12_restOf 131 = .ok (.iload 14, 2) := by decide +kernel
theorem dX12_restOf_133 : decode cX12_restOf 133 = .ok (.iaload, 1) := by decide +kernel
theorem dX12_restOf_134 : decode cX12_restOf 134 = .ok (.i2l, 1) := by decide +kernel
theorem dX12_restOf_135 : decode cX12_restOf 135 = .ok (.aload_n 0, 1) := by decide +kernel
theorem dX12_restOf_136 : decode cX12_restOf 136 = .ok (.getfield 41, 3) := by decide +kernel
theorem dX12_restOf_139 : decode cX12_restOf 139 = .ok (.aload_n 0, 1) := by decide +kernel
theorem dX12_restOf_140 : decode cX12_restOf 140 = .ok (.getfield 312, 3) := by decide +kernel
theorem dX12_restOf_143 : decode cX12_restOf 143 = .ok (.getfield 290, 3) := by decide +kernel
theorem dX12_restOf_146 : decode cX12_restOf 146 = .ok (.iload 14, 2) := by decide +kernel
theorem dX12_restOf_148 : decode cX12_restOf 148 = .ok (.iaload, 1) := by decide +kernel
theorem dX12_restOf_149 : decode cX12_restOf 149 = .ok (.iaload, 1) := by decide +kernel
theorem dX12_restOf_150 : decode cX12_restOf 150 = .ok (.i2l, 1) := by decide +kernel
theorem dX12_restOf_151 : decode cX12_restOf 151 = .ok (.lmul, 1) := by decide +kernel
theorem dX12_restOf_152 : decode cX12_restOf 152 = .ok (.iload_n 2, 1) := by decide +kernel
theorem dX12_restOf_153 : decode cX12_restOf 153 = .ok (.invokestatic 569, 3) := by decide +kernel
theorem dX12_restOf_156 : decode cX12_restOf 156 = .ok (.i2l, 1) := by decide +kernel
theorem dX12_restOf_157 : decode cX12_restOf 157 = .ok (.lmul, 1) := by decide +kernel
theorem dX12_restOf_158 : decode cX12_restOf 158 = .ok (.iload_n 2, 1) := by decide +kernel
theorem dX12_restOf_159 : decode cX12_restOf 159 = .ok (.i2l, 1) := by decide +kernel
theorem dX12_restOf_160 : decode cX12_restOf 160 = .ok (.lrem, 1) := by decide +kernel
theorem dX12_restOf_161 : decode cX12_restOf 161 = .ok (.lstore 9, 2) := by decide +kernel
theorem dX12_restOf_163 : decode cX12_restOf 163 = .ok (.iinc 13 1, 3) := by decide +kernel
theorem dX12_restOf_166 : decode cX12_restOf 166 = .ok (.goto (-67), 3) := by decide +kernel
theorem dX12_restOf_169 : decode cX12_restOf 169 = .ok (.iconst 0, 1) := by decide +kernel
theorem dX12_restOf_170 : decode cX12_restOf 170 = .ok (.istore 13, 2) := by decide +kernel
theorem dX12_restOf_172 : decode cX12_restOf 172 = .ok (.iload 13, 2) := by decide +kernel
theorem dX12_restOf_174 : decode cX12_restOf 174 = .ok (.aload_n 0, 1) := by decide +kernel
theorem dX12_restOf_175 : decode cX12_restOf 175 = .ok (.getfield 331, 3) := by decide +kernel
theorem dX12_restOf_178 : decode cX12_restOf 178 = .ok (.if_icmp .ge 57, 3) := by decide +kernel
theorem dX12_restOf_181 : decode cX12_restOf 181 = .ok (.iload 13, 2) := by decide +kernel
theorem dX12_restOf_183 : decode cX12_restOf 183 = .ok (.iload 8, 2) := by decide +kernel
theorem dX12_restOf_185 : decode cX12_restOf 185 = .ok (.if_icmp .ne 7, 3) := by decide +kernel
theorem dX12_restOf_188 : decode cX12_restOf 188 = .ok (.iconst (-1), 1) := by decide +kernel
theorem dX12_restOf_189 : decode cX12_restOf 189 = .ok (.goto 9, 3) := by decide +kernel
theorem dX12_restOf_192 : decode cX12_restOf 192 = .ok (.aload_n 0, 1) := by decide +kernel
theorem dX12_restOf_193 : decode cX12_restOf 193 = .ok (.iload 13, 2) := by decide +kernel
theorem dX12_restOf_195 : decode cX12_restOf 195 = .ok (.invokevirtual 445, 3) := by decide +kernel
theorem dX12_restOf_198 : decode cX12_restOf 198 = .ok (.istore 14, 2) := by decide +kernel
theorem dX12_restOf_200 : decode cX12_restOf 200 = .ok (.iload 14, 2) := by decide +kernel
theorem dX12_restOf_202 : decode cX12_restOf 202 = .ok (.iconst (-1), 1) := by decide +kernel
theorem dX12_restOf_203 : decode cX12_restOf 203 = .ok (.if_icmp .eq 26, 3) := by decide +kernel
theorem dX12_restOf_206 : decode cX12_restOf 206 = .ok (.lload 11, 2) := by decide +kernel
theorem dX12_restOf_208 : decode cX12_restOf 208 = .ok (.aload_n 0, 1) := by decide +kernel
theorem dX12_restOf_209 : decode cX12_restOf 209 = .ok (.aload_n 1, 1) := by decide +kernel
theorem dX12_restOf_210 : decode cX12_restOf 210 = .ok (.iload 13, 2) := by decide +kernel
theorem dX12_restOf_212 : decode cX12_restOf 212 = .ok (.iload 14, 2) := by decide +kernel
theorem dX12_restOf_214 : decode cX12_restOf 214 = .ok (.invokevirtual 563, 3) := by decide +kernel
theorem dX12_restOf_217 : decode cX12_restOf 217 = .ok (.i2l, 1) := by decide +kernel
theorem dX12_restOf_218 : decode cX12_restOf 218 = .ok (.iload_n 2, 1) := by decide +kernel
theorem dX12_restOf_219 : decode cX12_restOf 219 = .ok (.invokestatic 569, 3) := by decide +kernel
theorem dX12_restOf_222 : decode cX12_restOf 222 = .ok (.i2l, 1) := by decide +kernel
theorem dX12_restOf_223 : decode cX12_restOf 223 = .ok (.lmul, 1) := by decide +kernel
theorem dX12_restOf_224 : decode cX12_restOf 224 = .ok (.iload_n 2, 1) := by decide +kernel
theorem dX12_restOf_225 : decode cX12_restOf 225 = .ok (.i2l, 1) := by decide +kernel
theorem dX12_restOf_226 : decode cX12_restOf 226 = .ok (.lrem, 1) := by decide +kernel
theorem dX12_restOf_227 : decode cX12_restOf 227 = .ok (.lstore 11, 2) := by decide +kernel
theorem dX12_restOf_229 : decode cX12_restOf 229 = .ok (.iinc 13 1, 3) := by decide +kernel
theorem dX12_restOf_232 : decode cX12_restOf 232 = .ok (.goto (-60), 3) := by decide +kernel
theorem dX12_restOf_235 : decode cX12_restOf 235 = .ok (.lload 11, 2) := by decide +kernel
theorem dX12_restOf_237 : decode cX12_restOf 237 = .ok (.lconst 0, 1) := by decide +kernel
theorem dX12_restOf_238 : decode cX12_restOf 238 = .ok (.lcmp, 1) := by decide +kernel
theorem dX12_restOf_239 : decode cX12_restOf 239 = .ok (.ifCond .ne 5, 3) := by decide +kernel
theorem dX12_restOf_242 : decode cX12_restOf 242 = .ok (.iconst (-1), 1) := by decide +kernel
theorem dX12_restOf_243 : decode cX12_restOf 243 = .ok (.ireturn, 1) := by decide +kernel
theorem dX12_restOf_244 : decode cX12_restOf 244 = .ok (.lload 5, 2) := by decide +kernel
theorem dX12_restOf_246 : decode cX12_restOf 246 = .ok (.lload 9, 2) := by decide +kernel
theorem dX12_restOf_248 : decode cX12_restOf 248 = .ok (.lload 11, 2) := by decide +kernel
theorem dX12_restOf_250 : decode cX12_restOf 250 = .ok (.l2i, 1) := by decide +kernel
theorem dX12_restOf_251 : decode cX12_restOf 251 = .ok (.iload_n 2, 1) := by decide +kernel
theorem dX12_restOf_252 : decode cX12_restOf 252 = .ok (.invokestatic 573, 3) := by decide +kernel
theorem dX12_restOf_255 : decode cX12_restOf 255 = .ok (.i2l, 1) := by decide +kernel
theorem dX12_restOf_256 : decode cX12_restOf 256 = .ok (.lmul, 1) := by decide +kernel
theorem dX12_restOf_257 : decode cX12_restOf 257 = .ok (.ladd, 1) := by decide +kernel
theorem dX12_restOf_258 : decode cX12_restOf 258 = .ok (.iload_n 2, 1) := by decide +kernel
theorem dX12_restOf_259 : decode cX12_restOf 259 = .ok (.i2l, 1) := by decide +kernel
theorem dX12_restOf_260 : decode cX12_restOf 260 = .ok (.lrem, 1) := by decide +kernel
theorem dX12_restOf_261 : decode cX12_restOf 261 = .ok (.lstore 5, 2) := by decide +kernel
theorem dX12_restOf_263 : decode cX12_restOf 263 = .ok (.iinc 7 1, 3) := by decide +kernel
theorem dX12_restOf_266 : decode cX12_restOf 266 = .ok (.goto (-260), 3) := by decide +kernel
theorem dX12_restOf_269 : decode cX12_restOf 269 = .ok (.lload 5, 2) := by decide +kernel
theorem dX12_restOf_271 : decode cX12_restOf 271 = .ok (.l2i, 1) := by decide +kernel
theorem dX12_restOf_272 : decode cX12_restOf 272 = .ok (.ireturn, 1) := by decide +kernel
theorem dX12_isFound_0 : decode cX12_isFound 0 = .ok (.iconst 0, 1) := by decide +kernel
theorem dX12_isFound_1 : decode cX12_isFound 1 = .ok (.invokestatic 576, 3) := by decide +kernel
theorem dX12_isFound_4 : decode cX12_isFound 4 = .ok (.i2l, 1) := by decide +kernel
theorem dX12_isFound_5 : decode cX12_isFound 5 = .ok (.lstore_n 1, 1) := by decide +kernel
theorem dX12_isFound_6 : decode cX12_isFound 6 = .ok (.iconst 1, 1) := by decide +kernel
theorem dX12_isFound_7 : decode cX12_isFound 7 = .ok (.invokestatic 576, 3) := by decide +kernel
theorem dX12_isFound_10 : decode cX12_isFound 10 = .ok (.i2l, 1) := by decide +kernel
theorem dX12_isFound_11 : decode cX12_isFound 11 = .ok (.lstore_n 3, 1) := by decide +kernel
theorem dX12_isFound_12 : decode cX12_isFound 12 = .ok (.aload_n 0, 1) := by decide +kernel
theorem dX12_isFound_13 : decode cX12_isFound 13 = .ok (.getfield 138, 3) := by decide +kernel
theorem dX12_isFound_16 : decode cX12_isFound 16 = .ok (.iconst 0, 1) := by decide +kernel
theorem dX12_isFound_17 : decode cX12_isFound 17 = .ok (.iaload, 1) := by decide +kernel
theorem dX12_isFound_18 : decode cX12_isFound 18 = .ok (.i2l, 1) := by decide +kernel
theorem dX12_isFound_19 : decode cX12_isFound 19 = .ok (.lstore 5, 2) := by decide +kernel
theorem dX12_isFound_21 : decode cX12_isFound 21 = .ok (.lload 5, 2) := by decide +kernel
theorem dX12_isFound_23 : decode cX12_isFound 23 = .ok (.lload_n 1, 1) := by decide +kernel
theorem dX12_isFound_24 : decode cX12_isFound 24 = .ok (.aload_n 0, 1) := by decide +kernel
theorem dX12_isFound_25 : decode cX12_isFound 25 = .ok (.getfield 138, 3) := by decide +kernel
theorem dX12_isFound_28 : decode cX12_isFound 28 = .ok (.iconst 1, 1) := by decide +kernel
theorem dX12_isFound_29 : decode cX12_isFound 29 = .ok (.iaload, 1) := by decide +kernel
theorem dX12_isFound_30 : decode cX12_isFound 30 = .ok (.i2l, 1) := by decide +kernel
theorem dX12_isFound_31 : decode cX12_isFound 31 = .ok (.lload 5, 2) := by decide +kernel
theorem dX12_isFound_33 : decode cX12_isFound 33 = .ok (.lsub, 1) := by decide +kernel
theorem dX12_isFound_34 : decode cX12_isFound 34 = .ok (.lload_n 3, 1) := by decide +kernel
theorem dX12_isFound_35 : decode cX12_isFound 35 = .ok (.lrem, 1) := by decide +kernel
theorem dX12_isFound_36 : decode cX12_isFound 36 = .ok (.lload_n 1, 1) := by decide +kernel
theorem dX12_isFound_37 : decode cX12_isFound 37 = .ok (.iconst 1, 1) := by decide +kernel
theorem dX12_isFound_38 : decode cX12_isFound 38 = .ok (.invokestatic 576, 3) := by decide +kernel
theorem dX12_isFound_41 : decode cX12_isFound 41 = .ok (.invokestatic 569, 3) := by decide +kernel
theorem dX12_isFound_44 : decode cX12_isFound 44 = .ok (.iconst 1, 1) := by decide +kernel
theorem dX12_isFound_45 : decode cX12_isFound 45 = .ok (.invokestatic 576, 3) := by decide +kernel
theorem dX12_isFound_48 : decode cX12_isFound 48 = .ok (.invokestatic 573, 3) := by decide +kernel
theorem dX12_isFound_51 : decode cX12_isFound 51 = .ok (.i2l, 1) := by decide +kernel
theorem dX12_isFound_52 : decode cX12_isFound 52 = .ok (.lmul, 1) := by decide +kernel
theorem dX12_isFound_53 : decode cX12_isFound 53 = .ok (.iconst 1, 1) := by decide +kernel
theorem dX12_isFound_54 : decode cX12_isFound 54 = .ok (.invokestatic 576, 3) := by decide +kernel
theorem dX12_isFound_57 : decode cX12_isFound 57 = .ok (.invokestatic 569, 3) := by decide +kernel
theorem dX12_isFound_60 : decode cX12_isFound 60 = .ok (.i2l, 1) := by decide +kernel
theorem dX12_isFound_61 : decode cX12_isFound 61 = .ok (.lmul, 1) := by decide +kernel
theorem dX12_isFound_62 : decode cX12_isFound 62 = .ok (.ladd, 1) := by decide +kernel
theorem dX12_isFound_63 : decode cX12_isFound 63 = .ok (.lstore 5, 2) := by decide +kernel
theorem dX12_isFound_65 : decode cX12_isFound 65 = .ok (.lload_n 1, 1) := by decide +kernel
theorem dX12_isFound_66 : decode cX12_isFound 66 = .ok (.lload_n 3, 1) := by decide +kernel
theorem dX12_isFound_67 : decode cX12_isFound 67 = .ok (.lmul, 1) := by decide +kernel
theorem dX12_isFound_68 : decode cX12_isFound 68 = .ok (.lstore 7, 2) := by decide +kernel
theorem dX12_isFound_70 : decode cX12_isFound 70 = .ok (.aload_n 0, 1) := by decide +kernel
theorem dX12_isFound_71 : decode cX12_isFound 71 = .ok (.getfield 138, 3) := by decide +kernel
theorem dX12_isFound_74 : decode cX12_isFound 74 = .ok (.iconst 2, 1) := by decide +kernel
theorem dX12_isFound_75 : decode cX12_isFound 75 = .ok (.iaload, 1) := by decide +kernel
theorem dX12_isFound_76 : decode cX12_isFound 76 = .ok (.i2l, 1) := by decide +kernel
theorem dX12_isFound_77 : decode cX12_isFound 77 = .ok (.lload 5, 2) := by decide +kernel
theorem dX12_isFound_79 : decode cX12_isFound 79 = .ok (.lsub, 1) := by decide +kernel
theorem dX12_isFound_80 : decode cX12_isFound 80 = .ok (.iconst 2, 1) := by decide +kernel
theorem dX12_isFound_81 : decode cX12_isFound 81 = .ok (.invokestatic 576, 3) := by decide +kernel
theorem dX12_isFound_84 : decode cX12_isFound 84 = .ok (.invokestatic 569, 3) := by decide +kernel
theorem dX12_isFound_87 : decode cX12_isFound 87 = .ok (.i2l, 1) := by decide +kernel
theorem dX12_isFound_88 : decode cX12_isFound 88 = .ok (.lstore 9, 2) := by decide +kernel
theorem dX12_isFound_90 : decode cX12_isFound 90 = .ok (.lload 5, 2) := by decide +kernel
theorem dX12_isFound_92 : decode cX12_isFound 92 = .ok (.lload 7, 2) := by decide +kernel
theorem dX12_isFound_94 : decode cX12_isFound 94 = .ok (.lload 9, 2) := by decide +kernel
theorem dX12_isFound_96 : decode cX12_isFound 96 = .ok (.lload 7, 2) := by decide +kernel
theorem dX12_isFound_98 : decode cX12_isFound 98 = .ok (.iconst 2, 1) := by decide +kernel
theorem dX12_isFound_99 : decode cX12_isFound 99 = .ok (.invokestatic 576, 3) := by decide +kernel
theorem dX12_isFound_102 : decode cX12_isFound 102 = .ok (.invokestatic 569, 3) := by decide +kernel
theorem dX12_isFound_105 : decode cX12_isFound 105 = .ok (.iconst 2, 1) := by decide +kernel
theorem dX12_isFound_106 : decode cX12_isFound 106 = .ok (.invokestatic 576, 3) := by decide +kernel
theorem dX12_isFound_109 : decode cX12_isFound 109 = .ok (.invokestatic 573, 3) := by decide +kernel
theorem dX12_isFound_112 : decode cX12_isFound 112 = .ok (.i2l, 1) := by decide +kernel
theorem dX12_isFound_113 : decode cX12_isFound 113 = .ok (.lmul, 1) := by decide +kernel
theorem dX12_isFound_114 : decode cX12_isFound 114 = .ok (.iconst 2, 1) := by decide +kernel
theorem dX12_isFound_115 : decode cX12_isFound 115 = .ok (.invokestatic 576, 3) := by decide +kernel
theorem dX12_isFound_118 : decode cX12_isFound 118 = .ok (.i2l, 1) := by decide +kernel
theorem dX12_isFound_119 : decode cX12_isFound 119 = .ok (.lrem, 1) := by decide +kernel
theorem dX12_isFound_120 : decode cX12_isFound 120 = .ok (.lmul, 1) := by decide +kernel
theorem dX12_isFound_121 : decode cX12_isFound 121 = .ok (.ladd, 1) := by decide +kernel
theorem dX12_isFound_122 : decode cX12_isFound 122 = .ok (.lstore 5, 2) := by decide +kernel
theorem dX12_isFound_124 : decode cX12_isFound 124 = .ok (.lload 7, 2) := by decide +kernel
theorem dX12_isFound_126 : decode cX12_isFound 126 = .ok (.iconst 2, 1) := by decide +kernel
theorem dX12_isFound_127 : decode cX12_isFound 127 = .ok (.invokestatic 576, 3) := by decide +kernel
theorem dX12_isFound_130 : decode cX12_isFound 130 = .ok (.i2l, 1) := by decide +kernel
theorem dX12_isFound_131 : decode cX12_isFound 131 = .ok (.lmul, 1) := by decide +kernel
theorem dX12_isFound_132 : decode cX12_isFound 132 = .ok (.lstore 11, 2) := by decide +kernel
theorem dX12_isFound_134 : decode cX12_isFound 134 = .ok (.lload 5, 2) := by decide +kernel
theorem dX12_isFound_136 : decode cX12_isFound 136 = .ok (.lstore 13, 2) := by decide +kernel
theorem dX12_isFound_138 : decode cX12_isFound 138 = .ok (.lconst 0, 1) := by decide +kernel
theorem dX12_isFound_139 : decode cX12_isFound 139 = .ok (.lstore 15, 2) := by decide +kernel
theorem dX12_isFound_141 : decode cX12_isFound 141 = .ok (.lconst 1, 1) := by decide +kernel
theorem dX12_isFound_142 : decode cX12_isFound 142 = .ok (.lstore 17, 2) := by decide +kernel
theorem dX12_isFound_144 : decode cX12_isFound 144 = .ok (.lload 13, 2) := by decide +kernel
theorem dX12_isFound_146 : decode cX12_isFound 146 = .ok (.ldc2_w 579, 3) := by decide +kernel
theorem dX12_isFound_149 : decode cX12_isFound 149 = .ok (.lcmp, 1) := by decide +kernel
theorem dX12_isFound_150 : decode cX12_isFound 150 = .ok (.ifCond .le 49, 3) := by decide +kernel
theorem dX12_isFound_153 : decode cX12_isFound 153 = .ok (.lload 11, 2) := by decide +kernel
theorem dX12_isFound_155 : decode cX12_isFound 155 = .ok (.lload 13, 2) := by decide +kernel
theorem dX12_isFound_157 : decode cX12_isFound 157 = .ok (.ldiv, 1) := by decide +kernel
theorem dX12_isFound_158 : decode cX12_isFound 158 = .ok (.lstore 19, 2) := by decide +kernel
theorem dX12_isFound_160 : decode cX12_isFound 160 = .ok (.lload 11, 2) := by decide +kernel
theorem dX12_isFound_162 : decode cX12_isFound 162 = .ok (.lload 19, 2) := by decide +kernel
theorem dX12_isFound_164 : decode cX12_isFound 164 = .ok (.lload 13, 2) := by decide +kernel
theorem dX12_isFound_166 : decode cX12_isFound 166 = .ok (.lmul, 1) := by decide +kernel
theorem dX12_isFound_167 : decode cX12_isFound 167 = .ok (.lsub, 1) := by decide +kernel
theorem dX12_isFound_168 : decode cX12_isFound 168 = .ok (.lstore 21, 2) := by decide +kernel
theorem dX12_isFound_170 : decode cX12_isFound 170 = .ok (.lload 15, 2) := by decide +kernel
theorem dX12_isFound_172 : decode cX12_isFound 172 = .ok (.lload 19, 2) := by decide +kernel
theorem dX12_isFound_174 : decode cX12_isFound 174 = .ok (.lload 17, 2) := by decide +kernel
theorem dX12_isFound_176 : decode cX12_isFound 176 = .ok (.lmul, 1) := by decide +kernel
theorem dX12_isFound_177 : decode cX12_isFound 177 = .ok (.lsub, 1) := by decide +kernel
theorem dX12_isFound_178 : decode cX12_isFound 178 = .ok (.lstore 23, 2) := by decide +kernel
theorem dX12_isFound_180 : decode cX12_isFound 180 = .ok (.lload 13, 2) := by decide +kernel
theorem dX12_isFound_182 : decode cX12_isFound 182 = .ok (.lstore 11, 2) := by decide +kernel
theorem dX12_isFound_184 : decode cX12_isFound 184 = .ok (.lload 21, 2) := by decide +kernel
theorem dX12_isFound_186 : decode cX12_isFound 186 = .ok (.lstore 13, 2) := by decide +kernel
theorem dX12_isFound_188 : decode cX12_isFound 188 = .ok (.lload 17, 2) := by decide +kernel
theorem dX12_isFound_190 : decode cX12_isFound 190 = .ok (.lstore 15, 2) := by decide +kernel
theorem dX12_isFound_192 : decode cX12_isFound 192 = .ok (.lload 23, 2) := by decide +kernel
theorem dX12_isFound_194 : decode cX12_isFound 194 = .ok (.lstore 17, 2) := by decide +kernel
theorem dX12_isFound_196 : decode cX12_isFound 196 = .ok (.goto (-52), 3) := by decide +kernel
theorem dX12_isFound_199 : decode cX12_isFound 199 = .ok (.lload 17, 2) := by decide +kernel
theorem dX12_isFound_201 : decode cX12_isFound 201 = .ok (.invokestatic 472, 3) := by decide +kernel
theorem dX12_isFound_204 : decode cX12_isFound 204 = .ok (.lstore 19, 2) := by decide +kernel
theorem dX12_isFound_206 : decode cX12_isFound 206 = .ok (.lload 17, 2) := by decide +kernel
theorem dX12_isFound_208 : decode cX12_isFound 208 = .ok (.lconst 0, 1) := by decide +kernel
theorem dX12_isFound_209 : decode cX12_isFound 209 = .ok (.lcmp, 1) := by decide +kernel
theorem dX12_isFound_210 : decode cX12_isFound 210 = .ok (.ifCond .ge 9, 3) := by decide +kernel
theorem dX12_isFound_213 : decode cX12_isFound 213 = .ok (.lload 13, 2) := by decide +kernel
theorem dX12_isFound_215 : decode cX12_isFound 215 = .ok (.lneg, 1) := by decide +kernel
theorem dX12_isFound_216 : decode cX12_isFound 216 = .ok (.goto 5, 3) := by decide +kernel
theorem dX12_isFound_219 : decode cX12_isFound 219 = .ok (.lload 13, 2) := by decide +kernel
theorem dX12_isFound_221 : decode cX12_isFound 221 = .ok (.lstore 21, 2) := by decide +kernel
theorem dX12_isFound_223 : decode cX12_isFound 223 = .ok (.lload 19, 2) := by decide +kernel
theorem dX12_isFound_225 : decode cX12_isFound 225 = .ok (.lconst 0, 1) := by decide +kernel
theorem dX12_isFound_226 : decode cX12_isFound 226 = .ok (.lcmp, 1) := by decide +kernel
theorem dX12_isFound_227 : decode cX12_isFound 227 = .ok (.ifCond .eq 25, 3) := by decide +kernel
theorem dX12_isFound_230 : decode cX12_isFound 230 = .ok (.lload 19, 2) := by decide +kernel
theorem dX12_isFound_232 : decode cX12_isFound 232 = .ok (.ldc2_w 579, 3) := by decide +kernel
theorem dX12_isFound_235 : decode cX12_isFound 235 = .ok (.lcmp, 1) := by decide +kernel
theorem dX12_isFound_236 : decode cX12_isFound 236 = .ok (.ifCond .gt 16, 3) := by decide +kernel
theorem dX12_isFound_239 : decode cX12_isFound 239 = .ok (.lload 13, 2) := by decide +kernel
theorem dX12_isFound_241 : decode cX12_isFound 241 = .ok (.l2i, 1) := by decide +kernel
theorem dX12_isFound_242 : decode cX12_isFound 242 = .ok (.lload 19, 2) := by decide +kernel
theorem dX12_isFound_244 : decode cX12_isFound 244 = .ok (.l2i, 1) := by decide +kernel
theorem dX12_isFound_245 : decode cX12_isFound 245 = .ok (.invokestatic 458, 3) := by decide +kernel
theorem dX12_isFound_248 : decode cX12_isFound 248 = .ok (.iconst 1, 1) := by decide +kernel
theorem dX12_isFound_249 : decode cX12_isFound 249 = .ok (.if_icmp .eq 5, 3) := by decide +kernel
theorem dX12_isFound_252 : decode cX12_isFound 252 = .ok (.iconst 0, 1) := by decide +kernel
theorem dX12_isFound_253 : decode cX12_isFound 253 = .ok (.ireturn, 1) := by decide +kernel
theorem dX12_isFound_254 : decode cX12_isFound 254 = .ok (.iconst 3, 1) := by decide +kernel
theorem dX12_isFound_255 : decode cX12_isFound 255 = .ok (.invokestatic 576, 3) := by decide +kernel
theorem dX12_isFound_258 : decode cX12_isFound 258 = .ok (.istore 23, 2) := by decide +kernel
theorem dX12_isFound_260 : decode cX12_isFound 260 = .ok (.lload 19, 2) := by decide +kernel
theorem dX12_isFound_262 : decode cX12_isFound 262 = .ok (.iload 23, 2) := by decide +kernel
theorem dX12_isFound_264 : decode cX12_isFound 264 = .ok (.invokestatic 569, 3) := by decide +kernel
theorem dX12_isFound_267 : decode cX12_isFound 267 = .ok (.ifCond .eq 34, 3) := by decide +kernel
theorem dX12_isFound_270 : decode cX12_isFound 270 = .ok (.lload 21, 2) := by decide +kernel
theorem dX12_isFound_272 : decode cX12_isFound 272 = .ok (.iload 23, 2) := by decide +kernel
theorem dX12_isFound_274 : decode cX12_isFound 274 = .ok (.invokestatic 569, 3) := by decide +kernel
theorem dX12_isFound_277 : decode cX12_isFound 277 = .ok (.aload_n 0, 1) := by decide +kernel
theorem dX12_isFound_278 : decode cX12_isFound 278 = .ok (.getfield 138, 3) := by decide +kernel
theorem dX12_isFound_281 : decode cX12_isFound 281 = .ok (.iconst 3, 1) := by decide +kernel
theorem dX12_isFound_282 : decode cX12_isFound 282 = .ok (.iaload, 1) := by decide +kernel
theorem dX12_isFound_283 : decode cX12_isFound 283 = .ok (.i2l, 1) := by decide +kernel
theorem dX12_isFound_284 : decode cX12_isFound 284 = .ok (.lload 19, 2) := by decide +kernel
theorem dX12_isFound_286 : decode cX12_isFound 286 = .ok (.iload 23, 2) := by decide +kernel
theorem dX12_isFound_288 : decode cX12_isFound 288 = .ok (.invokestatic 569, 3) := by decide +kernel
theorem dX12_isFound_291 : decode cX12_isFound 291 = .ok (.i2l, 1) := by decide +kernel
theorem dX12_isFound_292 : decode cX12_isFound 292 = .ok (.lmul, 1) := by decide +kernel
theorem dX12_isFound_293 : decode cX12_isFound 293 = .ok (.iload 23, 2) := by decide +kernel
theorem dX12_isFound_295 : decode cX12_isFound 295 = .ok (.i2l, 1) := by decide +kernel
theorem dX12_isFound_296 : decode cX12_isFound 296 = .ok (.lrem, 1) := by decide +kernel
theorem dX12_isFound_297 : decode cX12_isFound 297 = .ok (.l2i, 1) := by decide +kernel
theorem dX12_isFound_298 : decode cX12_isFound 298 = .ok (.if_icmp .eq 5, 3) := by decide +kernel
theorem dX12_isFound_301 : decode cX12_isFound 301 = .ok (.iconst 0, 1) := by decide +kernel
theorem dX12_isFound_302 : decode cX12_isFound 302 = .ok (.ireturn, 1) := by decide +kernel
theorem dX12_isFound_303 : decode cX12_isFound 303 = .ok (.aload_n 0, 1) := by decide +kernel
theorem dX12_isFound_304 : decode cX12_isFound 304 = .ok (.lload 21, 2) := by decide +kernel
theorem dX12_isFound_306 : decode cX12_isFound 306 = .ok (.putfield 131, 3) := by decide +kernel
theorem dX12_isFound_309 : decode cX12_isFound 309 = .ok (.aload_n 0, 1) := by decide +kernel
theorem dX12_isFound_310 : decode cX12_isFound 310 = .ok (.lload 19, 2) := by decide +kernel
theorem dX12_isFound_312 : decode cX12_isFound 312 = .ok (.putfield 135, 3) := by decide +kernel
theorem dX12_isFound_315 : decode cX12_isFound 315 = .ok (.iconst 0, 1) := by decide +kernel
theorem dX12_isFound_316 : decode cX12_isFound 316 = .ok (.istore 24, 2) := by decide +kernel
theorem dX12_isFound_318 : decode cX12_isFound 318 = .ok (.iload 24, 2) := by decide +kernel
theorem dX12_isFound_320 : decode cX12_isFound 320 = .ok (.iconst 4, 1) := by decide +kernel
theorem dX12_isFound_321 : decode cX12_isFound 321 = .ok (.if_icmp .ge 23, 3) := by decide +kernel
theorem dX12_isFound_324 : decode cX12_isFound 324 = .ok (.aload_n 0, 1) := by decide +kernel
theorem dX12_isFound_325 : decode cX12_isFound 325 = .ok (.getfield 141, 3) := by decide +kernel
theorem dX12_isFound_328 : decode cX12_isFound 328 = .ok (.iload 24, 2) := by decide +kernel
theorem dX12_isFound_330 : decode cX12_isFound 330 = .ok (.aload_n 0, 1) := by decide +kernel
theorem dX12_isFound_331 : decode cX12_isFound 331 = .ok (.getfield 138, 3) := by decide +kernel
theorem dX12_isFound_334 : decode cX12_isFound 334 = .ok (.iload 24, 2) := by decide +kernel
theorem dX12_isFound_336 : decode cX12_isFound 336 = .ok (.iaload, 1) := by decide +kernel
theorem dX12_isFound_337 : decode cX12_isFound 337 = .ok (.iastore, 1) := by decide +kernel
theorem dX12_isFound_338 : decode cX12_isFound 338 = .ok (.iinc 24 1, 3) := by decide +kernel
theorem dX12_isFound_341 : decode cX12_isFound 341 = .ok (.goto (-23), 3) := by decide +kernel
theorem dX12_isFound_344 : decode cX12_isFound 344 = .ok (.iconst 1, 1) := by decide +kernel
theorem dX12_isFound_345 : decode cX12_isFound 345 = .ok (.ireturn, 1) := by decide +kernel
theorem dX12_poled_0 : decode cX12_poled 0 = .ok (.aload_n 0, 1) := by decide +kernel
theorem dX12_poled_1 : decode cX12_poled 1 = .ok (.iconst 5, 1) := by decide +kernel
theorem dX12_poled_2 : decode cX12_poled 2 = .ok (.invokevirtual 548, 3) := by decide +kernel
theorem dX12_poled_5 : decode cX12_poled 5 = .ok (.istore_n 1, 1) := by decide +kernel
theorem dX12_poled_6 : decode cX12_poled 6 = .ok (.aload_n 0, 1) := by decide +kernel
theorem dX12_poled_7 : decode cX12_poled 7 = .ok (.aload_n 0, 1) := by decide +kernel
theorem dX12_poled_8 : decode cX12_poled 8 = .ok (.getfield 566, 3) := by decide +kernel
theorem dX12_poled_11 : decode cX12_poled 11 = .ok (.putfield 13, 3) := by decide +kernel
theorem dX12_poled_14 : decode cX12_poled 14 = .ok (.iload_n 1, 1) := by decide +kernel
theorem dX12_poled_15 : decode cX12_poled 15 = .ok (.ireturn, 1) := by decide +kernel
theorem dX12_isEven__0 : decode cX12_isEven_ 0 = .ok (.iconst 0, 1) := by decide +kernel
theorem dX12_isEven__1 : decode cX12_isEven_ 1 = .ok (.istore_n 2, 1) := by decide +kernel
theorem dX12_isEven__2 : decode cX12_isEven_ 2 = .ok (.iconst 0, 1) := by decide +kernel
theorem dX12_isEven__3 : decode cX12_isEven_ 3 = .ok (.istore_n 3, 1) := by decide +kernel
theorem dX12_isEven__4 : decode cX12_isEven_ 4 = .ok (.iload_n 3, 1) := by decide +kernel
theorem dX12_isEven__5 : decode cX12_isEven_ 5 = .ok (.aload_n 1, 1) := by decide +kernel
theorem dX12_isEven__6 : decode cX12_isEven_ 6 = .ok (.getfield 333, 3) := by decide +kernel
theorem dX12_isEven__9 : decode cX12_isEven_ 9 = .ok (.if_icmp .ge 18, 3) := by decide +kernel
theorem dX12_isEven__12 : decode cX12_isEven_ 12 = .ok (.iload_n 2, 1) := by decide +kernel
theorem dX12_isEven__13 : decode cX12_isEven_ 13 = .ok (.aload_n 1, 1) := by decide +kernel
theorem dX12_isEven__14 : decode cX12_isEven_ 14 = .ok (.getfield 426, 3) := by decide +kernel
theorem dX12_isEven__17 : decode cX12_isEven_ 17 = .ok (.iload_n 3, 1) := by decide +kernel
theorem dX12_isEven__18 : decode cX12_isEven_ 18 = .ok (.iaload, 1) := by decide +kernel
theorem dX12_isEven__19 : decode cX12_isEven_ 19 = .ok (.iadd, 1) := by decide +kernel
theorem dX12_isEven__20 : decode cX12_isEven_ 20 = .ok (.istore_n 2, 1) := by decide +kernel
theorem dX12_isEven__21 : decode cX12_isEven_ 21 = .ok (.iinc 3 1, 3) := by decide +kernel
theorem dX12_isEven__24 : decode cX12_isEven_ 24 = .ok (.goto (-20), 3) := by decide +kernel
theorem dX12_isEven__27 : decode cX12_isEven_ 27 = .ok (.iload_n 2, 1) := by decide +kernel
theorem dX12_isEven__28 : decode cX12_isEven_ 28 = .ok (.ifCond .ne 7, 3) := by decide +kernel
theorem dX12_isEven__31 : decode cX12_isEven_ 31 = .ok (.iconst 1, 1) := by decide +kernel
theorem dX12_isEven__32 : decode cX12_isEven_ 32 = .ok (.goto 4, 3) := by decide +kernel
theorem dX12_isEven__35 : decode cX12_isEven_ 35 = .ok (.iconst 0, 1) := by decide +kernel
theorem dX12_isEven__36 : decode cX12_isEven_ 36 = .ok (.ireturn, 1) := by decide +kernel
theorem dX12_at_0 : decode cX12_at 0 = .ok (.aload_n 0, 1) := by decide +kernel
theorem dX12_at_1 : decode cX12_at 1 = .ok (.iconst 0, 1) := by decide +kernel
theorem dX12_at_2 : decode cX12_at 2 = .ok (.putfield 147, 3) := by decide +kernel
theorem dX12_at_5 : decode cX12_at 5 = .ok (.aload_n 0, 1) := by decide +kernel
theorem dX12_at_6 : decode cX12_at 6 = .ok (.iconst (-1), 1) := by decide +kernel
theorem dX12_at_7 : decode cX12_at 7 = .ok (.iconst (-1), 1) := by decide +kernel
theorem dX12_at_8 : decode cX12_at 8 = .ok (.iload_n 1, 1) := by decide +kernel
theorem dX12_at_9 : decode cX12_at 9 = .ok (.iconst 1, 1) := by decide +kernel
theorem dX12_at_10 : decode cX12_at 10 = .ok (.invokevirtual 581, 3) := by decide +kernel
theorem dX12_at_13 : decode cX12_at 13 = .ok (.ireturn, 1) := by decide +kernel
theorem dX12_tells_0 : decode cX12_tells 0 = .ok (.aload_n 0, 1) := by decide +kernel
theorem dX12_tells_1 : decode cX12_tells 1 = .ok (.getfield 315, 3) := by decide +kernel
theorem dX12_tells_4 : decode cX12_tells 4 = .ok (.ifCond .ne 9, 3) := by decide +kernel
theorem dX12_tells_7 : decode cX12_tells 7 = .ok (.aload_n 0, 1) := by decide +kernel
theorem dX12_tells_8 : decode cX12_tells 8 = .ok (.iconst 1, 1) := by decide +kernel
theorem dX12_tells_9 : decode cX12_tells 9 = .ok (.invokevirtual 548, 3) := by decide +kernel
theorem dX12_tells_12 : decode cX12_tells 12 = .ok (.ireturn, 1) := by decide +kernel
theorem dX12_tells_13 : decode cX12_tells 13 = .ok (.iload_n 3, 1) := by decide +kernel
theorem dX12_tells_14 : decode cX12_tells 14 = .ok (.iload 4, 2) := by decide +kernel
theorem dX12_tells_16 : decode cX12_tells 16 = .ok (.iconst 3, 1) := by decide +kernel
theorem dX12_tells_17 : decode cX12_tells 17 = .ok (.invokestatic 242, 3) := by decide +kernel
theorem dX12_tells_20 : decode cX12_tells 20 = .ok (.ifCond .ne 9, 3) := by decide +kernel
theorem dX12_tells_23 : decode cX12_tells 23 = .ok (.aload_n 0, 1) := by decide +kernel
theorem dX12_tells_24 : decode cX12_tells 24 = .ok (.iconst 2, 1) := by decide +kernel
theorem dX12_tells_25 : decode cX12_tells 25 = .ok (.invokevirtual 548, 3) := by decide +kernel
theorem dX12_tells_28 : decode cX12_tells 28 = .ok (.ireturn, 1) := by decide +kernel
theorem dX12_tells_29 : decode cX12_tells 29 = .ok (.aload_n 0, 1) := by decide +kernel
theorem dX12_tells_30 : decode cX12_tells 30 = .ok (.aload_n 0, 1) := by decide +kernel
theorem dX12_tells_31 : decode cX12_tells 31 = .ok (.getfield 51, 3) := by decide +kernel
theorem dX12_tells_34 : decode cX12_tells 34 = .ok (.invokevirtual 428, 3) := by decide +kernel
theorem dX12_tells_37 : decode cX12_tells 37 = .ok (.aload_n 0, 1) := by decide +kernel
theorem dX12_tells_38 : decode cX12_tells 38 = .ok (.aload_n 0, 1) := by decide +kernel
theorem dX12_tells_39 : decode cX12_tells 39 = .ok (.getfield 51, 3) := by decide +kernel
theorem dX12_tells_42 : decode cX12_tells 42 = .ok (.invokevirtual 432, 3) := by decide +kernel
theorem dX12_tells_45 : decode cX12_tells 45 = .ok (.ifCond .ne 10, 3) := by decide +kernel
theorem dX12_tells_48 : decode cX12_tells 48 = .ok (.aload_n 0, 1) := by decide +kernel
theorem dX12_tells_49 : decode cX12_tells 49 = .ok (.bipush 7, 2) := by decide +kernel
theorem dX12_tells_51 : decode cX12_tells 51 = .ok (.invokevirtual 548, 3) := by decide +kernel
theorem dX12_tells_54 : decode cX12_tells 54 = .ok (.ireturn, 1) := by decide +kernel
theorem dX12_tells_55 : decode cX12_tells 55 = .ok (.aload_n 0, 1) := by decide +kernel
theorem dX12_tells_56 : decode cX12_tells 56 = .ok (.aload_n 0, 1) := by decide +kernel
theorem dX12_tells_57 : decode cX12_tells 57 = .ok (.getfield 51, 3) := by decide +kernel
theorem dX12_tells_60 : decode cX12_tells 60 = .ok (.invokevirtual 585, 3) := by decide +kernel
theorem dX12_tells_63 : decode cX12_tells 63 = .ok (.ifCond .ne 10, 3) := by decide +kernel
theorem dX12_tells_66 : decode cX12_tells 66 = .ok (.aload_n 0, 1) := by decide +kernel
theorem dX12_tells_67 : decode cX12_tells 67 = .ok (.bipush 8, 2) := by decide +kernel
theorem dX12_tells_69 : decode cX12_tells 69 = .ok (.invokevirtual 548, 3) := by decide +kernel
theorem dX12_tells_72 : decode cX12_tells 72 = .ok (.ireturn, 1) := by decide +kernel
theorem dX12_tells_73 : decode cX12_tells 73 = .ok (.aload_n 0, 1) := by decide +kernel
theorem dX12_tells_74 : decode cX12_tells 74 = .ok (.aload_n 0, 1) := by decide +kernel
theorem dX12_tells_75 : decode cX12_tells 75 = .ok (.getfield 51, 3) := by decide +kernel
theorem dX12_tells_78 : decode cX12_tells 78 = .ok (.iload_n 3, 1) := by decide +kernel
theorem dX12_tells_79 : decode cX12_tells 79 = .ok (.invokevirtual 435, 3) := by decide +kernel
theorem dX12_tells_82 : decode cX12_tells 82 = .ok (.ifCond .ne 9, 3) := by decide +kernel
theorem dX12_tells_85 : decode cX12_tells 85 = .ok (.aload_n 0, 1) := by decide +kernel
theorem dX12_tells_86 : decode cX12_tells 86 = .ok (.iconst 3, 1) := by decide +kernel
theorem dX12_tells_87 : decode cX12_tells 87 = .ok (.invokevirtual 548, 3) := by decide +kernel
theorem dX12_tells_90 : decode cX12_tells 90 = .ok (.ireturn, 1) := by decide +kernel
theorem dX12_tells_91 : decode cX12_tells 91 = .ok (.iload_n 1, 1) := by decide +kernel
theorem dX12_tells_92 : decode cX12_tells 92 = .ok (.iconst (-1), 1) := by decide +kernel
theorem dX12_tells_93 : decode cX12_tells 93 = .ok (.if_icmp .ne 7, 3) := by decide +kernel
theorem dX12_tells_96 : decode cX12_tells 96 = .ok (.iconst (-1), 1) := by decide +kernel
theorem dX12_tells_97 : decode cX12_tells 97 = .ok (.goto 12, 3) := by decide +kernel
theorem dX12_tells_100 : decode cX12_tells 100 = .ok (.aload_n 0, 1) := by decide +kernel
theorem dX12_tells_101 : decode cX12_tells 101 = .ok (.getfield 312, 3) := by decide +kernel
theorem dX12_tells_104 : decode cX12_tells 104 = .ok (.getfield 257, 3) := by decide +kernel
theorem dX12_tells_107 : decode cX12_tells 107 = .ok (.iload_n 2, 1) := by decide +kernel
theorem dX12_tells_108 : decode cX12_tells 108 = .ok (.iaload, 1) := by decide +kernel
theorem dX12_tells_109 : decode cX12_tells 109 = .ok (.istore 5, 2) := by decide +kernel
theorem dX12_tells_111 : decode cX12_tells 111 = .ok (.aload_n 0, 1) := by decide +kernel
theorem dX12_tells_112 : decode cX12_tells 112 = .ok (.aload_n 0, 1) := by decide +kernel
theorem dX12_tells_113 : decode cX12_tells 113 = .ok (.getfield 51, 3) := by decide +kernel
theorem dX12_tells_116 : decode cX12_tells 116 = .ok (.iload_n 1, 1) := by decide +kernel
theorem dX12_tells_117 : decode cX12_tells 117 = .ok (.iload 5, 2) := by decide +kernel
theorem dX12_tells_119 : decode cX12_tells 119 = .ok (.invokevirtual 587, 3) := by decide +kernel
theorem dX12_tells_122 : decode cX12_tells 122 = .ok (.ifCond .eq 8, 3) := by decide +kernel
theorem dX12_tells_125 : decode cX12_tells 125 = .ok (.aload_n 0, 1) := by decide +kernel
theorem dX12_tells_126 : decode cX12_tells 126 = .ok (.invokevirtual 590, 3) := by decide +kernel
theorem dX12_tells_129 : decode cX12_tells 129 = .ok (.ireturn, 1) := by decide +kernel
theorem dX12_tells_130 : decode cX12_tells 130 = .ok (.iconst 0, 1) := by decide +kernel
theorem dX12_tells_131 : decode cX12_tells 131 = .ok (.istore 6, 2) := by decide +kernel
theorem dX12_tells_133 : decode cX12_tells 133 = .ok (.iload 6, 2) := by decide +kernel
theorem dX12_tells_135 : decode cX12_tells 135 = .ok (.iconst 4, 1) := by decide +kernel
theorem dX12_tells_136 : decode cX12_tells 136 = .ok (.if_icmp .ge 50, 3) := by decide +kernel
theorem dX12_tells_139 : decode cX12_tells 139 = .ok (.aload_n 0, 1) := by decide +kernel
theorem dX12_tells_140 : decode cX12_tells 140 = .ok (.getfield 138, 3) := by decide +kernel
theorem dX12_tells_143 : decode cX12_tells 143 = .ok (.iload 6, 2) := by decide +kernel
theorem dX12_tells_145 : decode cX12_tells 145 = .ok (.aload_n 0, 1) := by decide +kernel
theorem dX12_tells_146 : decode cX12_tells 146 = .ok (.aload_n 0, 1) := by decide +kernel
theorem dX12_tells_147 : decode cX12_tells 147 = .ok (.getfield 51, 3) := by decide +kernel
theorem dX12_tells_150 : decode cX12_tells 150 = .ok (.iload 6, 2) := by decide +kernel
theorem dX12_tells_152 : decode cX12_tells 152 = .ok (.invokestatic 576, 3) := by decide +kernel
theorem dX12_tells_155 : decode cX12_tells 155 = .ok (.iload_n 1, 1) := by decide +kernel
theorem dX12_tells_156 : decode cX12_tells 156 = .ok (.iload 5, 2) := by decide +kernel
theorem dX12_tells_158 : decode cX12_tells 158 = .ok (.invokevirtual 593, 3) := by decide +kernel
theorem dX12_tells_161 : decode cX12_tells 161 = .ok (.iastore, 1) := by decide +kernel
theorem dX12_tells_162 : decode cX12_tells 162 = .ok (.aload_n 0, 1) := by decide +kernel
theorem dX12_tells_163 : decode cX12_tells 163 = .ok (.getfield 138, 3) := by decide +kernel
theorem dX12_tells_166 : decode cX12_tells 166 = .ok (.iload 6, 2) := by decide +kernel
theorem dX12_tells_168 : decode cX12_tells 168 = .ok (.iaload, 1) := by decide +kernel
theorem dX12_tells_169 : decode cX12_tells 169 = .ok (.iconst (-1), 1) := by decide +kernel
theorem dX12_tells_170 : decode cX12_tells 170 = .ok (.if_icmp .ne 10, 3) := by decide +kernel
theorem dX12_tells_173 : decode cX12_tells 173 = .ok (.aload_n 0, 1) := by decide +kernel
theorem dX12_tells_174 : decode cX12_tells 174 = .ok (.bipush 6, 2) := by decide +kernel
theorem dX12_tells_176 : decode cX12_tells 176 = .ok (.invokevirtual 548, 3) := by decide +kernel
theorem dX12_tells_179 : decode cX12_tells 179 = .ok (.ireturn, 1) := by decide +kernel
theorem dX12_tells_180 : decode cX12_tells 180 = .ok (.iinc 6 1, 3) := by decide +kernel
theorem dX12_tells_183 : decode cX12_tells 183 = .ok (.goto (-50), 3) := by decide +kernel
theorem dX12_tells_186 : decode cX12_tells 186 = .ok (.aload_n 0, 1) := by decide +kernel
theorem dX12_tells_187 : decode cX12_tells 187 = .ok (.invokevirtual 597, 3) := by decide +kernel
theorem dX12_tells_190 : decode cX12_tells 190 = .ok (.ifCond .eq 10, 3) := by decide +kernel
theorem dX12_tells_193 : decode cX12_tells 193 = .ok (.aload_n 0, 1) := by decide +kernel
theorem dX12_tells_194 : decode cX12_tells 194 = .ok (.invokevirtual 551, 3) := by decide +kernel
theorem dX12_tells_197 : decode cX12_tells 197 = .ok (.goto 9, 3) := by decide +kernel
theorem dX12_tells_200 : decode cX12_tells 200 = .ok (.aload_n 0, 1) := by decide +kernel
theorem dX12_tells_201 : decode cX12_tells 201 = .ok (.bipush 6, 2) := by decide +kernel
theorem dX12_tells_203 : decode cX12_tells 203 = .ok (.invokevirtual 548, 3) := by decide +kernel
theorem dX12_tells_206 : decode cX12_tells 206 = .ok (.ireturn, 1) := by decide +kernel
theorem dX12_isSide_0 : decode cX12_isSide 0 = .ok (.iconst 0, 1) := by decide +kernel
theorem dX12_isSide_1 : decode cX12_isSide 1 = .ok (.istore_n 2, 1) := by decide +kernel
theorem dX12_isSide_2 : decode cX12_isSide 2 = .ok (.iconst 0, 1) := by decide +kernel
theorem dX12_isSide_3 : decode cX12_isSide 3 = .ok (.istore_n 3, 1) := by decide +kernel
theorem dX12_isSide_4 : decode cX12_isSide 4 = .ok (.iload_n 3, 1) := by decide +kernel
theorem dX12_isSide_5 : decode cX12_isSide 5 = .ok (.aload_n 0, 1) := by decide +kernel
theorem dX12_isSide_6 : decode cX12_isSide 6 = .ok (.getfield 315, 3) := by decide +kernel
theorem dX12_isSide_9 : decode cX12_isSide 9 = .ok (.if_icmp .ge 17, 3) := by decide +kernel
theorem dX12_isSide_12 : decode cX12_isSide 12 = .ok (.iload_n 2, 1) := by decide +kernel
theorem dX12_isSide_13 : decode cX12_isSide 13 = .ok (.iload_n 1, 1) := by decide +kernel
theorem dX12_isSide_14 : decode cX12_isSide 14 = .ok (.iload_n 3, 1) := by decide +kernel
theorem dX12_isSide_15 : decode cX12_isSide 15 = .ok (.ishr, 1) := by decide +kernel
theorem dX12_isSide_16 : decode cX12_isSide 16 = .ok (.iconst 1, 1) := by decide +kernel
theorem dX12_isSide_17 : decode cX12_isSide 17 = .ok (.iand, 1) := by decide +kernel
theorem dX12_isSide_18 : decode cX12_isSide 18 = .ok (.iadd, 1) := by decide +kernel
theorem dX12_isSide_19 : decode cX12_isSide 19 = .ok (.istore_n 2, 1) := by decide +kernel
theorem dX12_isSide_20 : decode cX12_isSide 20 = .ok (.iinc 3 1, 3) := by decide +kernel
theorem dX12_isSide_23 : decode cX12_isSide 23 = .ok (.goto (-19), 3) := by decide +kernel
theorem dX12_isSide_26 : decode cX12_isSide 26 = .ok (.aload_n 0, 1) := by decide +kernel
theorem dX12_isSide_27 : decode cX12_isSide 27 = .ok (.getfield 315, 3) := by decide +kernel
theorem dX12_isSide_30 : decode cX12_isSide 30 = .ok (.ifCond .le 43, 3) := by decide +kernel
theorem dX12_isSide_33 : decode cX12_isSide 33 = .ok (.iload_n 1, 1) := by decide +kernel
theorem dX12_isSide_34 : decode cX12_isSide 34 = .ok (.ifCond .le 39, 3) := by decide +kernel
theorem dX12_isSide_37 : decode cX12_isSide 37 = .ok (.iload_n 1, 1) := by decide +kernel
theorem dX12_isSide_38 : decode cX12_isSide 38 = .ok (.iconst 1, 1) := by decide +kernel
theorem dX12_isSide_39 : decode cX12_isSide 39 = .ok (.aload_n 0, 1) := by decide +kernel
theorem dX12_isSide_40 : decode cX12_isSide 40 = .ok (.getfield 315, 3) := by decide +kernel
theorem dX12_isSide_43 : decode cX12_isSide 43 = .ok (.ishl, 1) := by decide +kernel
theorem dX12_isSide_44 : decode cX12_isSide 44 = .ok (.if_icmp .ge 29, 3) := by decide +kernel
theorem dX12_isSide_47 : decode cX12_isSide 47 = .ok (.iload_n 1, 1) := by decide +kernel
theorem dX12_isSide_48 : decode cX12_isSide 48 = .ok (.iconst 1, 1) := by decide +kernel
theorem dX12_isSide_49 : decode cX12_isSide 49 = .ok (.iand, 1) := by decide +kernel
theorem dX12_isSide_50 : decode cX12_isSide 50 = .ok (.iconst 1, 1) := by decide +kernel
theorem dX12_isSide_51 : decode cX12_isSide 51 = .ok (.if_icmp .ne 22, 3) := by decide +kernel
theorem dX12_isSide_54 : decode cX12_isSide 54 = .ok (.iload_n 2, 1) := by decide +kernel
theorem dX12_isSide_55 : decode cX12_isSide 55 = .ok (.iconst 1, 1) := by decide +kernel
theorem dX12_isSide_56 : decode cX12_isSide 56 = .ok (.if_icmp .le 17, 3) := by decide +kernel
theorem dX12_isSide_59 : decode cX12_isSide 59 = .ok (.aload_n 0, 1) := by decide +kernel
theorem dX12_isSide_60 : decode cX12_isSide 60 = .ok (.getfield 315, 3) := by decide +kernel
theorem dX12_isSide_63 : decode cX12_isSide 63 = .ok (.iload_n 2, 1) := by decide +kernel
theorem dX12_isSide_64 : decode cX12_isSide 64 = .ok (.isub, 1) := by decide +kernel
theorem dX12_isSide_65 : decode cX12_isSide 65 = .ok (.iconst 1, 1) := by decide +kernel
theorem dX12_isSide_66 : decode cX12_isSide 66 = .ok (.if_icmp .le 7, 3) := by decide +kernel
theorem dX12_isSide_69 : decode cX12_isSide 69 = .ok (.iconst 1, 1) := by decide +kernel
theorem dX12_isSide_70 : decode cX12_isSide 70 = .ok (.goto 4, 3) := by decide +kernel
theorem dX12_isSide_73 : decode cX12_isSide 73 = .ok (.iconst 0, 1) := by decide +kernel
theorem dX12_isSide_74 : decode cX12_isSide 74 = .ok (.ireturn, 1) := by decide +kernel
theorem dX12_parts_0 : decode cX12_parts 0 = .ok (.aload_n 1, 1) := by decide +kernel
theorem dX12_parts_1 : decode cX12_parts 1 = .ok (.iconst 0, 1) := by decide +kernel
theorem dX12_parts_2 : decode cX12_parts 2 = .ok (.putfield 333, 3) := by decide +kernel
theorem dX12_parts_5 : decode cX12_parts 5 = .ok (.iconst 0, 1) := by decide +kernel
theorem dX12_parts_6 : decode cX12_parts 6 = .ok (.istore 4, 2) := by decide +kernel
theorem dX12_parts_8 : decode cX12_parts 8 = .ok (.iconst 0, 1) := by decide +kernel
theorem dX12_parts_9 : decode cX12_parts 9 = .ok (.istore 5, 2) := by decide +kernel
theorem dX12_parts_11 : decode cX12_parts 11 = .ok (.iload 5, 2) := by decide +kernel
theorem dX12_parts_13 : decode cX12_parts 13 = .ok (.aload_n 0, 1) := by decide +kernel
theorem dX12_parts_14 : decode cX12_parts 14 = .ok (.getfield 315, 3) := by decide +kernel
theorem dX12_parts_17 : decode cX12_parts 17 = .ok (.if_icmp .ge 75, 3) := by decide +kernel
theorem dX12_parts_20 : decode cX12_parts 20 = .ok (.iload_n 2, 1) := by decide +kernel
theorem dX12_parts_21 : decode cX12_parts 21 = .ok (.iload 5, 2) := by decide +kernel
theorem dX12_parts_23 : decode cX12_parts 23 = .ok (.ishr, 1) := by decide +kernel
theorem dX12_parts_24 : decode cX12_parts 24 = .ok (.iconst 1, 1) := by decide +kernel
theorem dX12_parts_25 : decode cX12_parts 25 = .ok (.iand, 1) := by decide +kernel
theorem dX12_parts_26 : decode cX12_parts 26 = .ok (.ifCond .ne 6, 3) := by decide +kernel
theorem dX12_parts_29 : decode cX12_parts 29 = .ok (.goto 57, 3) := by decide +kernel
theorem dX12_parts_32 : decode cX12_parts 32 = .ok (.aload_n 1, 1) := by decide +kernel
theorem dX12_parts_33 : decode cX12_parts 33 = .ok (.getfield 334, 3) := by decide +kernel
theorem dX12_parts_36 : decode cX12_parts 36 = .ok (.aload_n 1, 1) := by decide +kernel
theorem dX12_parts_37 : decode cX12_parts 37 = .ok (.getfield 333, 3) := by decide +kernel
theorem dX12_parts_40 : decode cX12_parts 40 = .ok (.aload_n 0, 1) := by decide +kernel
theorem dX12_parts_41 : decode cX12_parts 41 = .ok (.getfield 34, 3) := by decide +kernel
theorem dX12_parts_44 : decode cX12_parts 44 = .ok (.iload 5, 2) := by decide +kernel
theorem dX12_parts_46 : decode cX12_parts 46 = .ok (.iaload, 1) := by decide +kernel
theorem dX12_parts_47 : decode cX12_parts 47 = .ok (.iastore, 1) := by decide +kernel
theorem dX12_parts_48 : decode cX12_parts 48 = .ok (.aload_n 1, 1) := by decide +kernel
theorem dX12_parts_49 : decode cX12_parts 49 = .ok (.getfield 426, 3) := by decide +kernel
theorem dX12_parts_52 : decode cX12_parts 52 = .ok (.aload_n 1, 1) := by decide +kernel
theorem dX12_parts_53 : decode cX12_parts 53 = .ok (.getfield 333, 3) := by decide +kernel
theorem dX12_parts_56 : decode cX12_parts 56 = .ok (.aload_n 0, 1) := by decide +kernel
theorem dX12_parts_57 : decode cX12_parts 57 = .ok (.getfield 38, 3) := by decide +kernel
theorem dX12_parts_60 : decode cX12_parts 60 = .ok (.iload 5, 2) := by decide +kernel
theorem dX12_parts_62 : decode cX12_parts 62 = .ok (.iaload, 1) := by decide +kernel
theorem dX12_parts_63 : decode cX12_parts 63 = .ok (.iastore, 1) := by decide +kernel
theorem dX12_parts_64 : decode cX12_parts 64 = .ok (.iload 4, 2) := by decide +kernel
theorem dX12_parts_66 : decode cX12_parts 66 = .ok (.aload_n 0, 1) := by decide +kernel
theorem dX12_parts_67 : decode cX12_parts 67 = .ok (.getfield 38, 3) := by decide +kernel
theorem dX12_parts_70 : decode cX12_parts 70 = .ok (.iload 5, 2) := by decide +kernel
theorem dX12_parts_72 : decode cX12_parts 72 = .ok (.iaload, 1) := by decide +kernel
theorem dX12_parts_73 : decode cX12_parts 73 = .ok (.iadd, 1) := by decide +kernel
theorem dX12_parts_74 : decode cX12_parts 74 = .ok (.istore 4, 2) := by decide +kernel
theorem dX12_parts_76 : decode cX12_parts 76 = .ok (.aload_n 1, 1) := by decide +kernel
theorem dX12_parts_77 : decode cX12_parts 77 = .ok (.dup, 1) := by decide +kernel
theorem dX12_parts_78 : decode cX12_parts 78 = .ok (.getfield 333, 3) := by decide +kernel
theorem dX12_parts_81 : decode cX12_parts 81 = .ok (.iconst 1, 1) := by decide +kernel
theorem dX12_parts_82 : decode cX12_parts 82 = .ok (.iadd, 1) := by decide +kernel
theorem dX12_parts_83 : decode cX12_parts 83 = .ok (.putfield 333, 3) := by decide +kernel
theorem dX12_parts_86 : decode cX12_parts 86 = .ok (.iinc 5 1, 3) := by decide +kernel
theorem dX12_parts_89 : decode cX12_parts 89 = .ok (.goto (-78), 3) := by decide +kernel
theorem dX12_parts_92 : decode cX12_parts 92 = .ok (.aload_n 1, 1) := by decide +kernel
theorem dX12_parts_93 : decode cX12_parts 93 = .ok (.getfield 334, 3) := by decide +kernel
theorem dX12_parts_96 : decode cX12_parts 96 = .ok (.aload_n 1, 1) := by decide +kernel
theorem dX12_parts_97 : decode cX12_parts 97 = .ok (.getfield 333, 3) := by decide +kernel
theorem dX12_parts_100 : decode cX12_parts 100 = .ok (.iload_n 3, 1) := by decide +kernel
theorem dX12_parts_101 : decode cX12_parts 101 = .ok (.iastore, 1) := by decide +kernel
theorem dX12_parts_102 : decode cX12_parts 102 = .ok (.aload_n 1, 1) := by decide +kernel
theorem dX12_parts_103 : decode cX12_parts 103 = .ok (.getfield 426, 3) := by decide +kernel
theorem dX12_parts_106 : decode cX12_parts 106 = .ok (.aload_n 1, 1) := by decide +kernel
theorem dX12_parts_107 : decode cX12_parts 107 = .ok (.getfield 333, 3) := by decide +kernel
theorem dX12_parts_110 : decode cX12_parts 110 = .ok (.iload 4, 2) := by decide +kernel
theorem dX12_parts_112 : decode cX12_parts 112 = .ok (.ineg, 1) := by decide +kernel
theorem dX12_parts_113 : decode cX12_parts 113 = .ok (.iastore, 1) := by decide +kernel
theorem dX12_parts_114 : decode cX12_parts 114 = .ok (.aload_n 1, 1) := by decide +kernel
theorem dX12_parts_115 : decode cX12_parts 115 = .ok (.dup, 1) := by decide +kernel
theorem dX12_parts_116 : decode cX12_parts 116 = .ok (.getfield 333, 3) := by decide +kernel
theorem dX12_parts_119 : decode cX12_parts 119 = .ok (.iconst 1, 1) := by decide +kernel
theorem dX12_parts_120 : decode cX12_parts 120 = .ok (.iadd, 1) := by decide +kernel
theorem dX12_parts_121 : decode cX12_parts 121 = .ok (.putfield 333, 3) := by decide +kernel
theorem dX12_parts_124 : decode cX12_parts 124 = .ok (.return_, 1) := by decide +kernel
theorem dX12_parted_0 : decode cX12_parted 0 = .ok (.aload_n 0, 1) := by decide +kernel
theorem dX12_parted_1 : decode cX12_parted 1 = .ok (.iconst 0, 1) := by decide +kernel
theorem dX12_parted_2 : decode cX12_parted 2 = .ok (.putfield 147, 3) := by decide +kernel
theorem dX12_parted_5 : decode cX12_parted 5 = .ok (.aload_n 0, 1) := by decide +kernel
theorem dX12_parted_6 : decode cX12_parted 6 = .ok (.iload_n 1, 1) := by decide +kernel
theorem dX12_parted_7 : decode cX12_parted 7 = .ok (.invokevirtual 600, 3) := by decide +kernel
theorem dX12_parted_10 : decode cX12_parted 10 = .ok (.ifCond .eq 11, 3) := by decide +kernel
theorem dX12_parted_13 : decode cX12_parted 13 = .ok (.aload_n 0, 1) := by decide +kernel
theorem dX12_parted_14 : decode cX12_parted 14 = .ok (.iload_n 2, 1) := by decide +kernel
theorem dX12_parted_15 : decode cX12_parted 15 = .ok (.invokevirtual 325, 3) := by decide +kernel
theorem dX12_parted_18 : decode cX12_parted 18 = .ok (.ifCond .ne 9, 3) := by decide +kernel
theorem dX12_parted_21 : decode cX12_parted 21 = .ok (.aload_n 0, 1) := by decide +kernel
theorem dX12_parted_22 : decode cX12_parted 22 = .ok (.iconst 1, 1) := by decide +kernel
theorem dX12_parted_23 : decode cX12_parted 23 = .ok (.invokevirtual 548, 3) := by decide +kernel
theorem dX12_parted_26 : decode cX12_parted 26 = .ok (.ireturn, 1) := by decide +kernel
theorem dX12_parted_27 : decode cX12_parted 27 = .ok (.iload_n 3, 1) := by decide +kernel
theorem dX12_parted_28 : decode cX12_parted 28 = .ok (.iconst 2, 1) := by decide +kernel
theorem dX12_parted_29 : decode cX12_parted 29 = .ok (.iconst 3, 1) := by decide +kernel
theorem dX12_parted_30 : decode cX12_parted 30 = .ok (.invokestatic 242, 3) := by decide +kernel
theorem dX12_parted_33 : decode cX12_parted 33 = .ok (.ifCond .ne 9, 3) := by decide +kernel
theorem dX12_parted_36 : decode cX12_parted 36 = .ok (.aload_n 0, 1) := by decide +kernel
theorem dX12_parted_37 : decode cX12_parted 37 = .ok (.iconst 2, 1) := by decide +kernel
theorem dX12_parted_38 : decode cX12_parted 38 = .ok (.invokevirtual 548, 3) := by decide +kernel
theorem dX12_parted_41 : decode cX12_parted 41 = .ok (.ireturn, 1) := by decide +kernel
theorem dX12_parted_42 : decode cX12_parted 42 = .ok (.aload_n 0, 1) := by decide +kernel
theorem dX12_parted_43 : decode cX12_parted 43 = .ok (.aload_n 0, 1) := by decide +kernel
theorem dX12_parted_44 : decode cX12_parted 44 = .ok (.getfield 51, 3) := by decide +kernel
theorem dX12_parted_47 : decode cX12_parted 47 = .ok (.invokevirtual 428, 3) := by decide +kernel
theorem dX12_parted_50 : decode cX12_parted 50 = .ok (.aload_n 0, 1) := by decide +kernel
theorem dX12_parted_51 : decode cX12_parted 51 = .ok (.aload_n 0, 1) := by decide +kernel
theorem dX12_parted_52 : decode cX12_parted 52 = .ok (.getfield 51, 3) := by decide +kernel
theorem dX12_parted_55 : decode cX12_parted 55 = .ok (.invokevirtual 432, 3) := by decide +kernel
theorem dX12_parted_58 : decode cX12_parted 58 = .ok (.istore 4, 2) := by decide +kernel
theorem dX12_parted_60 : decode cX12_parted 60 = .ok (.aload_n 0, 1) := by decide +kernel
theorem dX12_parted_61 : decode cX12_parted 61 = .ok (.aload_n 0, 1) := by decide +kernel
theorem dX12_parted_62 : decode cX12_parted 62 = .ok (.getfield 51, 3) := by decide +kernel
theorem dX12_parted_65 : decode cX12_parted 65 = .ok (.invokevirtual 585, 3) := by decide +kernel
theorem dX12_parted_68 : decode cX12_parted 68 = .ok (.istore 5, 2) := by decide +kernel
theorem dX12_parted_70 : decode cX12_parted 70 = .ok (.aload_n 0, 1) := by decide +kernel
theorem dX12_parted_71 : decode cX12_parted 71 = .ok (.aload_n 0, 1) := by decide +kernel
theorem dX12_parted_72 : decode cX12_parted 72 = .ok (.getfield 51, 3) := by decide +kernel
theorem dX12_parted_75 : decode cX12_parted 75 = .ok (.iload_n 1, 1) := by decide +kernel
theorem dX12_parted_76 : decode cX12_parted 76 = .ok (.iload_n 2, 1) := by decide +kernel
theorem dX12_parted_77 : decode cX12_parted 77 = .ok (.invokevirtual 603, 3) := by decide +kernel
theorem dX12_parted_80 : decode cX12_parted 80 = .ok (.aload_n 0, 1) := by decide +kernel
theorem dX12_parted_81 : decode cX12_parted 81 = .ok (.aload_n 0, 1) := by decide +kernel
theorem dX12_parted_82 : decode cX12_parted 82 = .ok (.getfield 54, 3) := by decide +kernel
theorem dX12_parted_85 : decode cX12_parted 85 = .ok (.iconst 1, 1) := by decide +kernel
theorem dX12_parted_86 : decode cX12_parted 86 = .ok (.aload_n 0, 1) := by decide +kernel
theorem dX12_parted_87 : decode cX12_parted 87 = .ok (.getfield 315, 3) := by decide +kernel
theorem dX12_parted_90 : decode cX12_parted 90 = .ok (.ishl, 1) := by decide +kernel
theorem dX12_parted_91 : decode cX12_parted 91 = .ok (.iconst 1, 1) := by decide +kernel
theorem dX12_parted_92 : decode cX12_parted 92 = .ok (.isub, 1) := by decide +kernel
theorem dX12_parted_93 : decode cX12_parted 93 = .ok (.iload_n 1, 1) := by decide +kernel
theorem dX12_parted_94 : decode cX12_parted 94 = .ok (.iconst (-1), 1) := by decide +kernel
theorem dX12_parted_95 : decode cX12_parted 95 = .ok (.ixor, 1) := by decide +kernel
theorem dX12_parted_96 : decode cX12_parted 96 = .ok (.iand, 1) := by decide +kernel
theorem dX12_parted_97 : decode cX12_parted 97 = .ok (.aload_n 0, 1) := by decide +kernel
theorem dX12_parted_98 : decode cX12_parted 98 = .ok (.getfield 312, 3) := by decide +kernel
theorem dX12_parted_101 : decode cX12_parted 101 = .ok (.getfield 257, 3) := by decide +kernel
theorem dX12_parted_104 : decode cX12_parted 104 = .ok (.iload_n 2, 1) := by decide +kernel
theorem dX12_parted_105 : decode cX12_parted 105 = .ok (.iaload, 1) := by decide +kernel
theorem dX12_parted_106 : decode cX12_parted 106 = .ok (.invokevirtual 603, 3) := by decide +kernel
theorem dX12_parted_109 : decode cX12_parted 109 = .ok (.iload 4, 2) := by decide +kernel
theorem dX12_parted_111 : decode cX12_parted 111 = .ok (.ifCond .eq 25, 3) := by decide +kernel
theorem dX12_parted_114 : decode cX12_parted 114 = .ok (.aload_n 0, 1) := by decide +kernel
theorem dX12_parted_115 : decode cX12_parted 115 = .ok (.aload_n 0, 1) := by decide +kernel
theorem dX12_parted_116 : decode cX12_parted 116 = .ok (.getfield 51, 3) := by decide +kernel
theorem dX12_parted_119 : decode cX12_parted 119 = .ok (.invokevirtual 432, 3) := by decide +kernel
theorem dX12_parted_122 : decode cX12_parted 122 = .ok (.ifCond .eq 14, 3) := by decide +kernel
theorem dX12_parted_125 : decode cX12_parted 125 = .ok (.aload_n 0, 1) := by decide +kernel
theorem dX12_parted_126 : decode cX12_parted 126 = .ok (.aload_n 0, 1) := by decide +kernel
theorem dX12_parted_127 : decode cX12_parted 127 = .ok (.getfield 54, 3) := by decide +kernel
theorem dX12_parted_130 : decode cX12_parted 130 = .ok (.invokevirtual 432, 3) := by decide +kernel
theorem dX12_parted_133 : decode cX12_parted 133 = .ok (.ifCond .ne 10, 3) := by decide +kernel
theorem dX12_parted_136 : decode cX12_parted 136 = .ok (.aload_n 0, 1) := by decide +kernel
theorem dX12_parted_137 : decode cX12_parted 137 = .ok (.bipush 7, 2) := by decide +kernel
theorem dX12_parted_139 : decode cX12_parted 139 = .ok (.invokevirtual 548, 3) := by decide +kernel
theorem dX12_parted_142 : decode cX12_parted 142 = .ok (.ireturn, 1) := by decide +kernel
theorem dX12_parted_143 : decode cX12_parted 143 = .ok (.iload 5, 2) := by decide +kernel
theorem dX12_parted_145 : decode cX12_parted 145 = .ok (.ifCond .ne 10, 3) := by decide +kernel
theorem dX12_parted_148 : decode cX12_parted 148 = .ok (.aload_n 0, 1) := by decide +kernel
theorem dX12_parted_149 : decode cX12_parted 149 = .ok (.bipush 8, 2) := by decide +kernel
theorem dX12_parted_151 : decode cX12_parted 151 = .ok (.invokevirtual 548, 3) := by decide +kernel
theorem dX12_parted_154 : decode cX12_parted 154 = .ok (.ireturn, 1) := by decide +kernel
theorem dX12_parted_155 : decode cX12_parted 155 = .ok (.iconst 1, 1) := by decide +kernel
theorem dX12_parted_156 : decode cX12_parted 156 = .ok (.istore 6, 2) := by decide +kernel
theorem dX12_parted_158 : decode cX12_parted 158 = .ok (.iload 6, 2) := by decide +kernel
theorem dX12_parted_160 : decode cX12_parted 160 = .ok (.iload_n 3, 1) := by decide +kernel
theorem dX12_parted_161 : decode cX12_parted 161 = .ok (.if_icmp .ge 43, 3) := by decide +kernel
theorem dX12_parted_164 : decode cX12_parted 164 = .ok (.aload_n 0, 1) := by decide +kernel
theorem dX12_parted_165 : decode cX12_parted 165 = .ok (.aload_n 0, 1) := by decide +kernel
theorem dX12_parted_166 : decode cX12_parted 166 = .ok (.getfield 51, 3) := by decide +kernel
theorem dX12_parted_169 : decode cX12_parted 169 = .ok (.iload 6, 2) := by decide +kernel
theorem dX12_parted_171 : decode cX12_parted 171 = .ok (.invokevirtual 435, 3) := by decide +kernel
theorem dX12_parted_174 : decode cX12_parted 174 = .ok (.ifCond .eq 18, 3) := by decide +kernel
theorem dX12_parted_177 : decode cX12_parted 177 = .ok (.aload_n 0, 1) := by decide +kernel
theorem dX12_parted_178 : decode cX12_parted 178 = .ok (.aload_n 0, 1) := by decide +kernel
theorem dX12_parted_179 : decode cX12_parted 179 = .ok (.getfield 54, 3) := by decide +kernel
theorem dX12_parted_182 : decode cX12_parted 182 = .ok (.iload_n 3, 1) := by decide +kernel
theorem dX12_parted_183 : decode cX12_parted 183 = .ok (.iload 6, 2) := by decide +kernel
theorem dX12_parted_185 : decode cX12_parted 185 = .ok (.isub, 1) := by decide +kernel
theorem dX12_parted_186 : decode cX12_parted 186 = .ok (.invokevirtual 435, 3) := by decide +kernel
theorem dX12_parted_189 : decode cX12_parted 189 = .ok (.ifCond .ne 9, 3) := by decide +kernel
theorem dX12_parted_192 : decode cX12_parted 192 = .ok (.aload_n 0, 1) := by decide +kernel
theorem dX12_parted_193 : decode cX12_parted 193 = .ok (.iconst 3, 1) := by decide +kernel
theorem dX12_parted_194 : decode cX12_parted 194 = .ok (.invokevirtual 548, 3) := by decide +kernel
theorem dX12_parted_197 : decode cX12_parted 197 = .ok (.ireturn, 1) := by decide +kernel
theorem dX12_parted_198 : decode cX12_parted 198 = .ok (.iinc 6 1, 3) := by decide +kernel
theorem dX12_parted_201 : decode cX12_parted 201 = .ok (.goto (-43), 3) := by decide +kernel
theorem dX12_parted_204 : decode cX12_parted 204 = .ok (.iconst 1, 1) := by decide +kernel
theorem dX12_parted_205 : decode cX12_parted 205 = .ok (.istore 6, 2) := by decide +kernel
theorem dX12_parted_207 : decode cX12_parted 207 = .ok (.iload 6, 2) := by decide +kernel
theorem dX12_parted_209 : decode cX12_parted 209 = .ok (.iload_n 3, 1) := by decide +kernel
theorem dX12_parted_210 : decode cX12_parted 210 = .ok (.if_icmp .ge 75, 3) := by decide +kernel
theorem dX12_parted_213 : decode cX12_parted 213 = .ok (.aload_n 0, 1) := by decide +kernel
theorem dX12_parted_214 : decode cX12_parted 214 = .ok (.aload_n 0, 1) := by decide +kernel
theorem dX12_parted_215 : decode cX12_parted 215 = .ok (.getfield 51, 3) := by decide +kernel
theorem dX12_parted_218 : decode cX12_parted 218 = .ok (.iload 6, 2) := by decide +kernel
theorem dX12_parted_220 : decode cX12_parted 220 = .ok (.invokevirtual 435, 3) := by decide +kernel
theorem dX12_parted_223 : decode cX12_parted 223 = .ok (.ifCond .eq 22, 3) := by decide +kernel
theorem dX12_parted_226 : decode cX12_parted 226 = .ok (.aload_n 0, 1) := by decide +kernel
theorem dX12_parted_227 : decode cX12_parted 227 = .ok (.aload_n 0, 1) := by decide +kernel
theorem dX12_parted_228 : decode cX12_parted 228 = .ok (.getfield 54, 3) := by decide +kernel
theorem dX12_parted_231 : decode cX12_parted 231 = .ok (.iload_n 3, 1) := by decide +kernel
theorem dX12_parted_232 : decode cX12_parted 232 = .ok (.iload 6, 2) := by decide +kernel
theorem dX12_parted_234 : decode cX12_parted 234 = .ok (.isub, 1) := by decide +kernel
theorem dX12_parted_235 : decode cX12_parted 235 = .ok (.invokevirtual 435, 3) := by decide +kernel
theorem dX12_parted_238 : decode cX12_parted 238 = .ok (.ifCond .eq 7, 3) := by decide +kernel
theorem dX12_parted_241 : decode cX12_parted 241 = .ok (.iconst 1, 1) := by decide +kernel
theorem dX12_parted_242 : decode cX12_parted 242 = .ok (.goto 4, 3) := by decide +kernel
theorem dX12_parted_245 : decode cX12_parted 245 = .ok (.iconst 0, 1) := by decide +kernel
theorem dX12_parted_246 : decode cX12_parted 246 = .ok (.istore 7, 2) := by decide +kernel
theorem dX12_parted_248 : decode cX12_parted 248 = .ok (.aload_n 0, 1) := by decide +kernel
theorem dX12_parted_249 : decode cX12_parted 249 = .ok (.aload_n 0, 1) := by decide +kernel
theorem dX12_parted_250 : decode cX12_parted 250 = .ok (.getfield 51, 3) := by decide +kernel
theorem dX12_parted_253 : decode cX12_parted 253 = .ok (.iconst (-1), 1) := by decide +kernel
theorem dX12_parted_254 : decode cX12_parted 254 = .ok (.iconst (-1), 1) := by decide +kernel
theorem dX12_parted_255 : decode cX12_parted 255 = .ok (.invokevirtual 587, 3) := by decide +kernel
theorem dX12_parted_258 : decode cX12_parted 258 = .ok (.ifCond .ne 16, 3) := by decide +kernel
theorem dX12_parted_261 : decode cX12_parted 261 = .ok (.aload_n 0, 1) := by decide +kernel
theorem dX12_parted_262 : decode cX12_parted 262 = .ok (.aload_n 0, 1) := by decide +kernel
theorem dX12_parted_263 : decode cX12_parted 263 = .ok (.getfield 54, 3) := by decide +kernel
theorem dX12_parted_266 : decode cX12_parted 266 = .ok (.iconst (-1), 1) := by decide +kernel
theorem dX12_parted_267 : decode cX12_parted 267 = .ok (.iconst (-1), 1) := by decide +kernel
theorem dX12_parted_268 : decode cX12_parted 268 = .ok (.invokevirtual 587, 3) := by decide +kernel
theorem dX12_parted_271 : decode cX12_parted 271 = .ok (.ifCond .eq 8, 3) := by decide +kernel
theorem dX12_parted_274 : decode cX12_parted 274 = .ok (.aload_n 0, 1) := by decide +kernel
theorem dX12_parted_275 : decode cX12_parted 275 = .ok (.invokevirtual 590, 3) := by decide +kernel
theorem dX12_parted_278 : decode cX12_parted 278 = .ok (.ireturn, 1) := by decide +kernel
theorem dX12_parted_279 : decode cX12_parted 279 = .ok (.iinc 6 1, 3) := by decide +kernel
theorem dX12_parted_282 : decode cX12_parted 282 = .ok (.goto (-75), 3) := by decide +kernel
theorem dX12_parted_285 : decode cX12_parted 285 = .ok (.iconst 0, 1) := by decide +kernel
theorem dX12_parted_286 : decode cX12_parted 286 = .ok (.istore 6, 2) := by decide +kernel
theorem dX12_parted_288 : decode cX12_parted 288 = .ok (.iload 6, 2) := by decide +kernel
theorem dX12_parted_290 : decode cX12_parted 290 = .ok (.iconst 4, 1) := by decide +kernel
theorem dX12_parted_291 : decode cX12_parted 291 = .ok (.if_icmp .ge 17, 3) := by decide +kernel
theorem dX12_parted_294 : decode cX12_parted 294 = .ok (.aload_n 0, 1) := by decide +kernel
theorem dX12_parted_295 : decode cX12_parted 295 = .ok (.getfield 138, 3) := by decide +kernel
theorem dX12_parted_298 : decode cX12_parted 298 = .ok (.iload 6, 2) := by decide +kernel
theorem dX12_parted_300 : decode cX12_parted 300 = .ok (.iconst 0, 1) := by decide +kernel
theorem dX12_parted_301 : decode cX12_parted 301 = .ok (.iastore, 1) := by decide +kernel
theorem dX12_parted_302 : decode cX12_parted 302 = .ok (.iinc 6 1, 3) := by decide +kernel
theorem dX12_parted_305 : decode cX12_parted 305 = .ok (.goto (-17), 3) := by decide +kernel
theorem dX12_parted_308 : decode cX12_parted 308 = .ok (.iconst 0, 1) := by decide +kernel
theorem dX12_parted_309 : decode cX12_parted 309 = .ok (.istore 6, 2) := by decide +kernel
theorem dX12_parted_311 : decode cX12_parted 311 = .ok (.iconst 1, 1) := by decide +kernel
theorem dX12_parted_312 : decode cX12_parted 312 = .ok (.istore 7, 2) := by decide +kernel
theorem dX12_parted_314 : decode cX12_parted 314 = .ok (.iload 7, 2) := by decide +kernel
theorem dX12_parted_316 : decode cX12_parted 316 = .ok (.iload_n 3, 1) := by decide +kernel
theorem dX12_parted_317 : decode cX12_parted 317 = .ok (.if_icmp .ge 148, 3) := by decide +kernel
theorem dX12_parted_320 : decode cX12_parted 320 = .ok (.aload_n 0, 1) := by decide +kernel
theorem dX12_parted_321 : decode cX12_parted 321 = .ok (.aload_n 0, 1) := by decide +kernel
theorem dX12_parted_322 : decode cX12_parted 322 = .ok (.getfield 51, 3) := by decide +kernel
theorem dX12_parted_325 : decode cX12_parted 325 = .ok (.iload 7, 2) := by decide +kernel
theorem dX12_parted_327 : decode cX12_parted 327 = .ok (.invokevirtual 435, 3) := by decide +kernel
theorem dX12_parted_330 : decode cX12_parted 330 = .ok (.ifCond .eq 22, 3) := by decide +kernel
theorem dX12_parted_333 : decode cX12_parted 333 = .ok (.aload_n 0, 1) := by decide +kernel
theorem dX12_parted_334 : decode cX12_parted 334 = .ok (.aload_n 0, 1) := by decide +kernel
theorem dX12_parted_335 : decode cX12_parted 335 = .ok (.getfield 54, 3) := by decide +kernel
theorem dX12_parted_338 : decode cX12_parted 338 = .ok (.iload_n 3, 1) := by decide +kernel
theorem dX12_parted_339 : decode cX12_parted 339 = .ok (.iload 7, 2) := by decide +kernel
theorem dX12_parted_341 : decode cX12_parted 341 = .ok (.isub, 1) := by decide +kernel
theorem dX12_parted_342 : decode cX12_parted 342 = .ok (.invokevirtual 435, 3) := by decide +kernel
theorem dX12_parted_345 : decode cX12_parted 345 = .ok (.ifCond .eq 7, 3) := by decide +kernel
theorem dX12_parted_348 : decode cX12_parted 348 = .ok (.iconst 1, 1) := by decide +kernel
theorem dX12_parted_349 : decode cX12_parted 349 = .ok (.goto 4, 3) := by decide +kernel
theorem dX12_parted_352 : decode cX12_parted 352 = .ok (.iconst 0, 1) := by decide +kernel
theorem dX12_parted_353 : decode cX12_parted 353 = .ok (.istore 8, 2) := by decide +kernel
theorem dX12_parted_355 : decode cX12_parted 355 = .ok (.iconst 0, 1) := by decide +kernel
theorem dX12_parted_356 : decode cX12_parted 356 = .ok (.istore 9, 2) := by decide +kernel
theorem dX12_parted_358 : decode cX12_parted 358 = .ok (.iload 9, 2) := by decide +kernel
theorem dX12_parted_360 : decode cX12_parted 360 = .ok (.iconst 4, 1) := by decide +kernel
theorem dX12_parted_361 : decode cX12_parted 361 = .ok (.if_icmp .ge 98, 3) := by decide +kernel
theorem dX12_parted_364 : decode cX12_parted 364 = .ok (.aload_n 0, 1) := by decide +kernel
theorem dX12_parted_365 : decode cX12_parted 365 = .ok (.aload_n 0, 1) := by decide +kernel
theorem dX12_parted_366 : decode cX12_parted 366 = .ok (.getfield 51, 3) := by decide +kernel
theorem dX12_parted_369 : decode cX12_parted 369 = .ok (.iload 9, 2) := by decide +kernel
theorem dX12_parted_371 : decode cX12_parted 371 = .ok (.invokestatic 576, 3) := by decide +kernel
theorem dX12_parted_374 : decode cX12_parted 374 = .ok (.iconst (-1), 1) := by decide +kernel
theorem dX12_parted_375 : decode cX12_parted 375 = .ok (.iconst (-1), 1) := by decide +kernel
theorem dX12_parted_376 : decode cX12_parted 376 = .ok (.invokevirtual 593, 3) := by decide +kernel
theorem dX12_parted_379 : decode cX12_parted 379 = .ok (.istore 10, 2) := by decide +kernel
theorem dX12_parted_381 : decode cX12_parted 381 = .ok (.aload_n 0, 1) := by decide +kernel
theorem dX12_parted_382 : decode cX12_parted 382 = .ok (.aload_n 0, 1) := by decide +kernel
theorem dX12_parted_383 : decode cX12_parted 383 = .ok (.getfield 54, 3) := by decide +kernel
theorem dX12_parted_386 : decode cX12_parted 386 = .ok (.iload 9, 2) := by decide +kernel
theorem dX12_parted_388 : decode cX12_parted 388 = .ok (.invokestatic 576, 3) := by decide +kernel
theorem dX12_parted_391 : decode cX12_parted 391 = .ok (.iconst (-1), 1) := by decide +kernel
theorem dX12_parted_392 : decode cX12_parted 392 = .ok (.iconst (-1), 1) := by decide +kernel
theorem dX12_parted_393 : decode cX12_parted 393 = .ok (.invokevirtual 593, 3) := by decide +kernel
theorem dX12_parted_396 : decode cX12_parted 396 = .ok (.istore 11, 2) := by decide +kernel
theorem dX12_parted_398 : decode cX12_parted 398 = .ok (.iload 6, 2) := by decide +kernel
theorem dX12_parted_400 : decode cX12_parted 400 = .ok (.ifCond .ne 15, 3) := by decide +kernel
theorem dX12_parted_403 : decode cX12_parted 403 = .ok (.iload 10, 2) := by decide +kernel
theorem dX12_parted_405 : decode cX12_parted 405 = .ok (.iconst (-1), 1) := by decide +kernel
theorem dX12_parted_406 : decode cX12_parted 406 = .ok (.if_icmp .eq 9, 3) := by decide +kernel
theorem dX12_parted_409 : decode cX12_parted 409 = .ok (.iload 11, 2) := by decide +kernel
theorem dX12_parted_411 : decode cX12_parted 411 = .ok (.iconst (-1), 1) := by decide +kernel
theorem dX12_parted_412 : decode cX12_parted 412 = .ok (.if_icmp .ne 7, 3) := by decide +kernel
theorem dX12_parted_415 : decode cX12_parted 415 = .ok (.iconst 1, 1) := by decide +kernel
theorem dX12_parted_416 : decode cX12_parted 416 = .ok (.goto 4, 3) := by decide +kernel
theorem dX12_parted_419 : decode cX12_parted 419 = .ok (.iconst 0, 1) := by decide +kernel
theorem dX12_parted_420 : decode cX12_parted 420 = .ok (.istore 6, 2) := by decide +kernel
theorem dX12_parted_422 : decode cX12_parted 422 = .ok (.aload_n 0, 1) := by decide +kernel
theorem dX12_parted_423 : decode cX12_parted 423 = .ok (.getfield 138, 3) := by decide +kernel
theorem dX12_parted_426 : decode cX12_parted 426 = .ok (.iload 9, 2) := by decide +kernel
theorem dX12_parted_428 : decode cX12_parted 428 = .ok (.aload_n 0, 1) := by decide +kernel
theorem dX12_parted_429 : decode cX12_parted 429 = .ok (.getfield 138, 3) := by decide +kernel
theorem dX12_parted_432 : decode cX12_parted 432 = .ok (.iload 9, 2) := by decide +kernel
theorem dX12_parted_434 : decode cX12_parted 434 = .ok (.iaload, 1) := by decide +kernel
theorem dX12_parted_435 : decode cX12_parted 435 = .ok (.i2l, 1) := by decide +kernel
theorem dX12_parted_436 : decode cX12_parted 436 = .ok (.iload 10, 2) := by decide +kernel
theorem dX12_parted_438 : decode cX12_parted 438 = .ok (.i2l, 1) := by decide +kernel
theorem dX12_parted_439 : decode cX12_parted 439 = .ok (.iload 11, 2) := by decide +kernel
theorem dX12_parted_441 : decode cX12_parted 441 = .ok (.i2l, 1) := by decide +kernel
theorem dX12_parted_442 : decode cX12_parted 442 = .ok (.lmul, 1) := by decide +kernel
theorem dX12_parted_443 : decode cX12_parted 443 = .ok (.ladd, 1) := by decide +kernel
theorem dX12_parted_444 : decode cX12_parted 444 = .ok (.iload 9, 2) := by decide +kernel
theorem dX12_parted_446 : decode cX12_parted 446 = .ok (.invokestatic 576, 3) := by decide +kernel
theorem dX12_parted_449 : decode cX12_parted 449 = .ok (.i2l, 1) := by decide +kernel
theorem dX12_parted_450 : decode cX12_parted 450 = .ok (.lrem, 1) := by decide +kernel
theorem dX12_parted_451 : decode cX12_parted 451 = .ok (.l2i, 1) := by decide +kernel
theorem dX12_parted_452 : decode cX12_parted 452 = .ok (.iastore, 1) := by decide +kernel
theorem dX12_parted_453 : decode cX12_parted 453 = .ok (.iinc 9 1, 3) := by decide +kernel
theorem dX12_parted_456 : decode cX12_parted 456 = .ok (.goto (-98), 3) := by decide +kernel
theorem dX12_parted_459 : decode cX12_parted 459 = .ok (.iinc 7 1, 3) := by decide +kernel
theorem dX12_parted_462 : decode cX12_parted 462 = .ok (.goto (-148), 3) := by decide +kernel
theorem dX12_parted_465 : decode cX12_parted 465 = .ok (.iload 6, 2) := by decide +kernel
theorem dX12_parted_467 : decode cX12_parted 467 = .ok (.ifCond .ne 17, 3) := by decide +kernel
theorem dX12_parted_470 : decode cX12_parted 470 = .ok (.aload_n 0, 1) := by decide +kernel
theorem dX12_parted_471 : decode cX12_parted 471 = .ok (.invokevirtual 597, 3) := by decide +kernel
theorem dX12_parted_474 : decode cX12_parted 474 = .ok (.ifCond .eq 10, 3) := by decide +kernel
theorem dX12_parted_477 : decode cX12_parted 477 = .ok (.aload_n 0, 1) := by decide +kernel
theorem dX12_parted_478 : decode cX12_parted 478 = .ok (.invokevirtual 551, 3) := by decide +kernel
theorem dX12_parted_481 : decode cX12_parted 481 = .ok (.goto 9, 3) := by decide +kernel
theorem dX12_parted_484 : decode cX12_parted 484 = .ok (.aload_n 0, 1) := by decide +kernel
theorem dX12_parted_485 : decode cX12_parted 485 = .ok (.bipush 6, 2) := by decide +kernel
theorem dX12_parted_487 : decode cX12_parted 487 = .ok (.invokevirtual 548, 3) := by decide +kernel
theorem dX12_parted_490 : decode cX12_parted 490 = .ok (.ireturn, 1) := by decide +kernel
theorem dX12_whole_0 : decode cX12_whole 0 = .ok (.aload_n 0, 1) := by decide +kernel
theorem dX12_whole_1 : decode cX12_whole 1 = .ok (.iconst 0, 1) := by decide +kernel
theorem dX12_whole_2 : decode cX12_whole 2 = .ok (.putfield 147, 3) := by decide +kernel
theorem dX12_whole_5 : decode cX12_whole 5 = .ok (.aload_n 0, 1) := by decide +kernel
theorem dX12_whole_6 : decode cX12_whole 6 = .ok (.iload_n 1, 1) := by decide +kernel
theorem dX12_whole_7 : decode cX12_whole 7 = .ok (.invokevirtual 600, 3) := by decide +kernel
theorem dX12_whole_10 : decode cX12_whole 10 = .ok (.ifCond .eq 22, 3) := by decide +kernel
theorem dX12_whole_13 : decode cX12_whole 13 = .ok (.aload_n 0, 1) := by decide +kernel
theorem dX12_whole_14 : decode cX12_whole 14 = .ok (.iload_n 2, 1) := by decide +kernel
theorem dX12_whole_15 : decode cX12_whole 15 = .ok (.invokevirtual 325, 3) := by decide +kernel
theorem dX12_whole_18 : decode cX12_whole 18 = .ok (.ifCond .eq 14, 3) := by decide +kernel
theorem dX12_whole_21 : decode cX12_whole 21 = .ok (.aload_n 0, 1) := by decide +kernel
theorem dX12_whole_22 : decode cX12_whole 22 = .ok (.iload_n 1, 1) := by decide +kernel
theorem dX12_whole_23 : decode cX12_whole 23 = .ok (.iload_n 2, 1) := by decide +kernel
theorem dX12_whole_24 : decode cX12_whole 24 = .ok (.iload_n 3, 1) := by decide +kernel
theorem dX12_whole_25 : decode cX12_whole 25 = .ok (.iconst 2, 1) := by decide +kernel
theorem dX12_whole_26 : decode cX12_whole 26 = .ok (.invokevirtual 581, 3) := by decide +kernel
theorem dX12_whole_29 : decode cX12_whole 29 = .ok (.goto 8, 3) := by decide +kernel
theorem dX12_whole_32 : decode cX12_whole 32 = .ok (.aload_n 0, 1) := by decide +kernel
theorem dX12_whole_33 : decode cX12_whole 33 = .ok (.iconst 1, 1) := by decide +kernel
theorem dX12_whole_34 : decode cX12_whole 34 = .ok (.invokevirtual 548, 3) := by decide +kernel
theorem dX12_whole_37 : decode cX12_whole 37 = .ok (.ireturn, 1) := by decide +kernel
theorem dX12_worth_0 : decode cX12_worth 0 = .ok (.aload_n 0, 1) := by decide +kernel
theorem dX12_worth_1 : decode cX12_worth 1 = .ok (.iconst 0, 1) := by decide +kernel
theorem dX12_worth_2 : decode cX12_worth 2 = .ok (.putfield 147, 3) := by decide +kernel
theorem dX12_worth_5 : decode cX12_worth 5 = .ok (.iload_n 1, 1) := by decide +kernel
theorem dX12_worth_6 : decode cX12_worth 6 = .ok (.ifCond .eq 10, 3) := by decide +kernel
theorem dX12_worth_9 : decode cX12_worth 9 = .ok (.aload_n 0, 1) := by decide +kernel
theorem dX12_worth_10 : decode cX12_worth 10 = .ok (.getfield 135, 3) := by decide +kernel
theorem dX12_worth_13 : decode cX12_worth 13 = .ok (.goto 7, 3) := by decide +kernel
theorem dX12_worth_16 : decode cX12_worth 16 = .ok (.aload_n 0, 1) := by decide +kernel
theorem dX12_worth_17 : decode cX12_worth 17 = .ok (.getfield 131, 3) := by decide +kernel
theorem dX12_worth_20 : decode cX12_worth 20 = .ok (.lreturn, 1) := by decide +kernel
theorem dX12_rest_0 : decode cX12_rest 0 = .ok (.aload_n 0, 1) := by decide +kernel
theorem dX12_rest_1 : decode cX12_rest 1 = .ok (.iconst 0, 1) := by decide +kernel
theorem dX12_rest_2 : decode cX12_rest 2 = .ok (.putfield 147, 3) := by decide +kernel
theorem dX12_rest_5 : decode cX12_rest 5 = .ok (.iload_n 1, 1) := by decide +kernel
theorem dX12_rest_6 : decode cX12_rest 6 = .ok (.iconst 0, 1) := by decide +kernel
theorem dX12_rest_7 : decode cX12_rest 7 = .ok (.iconst 3, 1) := by decide +kernel
theorem dX12_rest_8 : decode cX12_rest 8 = .ok (.invokestatic 242, 3) := by decide +kernel
theorem dX12_rest_11 : decode cX12_rest 11 = .ok (.ifCond .eq 12, 3) := by decide +kernel
theorem dX12_rest_14 : decode cX12_rest 14 = .ok (.aload_n 0, 1) := by decide +kernel
theorem dX12_rest_15 : decode cX12_rest 15 = .ok (.getfield 141, 3) := by decide +kernel
theorem dX12_rest_18 : decode cX12_rest 18 = .ok (.iload_n 1, 1) := by decide +kernel
theorem dX12_rest_19 : decode cX12_rest 19 = .ok (.iaload, 1) := by decide +kernel
theorem dX12_rest_20 : decode cX12_rest 20 = .ok (.goto 4, 3) := by decide +kernel
theorem dX12_rest_23 : decode cX12_rest 23 = .ok (.iconst (-1), 1) := by decide +kernel
theorem dX12_rest_24 : decode cX12_rest 24 = .ok (.ireturn, 1) := by decide +kernel
theorem dX12_pole_0 : decode cX12_pole 0 = .ok (.aload_n 0, 1) := by decide +kernel
theorem dX12_pole_1 : decode cX12_pole 1 = .ok (.iconst 0, 1) := by decide +kernel
theorem dX12_pole_2 : decode cX12_pole 2 = .ok (.putfield 147, 3) := by decide +kernel
theorem dX12_pole_5 : decode cX12_pole 5 = .ok (.aload_n 0, 1) := by decide +kernel
theorem dX12_pole_6 : decode cX12_pole 6 = .ok (.getfield 13, 3) := by decide +kernel
theorem dX12_pole_9 : decode cX12_pole 9 = .ok (.ireturn, 1) := by decide +kernel
theorem dX12_count_0 : decode cX12_count 0 = .ok (.aload_n 0, 1) := by decide +kernel
theorem dX12_count_1 : decode cX12_count 1 = .ok (.iconst 0, 1) := by decide +kernel
theorem dX12_count_2 : decode cX12_count 2 = .ok (.putfield 147, 3) := by decide +kernel
theorem dX12_count_5 : decode cX12_count 5 = .ok (.iload_n 1, 1) := by decide +kernel
theorem dX12_count_6 : decode cX12_count 6 = .ok (.iconst 0, 1) := by decide +kernel
theorem dX12_count_7 : decode cX12_count 7 = .ok (.bipush 7, 2) := by decide +kernel
theorem dX12_count_9 : decode cX12_count 9 = .ok (.invokestatic 242, 3) := by decide +kernel
theorem dX12_count_12 : decode cX12_count 12 = .ok (.ifCond .ne 5, 3) := by decide +kernel
theorem dX12_count_15 : decode cX12_count 15 = .ok (.iconst (-1), 1) := by decide +kernel
theorem dX12_count_16 : decode cX12_count 16 = .ok (.ireturn, 1) := by decide +kernel
theorem dX12_count_17 : decode cX12_count 17 = .ok (.iload_n 1, 1) := by decide +kernel
theorem dX12_count_18 : decode cX12_count 18 = .ok (.bipush 7, 2) := by decide +kernel
theorem dX12_count_20 : decode cX12_count 20 = .ok (.if_icmp .ne 8, 3) := by decide +kernel
theorem dX12_count_23 : decode cX12_count 23 = .ok (.aload_n 0, 1) := by decide +kernel
theorem dX12_count_24 : decode cX12_count 24 = .ok (.getfield 300, 3) := by decide +kernel
theorem dX12_count_27 : decode cX12_count 27 = .ok (.ireturn, 1) := by decide +kernel
theorem dX12_count_28 : decode cX12_count 28 = .ok (.iload_n 1, 1) := by decide +kernel
theorem dX12_count_29 : decode cX12_count 29 = .ok (.iconst 2, 1) := by decide +kernel
theorem dX12_count_30 : decode cX12_count 30 = .ok (.if_icmp .ne 8, 3) := by decide +kernel
theorem dX12_count_33 : decode cX12_count 33 = .ok (.aload_n 0, 1) := by decide +kernel
theorem dX12_count_34 : decode cX12_count 34 = .ok (.getfield 315, 3) := by decide +kernel
theorem dX12_count_37 : decode cX12_count 37 = .ok (.ireturn, 1) := by decide +kernel
theorem dX12_count_38 : decode cX12_count 38 = .ok (.iload_n 1, 1) := by decide +kernel
theorem dX12_count_39 : decode cX12_count 39 = .ok (.iconst 2, 1) := by decide +kernel
theorem dX12_count_40 : decode cX12_count 40 = .ok (.if_icmp .ge 36, 3) := by decide +kernel
theorem dX12_count_43 : decode cX12_count 43 = .ok (.aload_n 0, 1) := by decide +kernel
theorem dX12_count_44 : decode cX12_count 44 = .ok (.getfield 312, 3) := by decide +kernel
theorem dX12_count_47 : decode cX12_count 47 = .ok (.ifnonnull 7, 3) := by decide +kernel
theorem dX12_count_50 : decode cX12_count 50 = .ok (.iconst 0, 1) := by decide +kernel
theorem dX12_count_51 : decode cX12_count 51 = .ok (.goto 24, 3) := by decide +kernel
theorem dX12_count_54 : decode cX12_count 54 = .ok (.iload_n 1, 1) := by decide +kernel
theorem dX12_count_55 : decode cX12_count 55 = .ok (.ifCond .ne 13, 3) := by decide +kernel
theorem dX12_count_58 : decode cX12_count 58 = .ok (.aload_n 0, 1) := by decide +kernel
theorem dX12_count_59 : decode cX12_count 59 = .ok (.getfield 312, 3) := by decide +kernel
theorem dX12_count_62 : decode cX12_count 62 = .ok (.getfield 272, 3) := by decide +kernel
theorem dX12_count_65 : decode cX12_count 65 = .ok (.goto 10, 3) := by decide +kernel
theorem dX12_count_68 : decode cX12_count 68 = .ok (.aload_n 0, 1) := by decide +kernel
theorem dX12_count_69 : decode cX12_count 69 = .ok (.getfield 312, 3) := by decide +kernel
theorem dX12_count_72 : decode cX12_count 72 = .ok (.getfield 278, 3) := by decide +kernel
theorem dX12_count_75 : decode cX12_count 75 = .ok (.ireturn, 1) := by decide +kernel
theorem dX12_count_76 : decode cX12_count 76 = .ok (.aload_n 0, 1) := by decide +kernel
theorem dX12_count_77 : decode cX12_count 77 = .ok (.getfield 318, 3) := by decide +kernel
theorem dX12_count_80 : decode cX12_count 80 = .ok (.ifCond .ne 5, 3) := by decide +kernel
theorem dX12_count_83 : decode cX12_count 83 = .ok (.iconst 0, 1) := by decide +kernel
theorem dX12_count_84 : decode cX12_count 84 = .ok (.ireturn, 1) := by decide +kernel
theorem dX12_count_85 : decode cX12_count 85 = .ok (.iload_n 1, 1) := by decide +kernel
theorem dX12_count_86 : decode cX12_count 86 = .ok (.iconst 3, 1) := by decide +kernel
theorem dX12_count_87 : decode cX12_count 87 = .ok (.if_icmp .ne 11, 3) := by decide +kernel
theorem dX12_count_90 : decode cX12_count 90 = .ok (.aload_n 0, 1) := by decide +kernel
theorem dX12_count_91 : decode cX12_count 91 = .ok (.getfield 47, 3) := by decide +kernel
theorem dX12_count_94 : decode cX12_count 94 = .ok (.getfield 404, 3) := by decide +kernel
theorem dX12_count_97 : decode cX12_count 97 = .ok (.ireturn, 1) := by decide +kernel
theorem dX12_count_98 : decode cX12_count 98 = .ok (.iload_n 1, 1) := by decide +kernel
theorem dX12_count_99 : decode cX12_count 99 = .ok (.iconst 4, 1) := by decide +kernel
theorem dX12_count_100 : decode cX12_count 100 = .ok (.if_icmp .ne 11, 3) := by decide +kernel
theorem dX12_count_103 : decode cX12_count 103 = .ok (.aload_n 0, 1) := by decide +kernel
theorem dX12_count_104 : decode cX12_count 104 = .ok (.getfield 47, 3) := by decide +kernel
theorem dX12_count_107 : decode cX12_count 107 = .ok (.getfield 339, 3) := by decide +kernel
theorem dX12_count_110 : decode cX12_count 110 = .ok (.ireturn, 1) := by decide +kernel
theorem dX12_count_111 : decode cX12_count 111 = .ok (.iconst 0, 1) := by decide +kernel
theorem dX12_count_112 : decode cX12_count 112 = .ok (.istore_n 2, 1) := by decide +kernel
theorem dX12_count_113 : decode cX12_count 113 = .ok (.aload_n 0, 1) := by decide +kernel
theorem dX12_count_114 : decode cX12_count 114 = .ok (.aload_n 0, 1) := by decide +kernel
theorem dX12_count_115 : decode cX12_count 115 = .ok (.getfield 47, 3) := by decide +kernel
theorem dX12_count_118 : decode cX12_count 118 = .ok (.getfield 339, 3) := by decide +kernel
theorem dX12_count_121 : decode cX12_count 121 = .ok (.putfield 439, 3) := by decide +kernel
theorem dX12_count_124 : decode cX12_count 124 = .ok (.iconst 0, 1) := by decide +kernel
theorem dX12_count_125 : decode cX12_count 125 = .ok (.istore_n 3, 1) := by decide +kernel
theorem dX12_count_126 : decode cX12_count 126 = .ok (.iload_n 3, 1) := by decide +kernel
theorem dX12_count_127 : decode cX12_count 127 = .ok (.aload_n 0, 1) := by decide +kernel
theorem dX12_count_128 : decode cX12_count 128 = .ok (.getfield 47, 3) := by decide +kernel
theorem dX12_count_131 : decode cX12_count 131 = .ok (.getfield 404, 3) := by decide +kernel
theorem dX12_count_134 : decode cX12_count 134 = .ok (.if_icmp .ge 57, 3) := by decide +kernel
theorem dX12_count_137 : decode cX12_count 137 = .ok (.aload_n 0, 1) := by decide +kernel
theorem dX12_count_138 : decode cX12_count 138 = .ok (.aload_n 0, 1) := by decide +kernel
theorem dX12_count_139 : decode cX12_count 139 = .ok (.getfield 47, 3) := by decide +kernel
theorem dX12_count_142 : decode cX12_count 142 = .ok (.iload_n 3, 1) := by decide +kernel
theorem dX12_count_143 : decode cX12_count 143 = .ok (.invokevirtual 454, 3) := by decide +kernel
theorem dX12_count_146 : decode cX12_count 146 = .ok (.iload_n 2, 1) := by decide +kernel
theorem dX12_count_147 : decode cX12_count 147 = .ok (.iload_n 1, 1) := by decide +kernel
theorem dX12_count_148 : decode cX12_count 148 = .ok (.iconst 5, 1) := by decide +kernel
theorem dX12_count_149 : decode cX12_count 149 = .ok (.if_icmp .ne 22, 3) := by decide +kernel
theorem dX12_count_152 : decode cX12_count 152 = .ok (.aload_n 0, 1) := by decide +kernel
theorem dX12_count_153 : decode cX12_count 153 = .ok (.invokevirtual 464, 3) := by decide +kernel
theorem dX12_count_156 : decode cX12_count 156 = .ok (.aload_n 0, 1) := by decide +kernel
theorem dX12_count_157 : decode cX12_count 157 = .ok (.getfield 47, 3) := by decide +kernel
theorem dX12_count_160 : decode cX12_count 160 = .ok (.getfield 339, 3) := by decide +kernel
theorem dX12_count_163 : decode cX12_count 163 = .ok (.iconst 1, 1) := by decide +kernel
theorem dX12_count_164 : decode cX12_count 164 = .ok (.isub, 1) := by decide +kernel
theorem dX12_count_165 : decode cX12_count 165 = .ok (.if_icmp .ne 17, 3) := by decide +kernel
theorem dX12_count_168 : decode cX12_count 168 = .ok (.goto 10, 3) := by decide +kernel
theorem dX12_count_171 : decode cX12_count 171 = .ok (.aload_n 0, 1) := by decide +kernel
theorem dX12_count_172 : decode cX12_count 172 = .ok (.invokevirtual 467, 3) := by decide +kernel
theorem dX12_count_175 : decode cX12_count 175 = .ok (.ifCond .ne 7, 3) := by decide +kernel
theorem dX12_count_178 : decode cX12_count 178 = .ok (.iconst 1, 1) := by decide +kernel
theorem dX12_count_179 : decode cX12_count 179 = .ok (.goto 4, 3) := by decide +kernel
theorem dX12_count_182 : decode cX12_count 182 = .ok (.iconst 0, 1) := by decide +kernel
theorem dX12_count_183 : decode cX12_count 183 = .ok (.iadd, 1) := by decide +kernel
theorem dX12_count_184 : decode cX12_count 184 = .ok (.istore_n 2, 1) := by decide +kernel
theorem dX12_count_185 : decode cX12_count 185 = .ok (.iinc 3 1, 3) := by decide +kernel
theorem dX12_count_188 : decode cX12_count 188 = .ok (.goto (-62), 3) := by decide +kernel
theorem dX12_count_191 : decode cX12_count 191 = .ok (.iload_n 2, 1) := by decide +kernel
theorem dX12_count_192 : decode cX12_count 192 = .ok (.ireturn, 1) := by decide +kernel
theorem dX12_trouble_0 : decode cX12_trouble 0 = .ok (.aload_n 0, 1) := by decide +kernel
theorem dX12_trouble_1 : decode cX12_trouble 1 = .ok (.iconst 0, 1) := by decide +kernel
theorem dX12_trouble_2 : decode cX12_trouble 2 = .ok (.putfield 147, 3) := by decide +kernel
theorem dX12_trouble_5 : decode cX12_trouble 5 = .ok (.aload_n 0, 1) := by decide +kernel
theorem dX12_trouble_6 : decode cX12_trouble 6 = .ok (.getfield 150, 3) := by decide +kernel
theorem dX12_trouble_9 : decode cX12_trouble 9 = .ok (.ireturn, 1) := by decide +kernel

