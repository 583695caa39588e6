theorem dX12_init_0 : decode cX12_init 0 = .ok (.aload_n 0, 1) := by decide +kernel
theorem dX12_init_1 : decode cX12_init 1 = .ok (.invokespecial 1, 3) := by decide +kernel
theorem dX12_init_4 : decode cX12_init 4 = .ok (.aload_n 0, 1) := by decide +kernel
theorem dX12_init_5 : decode cX12_init 5 = .ok (.iconst (-1), 1) := by decide +kernel
theorem dX12_init_6 : decode cX12_init 6 = .ok (.putfield 9, 3) := by decide +kernel
theorem dX12_init_9 : decode cX12_init 9 = .ok (.aload_n 0, 1) := by decide +kernel
theorem dX12_init_10 : decode cX12_init 10 = .ok (.iconst (-1), 1) := by decide +kernel
theorem dX12_init_11 : decode cX12_init 11 = .ok (.putfield 13, 3) := by decide +kernel
theorem dX12_init_14 : decode cX12_init 14 = .ok (.aload_n 0, 1) := by decide +kernel
theorem dX12_init_15 : decode cX12_init 15 = .ok (.new 16, 3) := by decide +kernel
theorem dX12_init_18 : decode cX12_init 18 = .ok (.dup, 1) := by decide +kernel
theorem dX12_init_19 : decode cX12_init 19 = .ok (.invokespecial 18, 3) := by decide +kernel
theorem dX12_init_22 : decode cX12_init 22 = .ok (.putfield 19, 3) := by decide +kernel
theorem dX12_init_25 : decode cX12_init 25 = .ok (.aload_n 0, 1) := by decide +kernel
theorem dX12_init_26 : decode cX12_init 26 = .ok (.new 23, 3) := by decide +kernel
theorem dX12_init_29 : decode cX12_init 29 = .ok (.dup, 1) := by decide +kernel
theorem dX12_init_30 : decode cX12_init 30 = .ok (.invokespecial 25, 3) := by decide +kernel
theorem dX12_init_33 : decode cX12_init 33 = .ok (.putfield 26, 3) := by decide +kernel
theorem dX12_init_36 : decode cX12_init 36 = .ok (.aload_n 0, 1) := by decide +kernel
theorem dX12_init_37 : decode cX12_init 37 = .ok (.sipush 400, 3) := by decide +kernel
theorem dX12_init_40 : decode cX12_init 40 = .ok (.newarray .byte, 2) := by decide +kernel
theorem dX12_init_42 : decode cX12_init 42 = .ok (.putfield 30, 3) := by decide +kernel
theorem dX12_init_45 : decode cX12_init 45 = .ok (.aload_n 0, 1) := by decide +kernel
theorem dX12_init_46 : decode cX12_init 46 = .ok (.bipush 6, 2) := by decide +kernel
theorem dX12_init_48 : decode cX12_init 48 = .ok (.newarray .int, 2) := by decide +kernel
theorem dX12_init_50 : decode cX12_init 50 = .ok (.putfield 34, 3) := by decide +kernel
theorem dX12_init_53 : decode cX12_init 53 = .ok (.aload_n 0, 1) := by decide +kernel
theorem dX12_init_54 : decode cX12_init 54 = .ok (.bipush 6, 2) := by decide +kernel
theorem dX12_init_56 : decode cX12_init 56 = .ok (.newarray .int, 2) := by decide +kernel
theorem dX12_init_58 : decode cX12_init 58 = .ok (.putfield 38, 3) := by decide +kernel
theorem dX12_init_61 : decode cX12_init 61 = .ok (.aload_n 0, 1) := by decide +kernel
theorem dX12_init_62 : decode cX12_init 62 = .ok (.iconst 3, 1) := by decide +kernel
theorem dX12_init_63 : decode cX12_init 63 = .ok (.newarray .int, 2) := by decide +kernel
theorem dX12_init_65 : decode cX12_init 65 = .ok (.dup, 1) := by decide +kernel
theorem dX12_init_66 : decode cX12_init 66 = .ok (.iconst 0, 1) := by decide +kernel
theorem dX12_init_67 : decode cX12_init 67 = .ok (.iconst 1, 1) := by decide +kernel
theorem dX12_init_68 : decode cX12_init 68 = .ok (.iastore, 1) := by decide +kernel
theorem dX12_init_69 : decode cX12_init 69 = .ok (.dup, 1) := by decide +kernel
theorem dX12_init_70 : decode cX12_init 70 = .ok (.iconst 1, 1) := by decide +kernel
theorem dX12_init_71 : decode cX12_init 71 = .ok (.iconst 1, 1) := by decide +kernel
theorem dX12_init_72 : decode cX12_init 72 = .ok (.iastore, 1) := by decide +kernel
theorem dX12_init_73 : decode cX12_init 73 = .ok (.dup, 1) := by decide +kernel
theorem dX12_init_74 : decode cX12_init 74 = .ok (.iconst 2, 1) := by decide +kernel
theorem dX12_init_75 : decode cX12_init 75 = .ok (.iconst 1, 1) := by decide +kernel
theorem dX12_init_76 : decode cX12_init 76 = .ok (.iastore, 1) := by decide +kernel
theorem dX12_init_77 : decode cX12_init 77 = .ok (.putfield 41, 3) := by decide +kernel
theorem dX12_init_80 : decode cX12_init 80 = .ok (.aload_n 0, 1) := by decide +kernel
theorem dX12_init_81 : decode cX12_init 81 = .ok (.new 44, 3) := by decide +kernel
theorem dX12_init_84 : decode cX12_init 84 = .ok (.dup, 1) := by decide +kernel
theorem dX12_init_85 : decode cX12_init 85 = .ok (.invokespecial 46, 3) := by decide +kernel
theorem dX12_init_88 : decode cX12_init 88 = .ok (.putfield 47, 3) := by decide +kernel
theorem dX12_init_91 : decode cX12_init 91 = .ok (.aload_n 0, 1) := by decide +kernel
theorem dX12_init_92 : decode cX12_init 92 = .ok (.new 44, 3) := by decide +kernel
theorem dX12_init_95 : decode cX12_init 95 = .ok (.dup, 1) := by decide +kernel
theorem dX12_init_96 : decode cX12_init 96 = .ok (.invokespecial 46, 3) := by decide +kernel
theorem dX12_init_99 : decode cX12_init 99 = .ok (.putfield 51, 3) := by decide +kernel
theorem dX12_init_102 : decode cX12_init 102 = .ok (.aload_n 0, 1) := by decide +kernel
theorem dX12_init_103 : decode cX12_init 103 = .ok (.new 44, 3) := by decide +kernel
theorem dX12_init_106 : decode cX12_init 106 = .ok (.dup, 1) := by decide +kernel
theorem dX12_init_107 : decode cX12_init 107 = .ok (.invokespecial 46, 3) := by decide +kernel
theorem dX12_init_110 : decode cX12_init 110 = .ok (.putfield 54, 3) := by decide +kernel
theorem dX12_init_113 : decode cX12_init 113 = .ok (.aload_n 0, 1) := by decide +kernel
theorem dX12_init_114 : decode cX12_init 114 = .ok (.bipush 12, 2) := by decide +kernel
theorem dX12_init_116 : decode cX12_init 116 = .ok (.newarray .int, 2) := by decide +kernel
theorem dX12_init_118 : decode cX12_init 118 = .ok (.putfield 57, 3) := by decide +kernel
theorem dX12_init_121 : decode cX12_init 121 = .ok (.aload_n 0, 1) := by decide +kernel
theorem dX12_init_122 : decode cX12_init 122 = .ok (.bipush 12, 2) := by decide +kernel
theorem dX12_init_124 : decode cX12_init 124 = .ok (.newarray .int, 2) := by decide +kernel
theorem dX12_init_126 : decode cX12_init 126 = .ok (.putfield 60, 3) := by decide +kernel
theorem dX12_init_129 : decode cX12_init 129 = .ok (.aload_n 0, 1) := by decide +kernel
theorem dX12_init_130 : decode cX12_init 130 = .ok (.bipush 12, 2) := by decide +kernel
theorem dX12_init_132 : decode cX12_init 132 = .ok (.newarray .int, 2) := by decide +kernel
theorem dX12_init_134 : decode cX12_init 134 = .ok (.putfield 63, 3) := by decide +kernel
theorem dX12_init_137 : decode cX12_init 137 = .ok (.aload_n 0, 1) := by decide +kernel
theorem dX12_init_138 : decode cX12_init 138 = .ok (.iconst 3, 1) := by decide +kernel
theorem dX12_init_139 : decode cX12_init 139 = .ok (.newarray .int, 2) := by decide +kernel
theorem dX12_init_141 : decode cX12_init 141 = .ok (.putfield 66, 3) := by decide +kernel
theorem dX12_init_144 : decode cX12_init 144 = .ok (.aload_n 0, 1) := by decide +kernel
theorem dX12_init_145 : decode cX12_init 145 = .ok (.bipush 9, 2) := by decide +kernel
theorem dX12_init_147 : decode cX12_init 147 = .ok (.newarray .int, 2) := by decide +kernel
theorem dX12_init_149 : decode cX12_init 149 = .ok (.putfield 69, 3) := by decide +kernel
theorem dX12_init_152 : decode cX12_init 152 = .ok (.aload_n 0, 1) := by decide +kernel
theorem dX12_init_153 : decode cX12_init 153 = .ok (.sipush 10395, 3) := by decide +kernel
theorem dX12_init_156 : decode cX12_init 156 = .ok (.newarray .long, 2) := by decide +kernel
theorem dX12_init_158 : decode cX12_init 158 = .ok (.putfield 72, 3) := by decide +kernel
theorem dX12_init_161 : decode cX12_init 161 = .ok (.aload_n 0, 1) := by decide +kernel
theorem dX12_init_162 : decode cX12_init 162 = .ok (.sipush 10395, 3) := by decide +kernel
theorem dX12_init_165 : decode cX12_init 165 = .ok (.newarray .int, 2) := by decide +kernel
theorem dX12_init_167 : decode cX12_init 167 = .ok (.putfield 76, 3) := by decide +kernel
theorem dX12_init_170 : decode cX12_init 170 = .ok (.aload_n 0, 1) := by decide +kernel
theorem dX12_init_171 : decode cX12_init 171 = .ok (.sipush 10395, 3) := by decide +kernel
theorem dX12_init_174 : decode cX12_init 174 = .ok (.newarray .int, 2) := by decide +kernel
theorem dX12_init_176 : decode cX12_init 176 = .ok (.putfield 79, 3) := by decide +kernel
theorem dX12_init_179 : decode cX12_init 179 = .ok (.aload_n 0, 1) := by decide +kernel
theorem dX12_init_180 : decode cX12_init 180 = .ok (.bipush 12, 2) := by decide +kernel
theorem dX12_init_182 : decode cX12_init 182 = .ok (.newarray .int, 2) := by decide +kernel
theorem dX12_init_184 : decode cX12_init 184 = .ok (.putfield 82, 3) := by decide +kernel
theorem dX12_init_187 : decode cX12_init 187 = .ok (.aload_n 0, 1) := by decide +kernel
theorem dX12_init_188 : decode cX12_init 188 = .ok (.bipush 12, 2) := by decide +kernel
theorem dX12_init_190 : decode cX12_init 190 = .ok (.newarray .int, 2) := by decide +kernel
theorem dX12_init_192 : decode cX12_init 192 = .ok (.putfield 85, 3) := by decide +kernel
theorem dX12_init_195 : decode cX12_init 195 = .ok (.aload_n 0, 1) := by decide +kernel
theorem dX12_init_196 : decode cX12_init 196 = .ok (.iconst 3, 1) := by decide +kernel
theorem dX12_init_197 : decode cX12_init 197 = .ok (.newarray .int, 2) := by decide +kernel
theorem dX12_init_199 : decode cX12_init 199 = .ok (.putfield 88, 3) := by decide +kernel
theorem dX12_init_202 : decode cX12_init 202 = .ok (.aload_n 0, 1) := by decide +kernel
theorem dX12_init_203 : decode cX12_init 203 = .ok (.bipush 6, 2) := by decide +kernel
theorem dX12_init_205 : decode cX12_init 205 = .ok (.newarray .int, 2) := by decide +kernel
theorem dX12_init_207 : decode cX12_init 207 = .ok (.putfield 91, 3) := by decide +kernel
theorem dX12_init_210 : decode cX12_init 210 = .ok (.aload_n 0, 1) := by decide +kernel
theorem dX12_init_211 : decode cX12_init 211 = .ok (.bipush 16, 2) := by decide +kernel
theorem dX12_init_213 : decode cX12_init 213 = .ok (.newarray .int, 2) := by decide +kernel
theorem dX12_init_215 : decode cX12_init 215 = .ok (.putfield 94, 3) := by decide +kernel
theorem dX12_init_218 : decode cX12_init 218 = .ok (.aload_n 0, 1) := by decide +kernel
theorem dX12_init_219 : decode cX12_init 219 = .ok (.bipush 16, 2) := by decide +kernel
theorem dX12_init_221 : decode cX12_init 221 = .ok (.newarray .int, 2) := by decide +kernel
theorem dX12_init_223 : decode cX12_init 223 = .ok (.putfield 97, 3) := by decide +kernel
theorem dX12_init_226 : decode cX12_init 226 = .ok (.aload_n 0, 1) := by decide +kernel
theorem dX12_init_227 : decode cX12_init 227 = .ok (.bipush 16, 2) := by decide +kernel
theorem dX12_init_229 : decode cX12_init 229 = .ok (.newarray .int, 2) := by decide +kernel
theorem dX12_init_231 : decode cX12_init 231 = .ok (.putfield 100, 3) := by decide +kernel
theorem dX12_init_234 : decode cX12_init 234 = .ok (.aload_n 0, 1) := by decide +kernel
theorem dX12_init_235 : decode cX12_init 235 = .ok (.bipush 16, 2) := by decide +kernel
theorem dX12_init_237 : decode cX12_init 237 = .ok (.newarray .int, 2) := by decide +kernel
theorem dX12_init_239 : decode cX12_init 239 = .ok (.putfield 103, 3) := by decide +kernel
theorem dX12_init_242 : decode cX12_init 242 = .ok (.aload_n 0, 1) := by decide +kernel
theorem dX12_init_243 : decode cX12_init 243 = .ok (.bipush 16, 2) := by decide +kernel
theorem dX12_init_245 : decode cX12_init 245 = .ok (.newarray .int, 2) := by decide +kernel
theorem dX12_init_247 : decode cX12_init 247 = .ok (.putfield 106, 3) := by decide +kernel
theorem dX12_init_250 : decode cX12_init 250 = .ok (.aload_n 0, 1) := by decide +kernel
theorem dX12_init_251 : decode cX12_init 251 = .ok (.bipush 16, 2) := by decide +kernel
theorem dX12_init_253 : decode cX12_init 253 = .ok (.newarray .int, 2) := by decide +kernel
theorem dX12_init_255 : decode cX12_init 255 = .ok (.putfield 109, 3) := by decide +kernel
theorem dX12_init_258 : decode cX12_init 258 = .ok (.aload_n 0, 1) := by decide +kernel
theorem dX12_init_259 : decode cX12_init 259 = .ok (.bipush 16, 2) := by decide +kernel
theorem dX12_init_261 : decode cX12_init 261 = .ok (.newarray .int, 2) := by decide +kernel
theorem dX12_init_263 : decode cX12_init 263 = .ok (.putfield 112, 3) := by decide +kernel
theorem dX12_init_266 : decode cX12_init 266 = .ok (.aload_n 0, 1) := by decide +kernel
theorem dX12_init_267 : decode cX12_init 267 = .ok (.iconst 3, 1) := by decide +kernel
theorem dX12_init_268 : decode cX12_init 268 = .ok (.newarray .int, 2) := by decide +kernel
theorem dX12_init_270 : decode cX12_init 270 = .ok (.putfield 115, 3) := by decide +kernel
theorem dX12_init_273 : decode cX12_init 273 = .ok (.aload_n 0, 1) := by decide +kernel
theorem dX12_init_274 : decode cX12_init 274 = .ok (.sipush 800, 3) := by decide +kernel
theorem dX12_init_277 : decode cX12_init 277 = .ok (.newarray .long, 2) := by decide +kernel
theorem dX12_init_279 : decode cX12_init 279 = .ok (.putfield 118, 3) := by decide +kernel
theorem dX12_init_282 : decode cX12_init 282 = .ok (.aload_n 0, 1) := by decide +kernel
theorem dX12_init_283 : decode cX12_init 283 = .ok (.sipush 800, 3) := by decide +kernel
theorem dX12_init_286 : decode cX12_init 286 = .ok (.newarray .long, 2) := by decide +kernel
theorem dX12_init_288 : decode cX12_init 288 = .ok (.putfield 121, 3) := by decide +kernel
theorem dX12_init_291 : decode cX12_init 291 = .ok (.aload_n 0, 1) := by decide +kernel
theorem dX12_init_292 : decode cX12_init 292 = .ok (.sipush 800, 3) := by decide +kernel
theorem dX12_init_295 : decode cX12_init 295 = .ok (.newarray .int, 2) := by decide +kernel
theorem dX12_init_297 : decode cX12_init 297 = .ok (.putfield 124, 3) := by decide +kernel
theorem dX12_init_300 : decode cX12_init 300 = .ok (.aload_n 0, 1) := by decide +kernel
theorem dX12_init_301 : decode cX12_init 301 = .ok (.ldc2_w 129, 3) := by decide +kernel
theorem dX12_init_304 : decode cX12_init 304 = .ok (.putfield 131, 3) := by decide +kernel
theorem dX12_init_307 : decode cX12_init 307 = .ok (.aload_n 0, 1) := by decide +kernel
theorem dX12_init_308 : decode cX12_init 308 = .ok (.ldc2_w 129, 3) := by decide +kernel
theorem dX12_init_311 : decode cX12_init 311 = .ok (.putfield 135, 3) := by decide +kernel
theorem dX12_init_314 : decode cX12_init 314 = .ok (.aload_n 0, 1) := by decide +kernel
theorem dX12_init_315 : decode cX12_init 315 = .ok (.iconst 4, 1) := by decide +kernel
theorem dX12_init_316 : decode cX12_init 316 = .ok (.newarray .int, 2) := by decide +kernel
theorem dX12_init_318 : decode cX12_init 318 = .ok (.putfield 138, 3) := by decide +kernel
theorem dX12_init_321 : decode cX12_init 321 = .ok (.aload_n 0, 1) := by decide +kernel
theorem dX12_init_322 : decode cX12_init 322 = .ok (.iconst 4, 1) := by decide +kernel
theorem dX12_init_323 : decode cX12_init 323 = .ok (.newarray .int, 2) := by decide +kernel
theorem dX12_init_325 : decode cX12_init 325 = .ok (.dup, 1) := by decide +kernel
theorem dX12_init_326 : decode cX12_init 326 = .ok (.iconst 0, 1) := by decide +kernel
theorem dX12_init_327 : decode cX12_init 327 = .ok (.iconst (-1), 1) := by decide +kernel
theorem dX12_init_328 : decode cX12_init 328 = .ok (.iastore, 1) := by decide +kernel
theorem dX12_init_329 : decode cX12_init 329 = .ok (.dup, 1) := by decide +kernel
theorem dX12_init_330 : decode cX12_init 330 = .ok (.iconst 1, 1) := by decide +kernel
theorem dX12_init_331 : decode cX12_init 331 = .ok (.iconst (-1), 1) := by decide +kernel
theorem dX12_init_332 : decode cX12_init 332 = .ok (.iastore, 1) := by decide +kernel
theorem dX12_init_333 : decode cX12_init 333 = .ok (.dup, 1) := by decide +kernel
theorem dX12_init_334 : decode cX12_init 334 = .ok (.iconst 2, 1) := by decide +kernel
theorem dX12_init_335 : decode cX12_init 335 = .ok (.iconst (-1), 1) := by decide +kernel
theorem dX12_init_336 : decode cX12_init 336 = .ok (.iastore, 1) := by decide +kernel
theorem dX12_init_337 : decode cX12_init 337 = .ok (.dup, 1) := by decide +kernel
theorem dX12_init_338 : decode cX12_init 338 = .ok (.iconst 3, 1) := by decide +kernel
theorem dX12_init_339 : decode cX12_init 339 = .ok (.iconst (-1), 1) := by decide +kernel
theorem dX12_init_340 : decode cX12_init 340 = .ok (.iastore, 1) := by decide +kernel
theorem dX12_init_341 : decode cX12_init 341 = .ok (.putfield 141, 3) := by decide +kernel
theorem dX12_init_344 : decode cX12_init 344 = .ok (.aload_n 0, 1) := by decide +kernel
theorem dX12_init_345 : decode cX12_init 345 = .ok (.iconst 2, 1) := by decide +kernel
theorem dX12_init_346 : decode cX12_init 346 = .ok (.newarray .long, 2) := by decide +kernel
theorem dX12_init_348 : decode cX12_init 348 = .ok (.putfield 144, 3) := by decide +kernel
theorem dX12_init_351 : decode cX12_init 351 = .ok (.return_, 1) := by decide +kernel
theorem dX12_thrown_0 : decode cX12_thrown 0 = .ok (.aload_n 0, 1) := by decide +kernel
theorem dX12_thrown_1 : decode cX12_thrown 1 = .ok (.getfield 147, 3) := by decide +kernel
theorem dX12_thrown_4 : decode cX12_thrown 4 = .ok (.ireturn, 1) := by decide +kernel
theorem dX12_refused_0 : decode cX12_refused 0 = .ok (.aload_n 0, 1) := by decide +kernel
theorem dX12_refused_1 : decode cX12_refused 1 = .ok (.iload_n 1, 1) := by decide +kernel
theorem dX12_refused_2 : decode cX12_refused 2 = .ok (.putfield 150, 3) := by decide +kernel
theorem dX12_refused_5 : decode cX12_refused 5 = .ok (.aload_n 0, 1) := by decide +kernel
theorem dX12_refused_6 : decode cX12_refused 6 = .ok (.iconst (-1), 1) := by decide +kernel
theorem dX12_refused_7 : decode cX12_refused 7 = .ok (.putfield 9, 3) := by decide +kernel
theorem dX12_refused_10 : decode cX12_refused 10 = .ok (.aload_n 0, 1) := by decide +kernel
theorem dX12_refused_11 : decode cX12_refused 11 = .ok (.iconst (-1), 1) := by decide +kernel
theorem dX12_refused_12 : decode cX12_refused 12 = .ok (.putfield 13, 3) := by decide +kernel
theorem dX12_refused_15 : decode cX12_refused 15 = .ok (.iconst (-1), 1) := by decide +kernel
theorem dX12_refused_16 : decode cX12_refused 16 = .ok (.ireturn, 1) := by decide +kernel
theorem dX12_denied_0 : decode cX12_denied 0 = .ok (.aload_n 0, 1) := by decide +kernel
theorem dX12_denied_1 : decode cX12_denied 1 = .ok (.iload_n 1, 1) := by decide +kernel
theorem dX12_denied_2 : decode cX12_denied 2 = .ok (.putfield 150, 3) := by decide +kernel
theorem dX12_denied_5 : decode cX12_denied 5 = .ok (.aload_n 0, 1) := by decide +kernel
theorem dX12_denied_6 : decode cX12_denied 6 = .ok (.iconst (-1), 1) := by decide +kernel
theorem dX12_denied_7 : decode cX12_denied 7 = .ok (.putfield 9, 3) := by decide +kernel
theorem dX12_denied_10 : decode cX12_denied 10 = .ok (.aload_n 0, 1) := by decide +kernel
theorem dX12_denied_11 : decode cX12_denied 11 = .ok (.iconst (-1), 1) := by decide +kernel
theorem dX12_denied_12 : decode cX12_denied 12 = .ok (.putfield 13, 3) := by decide +kernel
theorem dX12_denied_15 : decode cX12_denied 15 = .ok (.iconst 0, 1) := by decide +kernel
theorem dX12_denied_16 : decode cX12_denied 16 = .ok (.ireturn, 1) := by decide +kernel
theorem dX12_done_0 : decode cX12_done 0 = .ok (.aload_n 0, 1) := by decide +kernel
theorem dX12_done_1 : decode cX12_done 1 = .ok (.iconst 0, 1) := by decide +kernel
theorem dX12_done_2 : decode cX12_done 2 = .ok (.putfield 150, 3) := by decide +kernel
theorem dX12_done_5 : decode cX12_done 5 = .ok (.aload_n 0, 1) := by decide +kernel
theorem dX12_done_6 : decode cX12_done 6 = .ok (.iconst (-1), 1) := by decide +kernel
theorem dX12_done_7 : decode cX12_done 7 = .ok (.putfield 9, 3) := by decide +kernel
theorem dX12_done_10 : decode cX12_done 10 = .ok (.aload_n 0, 1) := by decide +kernel
theorem dX12_done_11 : decode cX12_done 11 = .ok (.iconst (-1), 1) := by decide +kernel
theorem dX12_done_12 : decode cX12_done 12 = .ok (.putfield 13, 3) := by decide +kernel
theorem dX12_done_15 : decode cX12_done 15 = .ok (.iload_n 1, 1) := by decide +kernel
theorem dX12_done_16 : decode cX12_done 16 = .ok (.ireturn, 1) := by decide +kernel
theorem dX12_granted_0 : decode cX12_granted 0 = .ok (.aload_n 0, 1) := by decide +kernel
theorem dX12_granted_1 : decode cX12_granted 1 = .ok (.iconst 0, 1) := by decide +kernel
theorem dX12_granted_2 : decode cX12_granted 2 = .ok (.putfield 150, 3) := by decide +kernel
theorem dX12_granted_5 : decode cX12_granted 5 = .ok (.aload_n 0, 1) := by decide +kernel
theorem dX12_granted_6 : decode cX12_granted 6 = .ok (.iconst (-1), 1) := by decide +kernel
theorem dX12_granted_7 : decode cX12_granted 7 = .ok (.putfield 9, 3) := by decide +kernel
theorem dX12_granted_10 : decode cX12_granted 10 = .ok (.aload_n 0, 1) := by decide +kernel
theorem dX12_granted_11 : decode cX12_granted 11 = .ok (.iconst (-1), 1) := by decide +kernel
theorem dX12_granted_12 : decode cX12_granted 12 = .ok (.putfield 13, 3) := by decide +kernel
theorem dX12_granted_15 : decode cX12_granted 15 = .ok (.iconst 1, 1) := by decide +kernel
theorem dX12_granted_16 : decode cX12_granted 16 = .ok (.ireturn, 1) := by decide +kernel
theorem dX12_in_0 : decode cX12_in 0 = .ok (.iload_n 0, 1) := by decide +kernel
theorem dX12_in_1 : decode cX12_in 1 = .ok (.iload_n 1, 1) := by decide +kernel
theorem dX12_in_2 : decode cX12_in 2 = .ok (.if_icmp .lt 12, 3) := by decide +kernel
theorem dX12_in_5 : decode cX12_in 5 = .ok (.iload_n 0, 1) := by decide +kernel
theorem dX12_in_6 : decode cX12_in 6 = .ok (.iload_n 2, 1) := by decide +kernel
theorem dX12_in_7 : decode cX12_in 7 = .ok (.if_icmp .gt 7, 3) := by decide +kernel
theorem dX12_in_10 : decode cX12_in 10 = .ok (.iconst 1, 1) := by decide +kernel
theorem dX12_in_11 : decode cX12_in 11 = .ok (.goto 4, 3) := by decide +kernel
theorem dX12_in_14 : decode cX12_in 14 = .ok (.iconst 0, 1) := by decide +kernel
theorem dX12_in_15 : decode cX12_in 15 = .ok (.ireturn, 1) := by decide +kernel
theorem dX12_stopAt_0 : decode cX12_stopAt 0 = .ok (.aload_n 0, 1) := by decide +kernel
theorem dX12_stopAt_1 : decode cX12_stopAt 1 = .ok (.getfield 26, 3) := by decide +kernel
theorem dX12_stopAt_4 : decode cX12_stopAt 4 = .ok (.iload_n 1, 1) := by decide +kernel
theorem dX12_stopAt_5 : decode cX12_stopAt 5 = .ok (.putfield 153, 3) := by decide +kernel
theorem dX12_stopAt_8 : decode cX12_stopAt 8 = .ok (.aload_n 0, 1) := by decide +kernel
theorem dX12_stopAt_9 : decode cX12_stopAt 9 = .ok (.getfield 26, 3) := by decide +kernel
theorem dX12_stopAt_12 : decode cX12_stopAt 12 = .ok (.iload_n 2, 1) := by decide +kernel
theorem dX12_stopAt_13 : decode cX12_stopAt 13 = .ok (.putfield 156, 3) := by decide +kernel
theorem dX12_stopAt_16 : decode cX12_stopAt 16 = .ok (.aload_n 0, 1) := by decide +kernel
theorem dX12_stopAt_17 : decode cX12_stopAt 17 = .ok (.getfield 26, 3) := by decide +kernel
theorem dX12_stopAt_20 : decode cX12_stopAt 20 = .ok (.areturn, 1) := by decide +kernel
theorem dX12_stop_0 : decode cX12_stop 0 = .ok (.aload_n 0, 1) := by decide +kernel
theorem dX12_stop_1 : decode cX12_stop 1 = .ok (.iload_n 1, 1) := by decide +kernel
theorem dX12_stop_2 : decode cX12_stop 2 = .ok (.aload_n 0, 1) := by decide +kernel
theorem dX12_stop_3 : decode cX12_stop 3 = .ok (.getfield 159, 3) := by decide +kernel
theorem dX12_stop_6 : decode cX12_stop 6 = .ok (.invokevirtual 160, 3) := by decide +kernel
theorem dX12_stop_9 : decode cX12_stop 9 = .ok (.areturn, 1) := by decide +kernel
theorem dX12_byteAt_0 : decode cX12_byteAt 0 = .ok (.iload_n 1, 1) := by decide +kernel
theorem dX12_byteAt_1 : decode cX12_byteAt 1 = .ok (.aload_n 0, 1) := by decide +kernel
theorem dX12_byteAt_2 : decode cX12_byteAt 2 = .ok (.getfield 164, 3) := by decide +kernel
theorem dX12_byteAt_5 : decode cX12_byteAt 5 = .ok (.if_icmp .ge 16, 3) := by decide +kernel
theorem dX12_byteAt_8 : decode cX12_byteAt 8 = .ok (.aload_n 0, 1) := by decide +kernel
theorem dX12_byteAt_9 : decode cX12_byteAt 9 = .ok (.getfield 30, 3) := by decide +kernel
theorem dX12_byteAt_12 : decode cX12_byteAt 12 = .ok (.iload_n 1, 1) := by decide +kernel
theorem dX12_byteAt_13 : decode cX12_byteAt 13 = .ok (.baload, 1) := by decide +kernel
theorem dX12_byteAt_14 : decode cX12_byteAt 14 = .ok (.sipush 255, 3) := by decide +kernel
theorem dX12_byteAt_17 : decode cX12_byteAt 17 = .ok (.iand, 1) := by decide +kernel
theorem dX12_byteAt_18 : decode cX12_byteAt 18 = .ok (.goto 4, 3) := by decide +kernel
theorem dX12_byteAt_21 : decode cX12_byteAt 21 = .ok (.iconst (-1), 1) := by decide +kernel
theorem dX12_byteAt_22 : decode cX12_byteAt 22 = .ok (.ireturn, 1) := by decide +kernel
theorem dX12_isLetter_0 : decode cX12_isLetter 0 = .ok (.iload_n 0, 1) := by decide +kernel
theorem dX12_isLetter_1 : decode cX12_isLetter 1 = .ok (.bipush 97, 2) := by decide +kernel
theorem dX12_isLetter_3 : decode cX12_isLetter 3 = .ok (.if_icmp .lt 13, 3) := by decide +kernel
theorem dX12_isLetter_6 : decode cX12_isLetter 6 = .ok (.iload_n 0, 1) := by decide +kernel
theorem dX12_isLetter_7 : decode cX12_isLetter 7 = .ok (.bipush 122, 2) := by decide +kernel
theorem dX12_isLetter_9 : decode cX12_isLetter 9 = .ok (.if_icmp .gt 7, 3) := by decide +kernel
theorem dX12_isLetter_12 : decode cX12_isLetter 12 = .ok (.iconst 1, 1) := by decide +kernel
theorem dX12_isLetter_13 : decode cX12_isLetter 13 = .ok (.goto 4, 3) := by decide +kernel
theorem dX12_isLetter_16 : decode cX12_isLetter 16 = .ok (.iconst 0, 1) := by decide +kernel
theorem dX12_isLetter_17 : decode cX12_isLetter 17 = .ok (.ireturn, 1) := by decide +kernel
theorem dX12_isDigit_0 : decode cX12_isDigit 0 = .ok (.iload_n 0, 1) := by decide +kernel
theorem dX12_isDigit_1 : decode cX12_isDigit 1 = .ok (.bipush 48, 2) := by decide +kernel
theorem dX12_isDigit_3 : decode cX12_isDigit 3 = .ok (.if_icmp .lt 13, 3) := by decide +kernel
theorem dX12_isDigit_6 : decode cX12_isDigit 6 = .ok (.iload_n 0, 1) := by decide +kernel
theorem dX12_isDigit_7 : decode cX12_isDigit 7 = .ok (.bipush 57, 2) := by decide +kernel
theorem dX12_isDigit_9 : decode cX12_isDigit 9 = .ok (.if_icmp .gt 7, 3) := by decide +kernel
theorem dX12_isDigit_12 : decode cX12_isDigit 12 = .ok (.iconst 1, 1) := by decide +kernel
theorem dX12_isDigit_13 : decode cX12_isDigit 13 = .ok (.goto 4, 3) := by decide +kernel
theorem dX12_isDigit_16 : decode cX12_isDigit 16 = .ok (.iconst 0, 1) := by decide +kernel
theorem dX12_isDigit_17 : decode cX12_isDigit 17 = .ok (.ireturn, 1) := by decide +kernel
theorem dX12_wordOf_0 : decode cX12_wordOf 0 = .ok (.lconst 0, 1) := by decide +kernel
theorem dX12_wordOf_1 : decode cX12_wordOf 1 = .ok (.lstore_n 1, 1) := by decide +kernel
theorem dX12_wordOf_2 : decode cX12_wordOf 2 = .ok (.iconst 0, 1) := by decide +kernel
theorem dX12_wordOf_3 : decode cX12_wordOf 3 = .ok (.istore_n 3, 1) := by decide +kernel
theorem dX12_wordOf_4 : decode cX12_wordOf 4 = .ok (.iload_n 3, 1) := by decide +kernel
theorem dX12_wordOf_5 : decode cX12_wordOf 5 = .ok (.aload_n 0, 1) := by decide +kernel
theorem dX12_wordOf_6 : decode cX12_wordOf 6 = .ok (.invokevirtual 167, 3) := by decide +kernel
theorem dX12_wordOf_9 : decode cX12_wordOf 9 = .ok (.if_icmp .ge 27, 3) := by decide +kernel
theorem dX12_wordOf_12 : decode cX12_wordOf 12 = .ok (.ldc2_w 173, 3) := by decide +kernel
theorem dX12_wordOf_15 : decode cX12_wordOf 15 = .ok (.lload_n 1, 1) := by decide +kernel
theorem dX12_wordOf_16 : decode cX12_wordOf 16 = .ok (.lmul, 1) := by decide +kernel
theorem dX12_wordOf_17 : decode cX12_wordOf 17 = .ok (.aload_n 0, 1) := by decide +kernel
theorem dX12_wordOf_18 : decode cX12_wordOf 18 = .ok (.iload_n 3, 1) := by decide +kernel
theorem dX12_wordOf_19 : decode cX12_wordOf 19 = .ok (.invokevirtual 175, 3) := by decide +kernel
theorem dX12_wordOf_22 : decode cX12_wordOf 22 = .ok (.bipush 97, 2) := by decide +kernel
theorem dX12_wordOf_24 : decode cX12_wordOf 24 = .ok (.isub, 1) := by decide +kernel
theorem dX12_wordOf_25 : decode cX12_wordOf 25 = .ok (.iconst 1, 1) := by decide +kernel
theorem dX12_wordOf_26 : decode cX12_wordOf 26 = .ok (.iadd, 1) := by decide +kernel
theorem dX12_wordOf_27 : decode cX12_wordOf 27 = .ok (.i2l, 1) := by decide +kernel
theorem dX12_wordOf_28 : decode cX12_wordOf 28 = .ok (.ladd, 1) := by decide +kernel
theorem dX12_wordOf_29 : decode cX12_wordOf 29 = .ok (.lstore_n 1, 1) := by decide +kernel
theorem dX12_wordOf_30 : decode cX12_wordOf 30 = .ok (.iinc 3 1, 3) := by decide +kernel
theorem dX12_wordOf_33 : decode cX12_wordOf 33 = .ok (.goto (-29), 3) := by decide +kernel
theorem dX12_wordOf_36 : decode cX12_wordOf 36 = .ok (.lload_n 1, 1) := by decide +kernel
theorem dX12_wordOf_37 : decode cX12_wordOf 37 = .ok (.lreturn, 1) := by decide +kernel
theorem dX12_next_0 : decode cX12_next 0 = .ok (.aload_n 0, 1) := by decide +kernel
theorem dX12_next_1 : decode cX12_next 1 = .ok (.aload_n 0, 1) := by decide +kernel
theorem dX12_next_2 : decode cX12_next 2 = .ok (.getfield 179, 3) := by decide +kernel
theorem dX12_next_5 : decode cX12_next 5 = .ok (.invokevirtual 182, 3) := by decide +kernel
theorem dX12_next_8 : decode cX12_next 8 = .ok (.bipush 32, 2) := by decide +kernel
theorem dX12_next_10 : decode cX12_next 10 = .ok (.if_icmp .ne 16, 3) := by decide +kernel
theorem dX12_next_13 : decode cX12_next 13 = .ok (.aload_n 0, 1) := by decide +kernel
theorem dX12_next_14 : decode cX12_next 14 = .ok (.dup, 1) := by decide +kernel
theorem dX12_next_15 : decode cX12_next 15 = .ok (.getfield 179, 3) := by decide +kernel
theorem dX12_next_18 : decode cX12_next 18 = .ok (.iconst 1, 1) := by decide +kernel
theorem dX12_next_19 : decode cX12_next 19 = .ok (.iadd, 1) := by decide +kernel
theorem dX12_next_20 : decode cX12_next 20 = .ok (.putfield 179, 3) := by decide +kernel
theorem dX12_next_23 : decode cX12_next 23 = .ok (.goto (-23), 3) := by decide +kernel
theorem dX12_next_26 : decode cX12_next 26 = .ok (.aload_n 0, 1) := by decide +kernel
theorem dX12_next_27 : decode cX12_next 27 = .ok (.aload_n 0, 1) := by decide +kernel
theorem dX12_next_28 : decode cX12_next 28 = .ok (.getfield 179, 3) := by decide +kernel
theorem dX12_next_31 : decode cX12_next 31 = .ok (.putfield 159, 3) := by decide +kernel
theorem dX12_next_34 : decode cX12_next 34 = .ok (.aload_n 0, 1) := by decide +kernel
theorem dX12_next_35 : decode cX12_next 35 = .ok (.iconst 0, 1) := by decide +kernel
theorem dX12_next_36 : decode cX12_next 36 = .ok (.putfield 186, 3) := by decide +kernel
theorem dX12_next_39 : decode cX12_next 39 = .ok (.aload_n 0, 1) := by decide +kernel
theorem dX12_next_40 : decode cX12_next 40 = .ok (.iconst 0, 1) := by decide +kernel
theorem dX12_next_41 : decode cX12_next 41 = .ok (.putfield 189, 3) := by decide +kernel
theorem dX12_next_44 : decode cX12_next 44 = .ok (.aload_n 0, 1) := by decide +kernel
theorem dX12_next_45 : decode cX12_next 45 = .ok (.aload_n 0, 1) := by decide +kernel
theorem dX12_next_46 : decode cX12_next 46 = .ok (.getfield 179, 3) := by decide +kernel
theorem dX12_next_49 : decode cX12_next 49 = .ok (.invokevirtual 182, 3) := by decide +kernel
theorem dX12_next_52 : decode cX12_next 52 = .ok (.istore_n 1, 1) := by decide +kernel
theorem dX12_next_53 : decode cX12_next 53 = .ok (.iconst 0, 1) := by decide +kernel
theorem dX12_next_54 : decode cX12_next 54 = .ok (.istore_n 2, 1) := by decide +kernel
theorem dX12_next_55 : decode cX12_next 55 = .ok (.iload_n 1, 1) := by decide +kernel
theorem dX12_next_56 : decode cX12_next 56 = .ok (.iconst (-1), 1) := by decide +kernel
theorem dX12_next_57 : decode cX12_next 57 = .ok (.if_icmp .ne 11, 3) := by decide +kernel
theorem dX12_next_60 : decode cX12_next 60 = .ok (.aload_n 0, 1) := by decide +kernel
theorem dX12_next_61 : decode cX12_next 61 = .ok (.iconst 1, 1) := by decide +kernel
theorem dX12_next_62 : decode cX12_next 62 = .ok (.putfield 186, 3) := by decide +kernel
theorem dX12_next_65 : decode cX12_next 65 = .ok (.goto 207, 3) := by decide +kernel
theorem dX12_next_68 : decode cX12_next 68 = .ok (.iload_n 1, 1) := by decide +kernel
theorem dX12_next_69 : decode cX12_next 69 = .ok (.invokestatic 192, 3) := by decide +kernel
theorem dX12_next_72 : decode cX12_next 72 = .ok (.ifCond .eq 85, 3) := by decide +kernel
theorem dX12_next_75 : decode cX12_next 75 = .ok (.aload_n 0, 1) := by decide +kernel
theorem dX12_next_76 : decode cX12_next 76 = .ok (.lconst 0, 1) := by decide +kernel
theorem dX12_next_77 : decode cX12_next 77 = .ok (.putfield 196, 3) := by decide +kernel
theorem dX12_next_80 : decode cX12_next 80 = .ok (.aload_n 0, 1) := by decide +kernel
theorem dX12_next_81 : decode cX12_next 81 = .ok (.aload_n 0, 1) := by decide +kernel
theorem dX12_next_82 : decode cX12_next 82 = .ok (.getfield 179, 3) := by decide +kernel
theorem dX12_next_85 : decode cX12_next 85 = .ok (.invokevirtual 182, 3) := by decide +kernel
theorem dX12_next_88 : decode cX12_next 88 = .ok (.invokestatic 192, 3) := by decide +kernel
theorem dX12_next_91 : decode cX12_next 91 = .ok (.ifCond .eq 52, 3) := by decide +kernel
theorem dX12_next_94 : decode cX12_next 94 = .ok (.iload_n 2, 1) := by decide +kernel
theorem dX12_next_95 : decode cX12_next 95 = .ok (.bipush 8, 2) := by decide +kernel
theorem dX12_next_97 : decode cX12_next 97 = .ok (.if_icmp .ge 30, 3) := by decide +kernel
theorem dX12_next_100 : decode cX12_next 100 = .ok (.aload_n 0, 1) := by decide +kernel
theorem dX12_next_101 : decode cX12_next 101 = .ok (.ldc2_w 173, 3) := by decide +kernel
theorem dX12_next_104 : decode cX12_next 104 = .ok (.aload_n 0, 1) := by decide +kernel
theorem dX12_next_105 : decode cX12_next 105 = .ok (.getfield 196, 3) := by decide +kernel
theorem dX12_next_108 : decode cX12_next 108 = .ok (.lmul, 1) := by decide +kernel
theorem dX12_next_109 : decode cX12_next 109 = .ok (.aload_n 0, 1) := by decide +kernel
theorem dX12_next_110 : decode cX12_next 110 = .ok (.aload_n 0, 1) := by decide +kernel
theorem dX12_next_111 : decode cX12_next 111 = .ok (.getfield 179, 3) := by decide +kernel
theorem dX12_next_114 : decode cX12_next 114 = .ok (.invokevirtual 182, 3) := by decide +kernel
theorem dX12_next_117 : decode cX12_next 117 = .ok (.bipush 97, 2) := by decide +kernel
theorem dX12_next_119 : decode cX12_next 119 = .ok (.isub, 1) := by decide +kernel
theorem dX12_next_120 : decode cX12_next 120 = .ok (.iconst 1, 1) := by decide +kernel
theorem dX12_next_121 : decode cX12_next 121 = .ok (.iadd, 1) := by decide +kernel
theorem dX12_next_122 : decode cX12_next 122 = .ok (.i2l, 1) := by decide +kernel
theorem dX12_next_123 : decode cX12_next 123 = .ok (.ladd, 1) := by decide +kernel
theorem dX12_next_124 : decode cX12_next 124 = .ok (.putfield 196, 3) := by decide +kernel
theorem dX12_next_127 : decode cX12_next 127 = .ok (.iinc 2 1, 3) := by decide +kernel
theorem dX12_next_130 : decode cX12_next 130 = .ok (.aload_n 0, 1) := by decide +kernel
theorem dX12_next_131 : decode cX12_next 131 = .ok (.dup, 1) := by decide +kernel
theorem dX12_next_132 : decode cX12_next 132 = .ok (.getfield 179, 3) := by decide +kernel
theorem dX12_next_135 : decode cX12_next 135 = .ok (.iconst 1, 1) := by decide +kernel
theorem dX12_next_136 : decode cX12_next 136 = .ok (.iadd, 1) := by decide +kernel
theorem dX12_next_137 : decode cX12_next 137 = .ok (.putfield 179, 3) := by decide +kernel
theorem dX12_next_140 : decode cX12_next 140 = .ok (.goto (-60), 3) := by decide +kernel
theorem dX12_next_143 : decode cX12_next 143 = .ok (.iload_n 2, 1) := by decide +kernel
theorem dX12_next_144 : decode cX12_next 144 = .ok (.bipush 8, 2) := by decide +kernel
theorem dX12_next_146 : decode cX12_next 146 = .ok (.if_icmp .gt 126, 3) := by decide +kernel
theorem dX12_next_149 : decode cX12_next 149 = .ok (.aload_n 0, 1) := by decide +kernel
theorem dX12_next_150 : decode cX12_next 150 = .ok (.iconst 2, 1) := by decide +kernel
theorem dX12_next_151 : decode cX12_next 151 = .ok (.putfield 186, 3) := by decide +kernel
theorem dX12_next_154 : decode cX12_next 154 = .ok (.goto 118, 3) := by decide +kernel
theorem dX12_next_157 : decode cX12_next 157 = .ok (.iload_n 1, 1) := by decide +kernel
theorem dX12_next_158 : decode cX12_next 158 = .ok (.invokestatic 199, 3) := by decide +kernel
theorem dX12_next_161 : decode cX12_next 161 = .ok (.ifCond .eq 79, 3) := by decide +kernel
theorem dX12_next_164 : decode cX12_next 164 = .ok (.aload_n 0, 1) := by decide +kernel
theorem dX12_next_165 : decode cX12_next 165 = .ok (.iconst 0, 1) := by decide +kernel
theorem dX12_next_166 : decode cX12_next 166 = .ok (.putfield 202, 3) := by decide +kernel
theorem dX12_next_169 : decode cX12_next 169 = .ok (.aload_n 0, 1) := by decide +kernel
theorem dX12_next_170 : decode cX12_next 170 = .ok (.aload_n 0, 1) := by decide +kernel
theorem dX12_next_171 : decode cX12_next 171 = .ok (.getfield 179, 3) := by decide +kernel
theorem dX12_next_174 : decode cX12_next 174 = .ok (.invokevirtual 182, 3) := by decide +kernel
theorem dX12_next_177 : decode cX12_next 177 = .ok (.invokestatic 199, 3) := by decide +kernel
theorem dX12_next_180 : decode cX12_next 180 = .ok (.ifCond .eq 47, 3) := by decide +kernel
theorem dX12_next_183 : decode cX12_next 183 = .ok (.iload_n 2, 1) := by decide +kernel
theorem dX12_next_184 : decode cX12_next 184 = .ok (.iconst 3, 1) := by decide +kernel
theorem dX12_next_185 : decode cX12_next 185 = .ok (.if_icmp .ge 26, 3) := by decide +kernel
theorem dX12_next_188 : decode cX12_next 188 = .ok (.aload_n 0, 1) := by decide +kernel
theorem dX12_next_189 : decode cX12_next 189 = .ok (.bipush 10, 2) := by decide +kernel
theorem dX12_next_191 : decode cX12_next 191 = .ok (.aload_n 0, 1) := by decide +kernel
theorem dX12_next_192 : decode cX12_next 192 = .ok (.getfield 202, 3) := by decide +kernel
theorem dX12_next_195 : decode cX12_next 195 = .ok (.imul, 1) := by decide +kernel
theorem dX12_next_196 : decode cX12_next 196 = .ok (.aload_n 0, 1) := by decide +kernel
theorem dX12_next_197 : decode cX12_next 197 = .ok (.aload_n 0, 1) := by decide +kernel
theorem dX12_next_198 : decode cX12_next 198 = .ok (.getfield 179, 3) := by decide +kernel
theorem dX12_next_201 : decode cX12_next 201 = .ok (.invokevirtual 182, 3) := by decide +kernel
theorem dX12_next_204 : decode cX12_next 204 = .ok (.iadd, 1) := by decide +kernel
theorem dX12_next_205 : decode cX12_next 205 = .ok (.bipush 48, 2) := by decide +kernel
theorem dX12_next_207 : decode cX12_next 207 = .ok (.isub, 1) := by decide +kernel
theorem dX12_next_208 : decode cX12_next 208 = .ok (.putfield 202, 3) := by decide +kernel
theorem dX12_next_211 : decode cX12_next 211 = .ok (.iinc 2 1, 3) := by decide +kernel
theorem dX12_next_214 : decode cX12_next 214 = .ok (.aload_n 0, 1) := by decide +kernel
theorem dX12_next_215 : decode cX12_next 215 = .ok (.dup, 1) := by decide +kernel
theorem dX12_next_216 : decode cX12_next 216 = .ok (.getfield 179, 3) := by decide +kernel
theorem dX12_next_219 : decode cX12_next 219 = .ok (.iconst 1, 1) := by decide +kernel
theorem dX12_next_220 : decode cX12_next 220 = .ok (.iadd, 1) := by decide +kernel
theorem dX12_next_221 : decode cX12_next 221 = .ok (.putfield 179, 3) := by decide +kernel
theorem dX12_next_224 : decode cX12_next 224 = .ok (.goto (-55), 3) := by decide +kernel
theorem dX12_next_227 : decode cX12_next 227 = .ok (.iload_n 2, 1) := by decide +kernel
theorem dX12_next_228 : decode cX12_next 228 = .ok (.iconst 4, 1) := by decide +kernel
theorem dX12_next_229 : decode cX12_next 229 = .ok (.if_icmp .ge 43, 3) := by decide +kernel
theorem dX12_next_232 : decode cX12_next 232 = .ok (.aload_n 0, 1) := by decide +kernel
theorem dX12_next_233 : decode cX12_next 233 = .ok (.iconst 3, 1) := by decide +kernel
theorem dX12_next_234 : decode cX12_next 234 = .ok (.putfield 186, 3) := by decide +kernel
theorem dX12_next_237 : decode cX12_next 237 = .ok (.goto 35, 3) := by decide +kernel
theorem dX12_next_240 : decode cX12_next 240 = .ok (.iload_n 1, 1) := by decide +kernel
theorem dX12_next_241 : decode cX12_next 241 = .ok (.bipush 59, 2) := by decide +kernel
theorem dX12_next_243 : decode cX12_next 243 = .ok (.if_icmp .eq 9, 3) := by decide +kernel
theorem dX12_next_246 : decode cX12_next 246 = .ok (.iload_n 1, 1) := by decide +kernel
theorem dX12_next_247 : decode cX12_next 247 = .ok (.bipush 45, 2) := by decide +kernel
theorem dX12_next_249 : decode cX12_next 249 = .ok (.if_icmp .ne 23, 3) := by decide +kernel
theorem dX12_next_252 : decode cX12_next 252 = .ok (.aload_n 0, 1) := by decide +kernel
theorem dX12_next_253 : decode cX12_next 253 = .ok (.iconst 4, 1) := by decide +kernel
theorem dX12_next_254 : decode cX12_next 254 = .ok (.putfield 186, 3) := by decide +kernel
theorem dX12_next_257 : decode cX12_next 257 = .ok (.aload_n 0, 1) := by decide +kernel
theorem dX12_next_258 : decode cX12_next 258 = .ok (.iload_n 1, 1) := by decide +kernel
theorem dX12_next_259 : decode cX12_next 259 = .ok (.putfield 189, 3) := by decide +kernel
theorem dX12_next_262 : decode cX12_next 262 = .ok (.aload_n 0, 1) := by decide +kernel
theorem dX12_next_263 : decode cX12_next 263 = .ok (.dup, 1) := by decide +kernel
theorem dX12_next_264 : decode cX12_next 264 = .ok (.getfield 179, 3) := by decide +kernel
theorem dX12_next_267 : decode cX12_next 267 = .ok (.iconst 1, 1) := by decide +kernel
theorem dX12_next_268 : decode cX12_next 268 = .ok (.iadd, 1) := by decide +kernel
theorem dX12_next_269 : decode cX12_next 269 = .ok (.putfield 179, 3) := by decide +kernel
theorem dX12_next_272 : decode cX12_next 272 = .ok (.return_, 1) := by decide +kernel
theorem dX12_isWord_0 : decode cX12_isWord 0 = .ok (.aload_n 0, 1) := by decide +kernel
theorem dX12_isWord_1 : decode cX12_isWord 1 = .ok (.getfield 186, 3) := by decide +kernel
theorem dX12_isWord_4 : decode cX12_isWord 4 = .ok (.iconst 2, 1) := by decide +kernel
theorem dX12_isWord_5 : decode cX12_isWord 5 = .ok (.if_icmp .ne 19, 3) := by decide +kernel
theorem dX12_isWord_8 : decode cX12_isWord 8 = .ok (.aload_n 0, 1) := by decide +kernel
theorem dX12_isWord_9 : decode cX12_isWord 9 = .ok (.getfield 196, 3) := by decide +kernel
theorem dX12_isWord_12 : decode cX12_isWord 12 = .ok (.aload_n 1, 1) := by decide +kernel
theorem dX12_isWord_13 : decode cX12_isWord 13 = .ok (.invokestatic 205, 3) := by decide +kernel
theorem dX12_isWord_16 : decode cX12_isWord 16 = .ok (.lcmp, 1) := by decide +kernel
theorem dX12_isWord_17 : decode cX12_isWord 17 = .ok (.ifCond .ne 7, 3) := by decide +kernel
theorem dX12_isWord_20 : decode cX12_isWord 20 = .ok (.iconst 1, 1) := by decide +kernel
theorem dX12_isWord_21 : decode cX12_isWord 21 = .ok (.goto 4, 3) := by decide +kernel
theorem dX12_isWord_24 : decode cX12_isWord 24 = .ok (.iconst 0, 1) := by decide +kernel
theorem dX12_isWord_25 : decode cX12_isWord 25 = .ok (.ireturn, 1) := by decide +kernel
theorem dX12_is_0 : decode cX12_is 0 = .ok (.aload_n 0, 1) := by decide +kernel
theorem dX12_is_1 : decode cX12_is 1 = .ok (.getfield 186, 3) := by decide +kernel
theorem dX12_is_4 : decode cX12_is 4 = .ok (.iconst 4, 1) := by decide +kernel
theorem dX12_is_5 : decode cX12_is 5 = .ok (.if_icmp .ne 15, 3) := by decide +kernel
theorem dX12_is_8 : decode cX12_is 8 = .ok (.aload_n 0, 1) := by decide +kernel
theorem dX12_is_9 : decode cX12_is 9 = .ok (.getfield 189, 3) := by decide +kernel
theorem dX12_is_12 : decode cX12_is 12 = .ok (.iload_n 1, 1) := by decide +kernel
theorem dX12_is_13 : decode cX12_is 13 = .ok (.if_icmp .ne 7, 3) := by decide +kernel
theorem dX12_is_16 : decode cX12_is 16 = .ok (.iconst 1, 1) := by decide +kernel
theorem dX12_is_17 : decode cX12_is 17 = .ok (.goto 4, 3) := by decide +kernel
theorem dX12_is_20 : decode cX12_is 20 = .ok (.iconst 0, 1) := by decide +kernel
theorem dX12_is_21 : decode cX12_is 21 = .ok (.ireturn, 1) := by decide +kernel
theorem dX12_isName_0 : decode cX12_isName 0 = .ok (.aload_n 0, 1) := by decide +kernel
theorem dX12_isName_1 : decode cX12_isName 1 = .ok (.getfield 186, 3) := by decide +kernel
theorem dX12_isName_4 : decode cX12_isName 4 = .ok (.iconst 2, 1) := by decide +kernel
theorem dX12_isName_5 : decode cX12_isName 5 = .ok (.if_icmp .ne 52, 3) := by decide +kernel
theorem dX12_isName_8 : decode cX12_isName 8 = .ok (.aload_n 0, 1) := by decide +kernel
theorem dX12_isName_9 : decode cX12_isName 9 = .ok (.ldc 209, 2) := by decide +kernel
theorem dX12_isName_11 : decode cX12_isName 11 = .ok (.invokevirtual 211, 3) := by decide +kernel
theorem dX12_isName_14 : decode cX12_isName 14 = .ok (.ifCond .ne 43, 3) := by decide +kernel
theorem dX12_isName_17 : decode cX12_isName 17 = .ok (.aload_n 0, 1) := by decide +kernel
theorem dX12_isName_18 : decode cX12_isName 18 = .ok (.ldc 215, 2) := by decide +kernel
theorem dX12_isName_20 : decode cX12_isName 20 = .ok (.invokevirtual 211, 3) := by decide +kernel
theorem dX12_isName_23 : decode cX12_isName 23 = .ok (.ifCond .ne 34, 3) := by decide +kernel
theorem dX12_isName_26 : decode cX12_isName 26 = .ok (.aload_n 0, 1) := by decide +kernel
theorem dX12_isName_27 : decode cX12_isName 27 = .ok (.ldc 217, 2) := by decide +kernel
theorem dX12_isName_29 : decode cX12_isName 29 = .ok (.invokevirtual 211, 3) := by decide +kernel
theorem dX12_isName_32 : decode cX12_isName 32 = .ok (.ifCond .ne 25, 3) := by decide +kernel
theorem dX12_isName_35 : decode cX12_isName 35 = .ok (.aload_n 0, 1) := by decide +kernel
theorem dX12_isName_36 : decode cX12_isName 36 = .ok (.ldc 219, 2) := by decide +kernel
theorem dX12_isName_38 : decode cX12_isName 38 = .ok (.invokevirtual 211, 3) := by decide +kernel
theorem dX12_isName_41 : decode cX12_isName 41 = .ok (.ifCond .ne 16, 3) := by decide +kernel
theorem dX12_isName_44 : decode cX12_isName 44 = .ok (.aload_n 0, 1) := by decide +kernel
theorem dX12_isName_45 : decode cX12_isName 45 = .ok (.ldc 221, 2) := by decide +kernel
theorem dX12_isName_47 : decode cX12_isName 47 = .ok (.invokevirtual 211, 3) := by decide +kernel
theorem dX12_isName_50 : decode cX12_isName 50 = .ok (.ifCond .ne 7, 3) := by decide +kernel
theorem dX12_isName_53 : decode cX12_isName 53 = .ok (.iconst 1, 1) := by decide +kernel
theorem dX12_isName_54 : decode cX12_isName 54 = .ok (.goto 4, 3) := by decide +kernel
theorem dX12_isName_57 : decode cX12_isName 57 = .ok (.iconst 0, 1) := by decide +kernel
theorem dX12_isName_58 : decode cX12_isName 58 = .ok (.ireturn, 1) := by decide +kernel
theorem dX12_readBook_0 : decode cX12_readBook 0 = .ok (.iconst 1, 1) := by decide +kernel
theorem dX12_readBook_1 : decode cX12_readBook 1 = .ok (.istore_n 1, 1) := by decide +kernel
theorem dX12_readBook_2 : decode cX12_readBook 2 = .ok (.iload_n 1, 1) := by decide +kernel
theorem dX12_readBook_3 : decode cX12_readBook 3 = .ok (.ifCond .eq 94, 3) := by decide +kernel
theorem dX12_readBook_6 : decode cX12_readBook 6 = .ok (.aload_n 0, 1) := by decide +kernel
theorem dX12_readBook_7 : decode cX12_readBook 7 = .ok (.ldc 209, 2) := by decide +kernel
theorem dX12_readBook_9 : decode cX12_readBook 9 = .ok (.invokevirtual 211, 3) := by decide +kernel
theorem dX12_readBook_12 : decode cX12_readBook 12 = .ok (.ifCond .eq 11, 3) := by decide +kernel
theorem dX12_readBook_15 : decode cX12_readBook 15 = .ok (.aload_n 0, 1) := by decide +kernel
theorem dX12_readBook_16 : decode cX12_readBook 16 = .ok (.iconst 0, 1) := by decide +kernel
theorem dX12_readBook_17 : decode cX12_readBook 17 = .ok (.invokevirtual 223, 3) := by decide +kernel
theorem dX12_readBook_20 : decode cX12_readBook 20 = .ok (.goto 59, 3) := by decide +kernel
theorem dX12_readBook_23 : decode cX12_readBook 23 = .ok (.aload_n 0, 1) := by decide +kernel
theorem dX12_readBook_24 : decode cX12_readBook 24 = .ok (.ldc 215, 2) := by decide +kernel
theorem dX12_readBook_26 : decode cX12_readBook 26 = .ok (.invokevirtual 211, 3) := by decide +kernel
theorem dX12_readBook_29 : decode cX12_readBook 29 = .ok (.ifCond .eq 11, 3) := by decide +kernel
theorem dX12_readBook_32 : decode cX12_readBook 32 = .ok (.aload_n 0, 1) := by decide +kernel
theorem dX12_readBook_33 : decode cX12_readBook 33 = .ok (.iconst 1, 1) := by decide +kernel
theorem dX12_readBook_34 : decode cX12_readBook 34 = .ok (.invokevirtual 223, 3) := by decide +kernel
theorem dX12_readBook_37 : decode cX12_readBook 37 = .ok (.goto 42, 3) := by decide +kernel
theorem dX12_readBook_40 : decode cX12_readBook 40 = .ok (.aload_n 0, 1) := by decide +kernel
theorem dX12_readBook_41 : decode cX12_readBook 41 = .ok (.ldc 217, 2) := by decide +kernel
theorem dX12_readBook_43 : decode cX12_readBook 43 = .ok (.invokevirtual 211, 3) := by decide +kernel
theorem dX12_readBook_46 : decode cX12_readBook 46 = .ok (.ifCond .eq 11, 3) := by decide +kernel
theorem dX12_readBook_49 : decode cX12_readBook 49 = .ok (.aload_n 0, 1) := by decide +kernel
theorem dX12_readBook_50 : decode cX12_readBook 50 = .ok (.iconst 2, 1) := by decide +kernel
theorem dX12_readBook_51 : decode cX12_readBook 51 = .ok (.invokevirtual 223, 3) := by decide +kernel
theorem dX12_readBook_54 : decode cX12_readBook 54 = .ok (.goto 25, 3) := by decide +kernel
theorem dX12_readBook_57 : decode cX12_readBook 57 = .ok (.aload_n 0, 1) := by decide +kernel
theorem dX12_readBook_58 : decode cX12_readBook 58 = .ok (.ldc 219, 2) := by decide +kernel
theorem dX12_readBook_60 : decode cX12_readBook 60 = .ok (.invokevirtual 211, 3) := by decide +kernel
theorem dX12_readBook_63 : decode cX12_readBook 63 = .ok (.ifCond .eq 10, 3) := by decide +kernel
theorem dX12_readBook_66 : decode cX12_readBook 66 = .ok (.aload_n 0, 1) := by decide +kernel
theorem dX12_readBook_67 : decode cX12_readBook 67 = .ok (.invokevirtual 227, 3) := by decide +kernel
theorem dX12_readBook_70 : decode cX12_readBook 70 = .ok (.goto 9, 3) := by decide +kernel
theorem dX12_readBook_73 : decode cX12_readBook 73 = .ok (.aload_n 0, 1) := by decide +kernel
theorem dX12_readBook_74 : decode cX12_readBook 74 = .ok (.iconst 1, 1) := by decide +kernel
theorem dX12_readBook_75 : decode cX12_readBook 75 = .ok (.invokevirtual 230, 3) := by decide +kernel
theorem dX12_readBook_78 : decode cX12_readBook 78 = .ok (.athrow, 1) := by decide +kernel
theorem dX12_readBook_79 : decode cX12_readBook 79 = .ok (.aload_n 0, 1) := by decide +kernel
theorem dX12_readBook_80 : decode cX12_readBook 80 = .ok (.bipush 59, 2) := by decide +kernel
theorem dX12_readBook_82 : decode cX12_readBook 82 = .ok (.invokevirtual 233, 3) := by decide +kernel
theorem dX12_readBook_85 : decode cX12_readBook 85 = .ok (.istore_n 1, 1) := by decide +kernel
theorem dX12_readBook_86 : decode cX12_readBook 86 = .ok (.iload_n 1, 1) := by decide +kernel
theorem dX12_readBook_87 : decode cX12_readBook 87 = .ok (.ifCond .eq (-85), 3) := by decide +kernel
theorem dX12_readBook_90 : decode cX12_readBook 90 = .ok (.aload_n 0, 1) := by decide +kernel
theorem dX12_readBook_91 : decode cX12_readBook 91 = .ok (.invokevirtual 236, 3) := by decide +kernel
theorem dX12_readBook_94 : decode cX12_readBook 94 = .ok (.goto (-92), 3) := by decide +kernel
theorem dX12_readBook_97 : decode cX12_readBook 97 = .ok (.aload_n 0, 1) := by decide +kernel
theorem dX12_readBook_98 : decode cX12_readBook 98 = .ok (.getfield 186, 3) := by decide +kernel
theorem dX12_readBook_101 : decode cX12_readBook 101 = .ok (.iconst 1, 1) := by decide +kernel
theorem dX12_readBook_102 : decode cX12_readBook 102 = .ok (.if_icmp .eq 9, 3) := by decide +kernel
theorem dX12_readBook_105 : decode cX12_readBook 105 = .ok (.aload_n 0, 1) := by decide +kernel
theorem dX12_readBook_106 : decode cX12_readBook 106 = .ok (.iconst 1, 1) := by decide +kernel
theorem dX12_readBook_107 : decode cX12_readBook 107 = .ok (.invokevirtual 230, 3) := by decide +kernel
theorem dX12_readBook_110 : decode cX12_readBook 110 = .ok (.athrow, 1) := by decide +kernel
theorem dX12_readBook_111 : decode cX12_readBook 111 = .ok (.return_, 1) := by decide +kernel
theorem dX12_readKinds_0 : decode cX12_readKinds 0 = .ok (.aload_n 0, 1) := by decide +kernel
theorem dX12_readKinds_1 : decode cX12_readKinds 1 = .ok (.invokevirtual 236, 3) := by decide +kernel
theorem dX12_readKinds_4 : decode cX12_readKinds 4 = .ok (.aload_n 0, 1) := by decide +kernel
theorem dX12_readKinds_5 : decode cX12_readKinds 5 = .ok (.invokevirtual 239, 3) := by decide +kernel
theorem dX12_readKinds_8 : decode cX12_readKinds 8 = .ok (.istore_n 2, 1) := by decide +kernel
theorem dX12_readKinds_9 : decode cX12_readKinds 9 = .ok (.iload_n 1, 1) := by decide +kernel
theorem dX12_readKinds_10 : decode cX12_readKinds 10 = .ok (.ifCond .ne 7, 3) := by decide +kernel
theorem dX12_readKinds_13 : decode cX12_readKinds 13 = .ok (.iload_n 2, 1) := by decide +kernel
theorem dX12_readKinds_14 : decode cX12_readKinds 14 = .ok (.goto 7, 3) := by decide +kernel
theorem dX12_readKinds_17 : decode cX12_readKinds 17 = .ok (.aload_n 0, 1) := by decide +kernel
theorem dX12_readKinds_18 : decode cX12_readKinds 18 = .ok (.invokevirtual 239, 3) := by decide +kernel
theorem dX12_readKinds_21 : decode cX12_readKinds 21 = .ok (.istore_n 3, 1) := by decide +kernel
theorem dX12_readKinds_22 : decode cX12_readKinds 22 = .ok (.aload_n 0, 1) := by decide +kernel
theorem dX12_readKinds_23 : decode cX12_readKinds 23 = .ok (.getfield 186, 3) := by decide +kernel
theorem dX12_readKinds_26 : decode cX12_readKinds 26 = .ok (.iconst 3, 1) := by decide +kernel
theorem dX12_readKinds_27 : decode cX12_readKinds 27 = .ok (.if_icmp .eq 9, 3) := by decide +kernel
theorem dX12_readKinds_30 : decode cX12_readKinds 30 = .ok (.aload_n 0, 1) := by decide +kernel
theorem dX12_readKinds_31 : decode cX12_readKinds 31 = .ok (.iconst 1, 1) := by decide +kernel
theorem dX12_readKinds_32 : decode cX12_readKinds 32 = .ok (.invokevirtual 230, 3) := by decide +kernel
theorem dX12_readKinds_35 : decode cX12_readKinds 35 = .ok (.athrow, 1) := by decide +kernel
theorem dX12_readKinds_36 : decode cX12_readKinds 36 = .ok (.aload_n 0, 1) := by decide +kernel
theorem dX12_readKinds_37 : decode cX12_readKinds 37 = .ok (.getfield 202, 3) := by decide +kernel
theorem dX12_readKinds_40 : decode cX12_readKinds 40 = .ok (.iconst 1, 1) := by decide +kernel
theorem dX12_readKinds_41 : decode cX12_readKinds 41 = .ok (.bipush 99, 2) := by decide +kernel
theorem dX12_readKinds_43 : decode cX12_readKinds 43 = .ok (.invokestatic 242, 3) := by decide +kernel
theorem dX12_readKinds_46 : decode cX12_readKinds 46 = .ok (.ifCond .ne 9, 3) := by decide +kernel
theorem dX12_readKinds_49 : decode cX12_readKinds 49 = .ok (.aload_n 0, 1) := by decide +kernel
theorem dX12_readKinds_50 : decode cX12_readKinds 50 = .ok (.iconst 4, 1) := by decide +kernel
theorem dX12_readKinds_51 : decode cX12_readKinds 51 = .ok (.invokevirtual 230, 3) := by decide +kernel
theorem dX12_readKinds_54 : decode cX12_readKinds 54 = .ok (.athrow, 1) := by decide +kernel
theorem dX12_readKinds_55 : decode cX12_readKinds 55 = .ok (.aload_n 0, 1) := by decide +kernel
theorem dX12_readKinds_56 : decode cX12_readKinds 56 = .ok (.getfield 202, 3) := by decide +kernel
theorem dX12_readKinds_59 : decode cX12_readKinds 59 = .ok (.istore 4, 2) := by decide +kernel
theorem dX12_readKinds_61 : decode cX12_readKinds 61 = .ok (.aload_n 0, 1) := by decide +kernel
theorem dX12_readKinds_62 : decode cX12_readKinds 62 = .ok (.invokevirtual 236, 3) := by decide +kernel
theorem dX12_readKinds_65 : decode cX12_readKinds 65 = .ok (.iload_n 1, 1) := by decide +kernel
theorem dX12_readKinds_66 : decode cX12_readKinds 66 = .ok (.ifCond .ne 7, 3) := by decide +kernel
theorem dX12_readKinds_69 : decode cX12_readKinds 69 = .ok (.iconst 0, 1) := by decide +kernel
theorem dX12_readKinds_70 : decode cX12_readKinds 70 = .ok (.goto 10, 3) := by decide +kernel
theorem dX12_readKinds_73 : decode cX12_readKinds 73 = .ok (.aload_n 0, 1) := by decide +kernel
theorem dX12_readKinds_74 : decode cX12_readKinds 74 = .ok (.bipush 9, 2) := by decide +kernel
theorem dX12_readKinds_76 : decode cX12_readKinds 76 = .ok (.iconst 0, 1) := by decide +kernel
theorem dX12_readKinds_77 : decode cX12_readKinds 77 = .ok (.invokevirtual 246, 3) := by decide +kernel
theorem dX12_readKinds_80 : decode cX12_readKinds 80 = .ok (.istore 5, 2) := by decide +kernel
theorem dX12_readKinds_82 : decode cX12_readKinds 82 = .ok (.iload_n 2, 1) := by decide +kernel
theorem dX12_readKinds_83 : decode cX12_readKinds 83 = .ok (.istore 6, 2) := by decide +kernel
theorem dX12_readKinds_85 : decode cX12_readKinds 85 = .ok (.iload 6, 2) := by decide +kernel
theorem dX12_readKinds_87 : decode cX12_readKinds 87 = .ok (.iload_n 3, 1) := by decide +kernel
theorem dX12_readKinds_88 : decode cX12_readKinds 88 = .ok (.if_icmp .gt 93, 3) := by decide +kernel
theorem dX12_readKinds_91 : decode cX12_readKinds 91 = .ok (.aload_n 0, 1) := by decide +kernel
theorem dX12_readKinds_92 : decode cX12_readKinds 92 = .ok (.getfield 19, 3) := by decide +kernel
theorem dX12_readKinds_95 : decode cX12_readKinds 95 = .ok (.getfield 250, 3) := by decide +kernel
theorem dX12_readKinds_98 : decode cX12_readKinds 98 = .ok (.iload 6, 2) := by decide +kernel
theorem dX12_readKinds_100 : decode cX12_readKinds 100 = .ok (.iload_n 1, 1) := by decide +kernel
theorem dX12_readKinds_101 : decode cX12_readKinds 101 = .ok (.iastore, 1) := by decide +kernel
theorem dX12_readKinds_102 : decode cX12_readKinds 102 = .ok (.aload_n 0, 1) := by decide +kernel
theorem dX12_readKinds_103 : decode cX12_readKinds 103 = .ok (.getfield 19, 3) := by decide +kernel
theorem dX12_readKinds_106 : decode cX12_readKinds 106 = .ok (.getfield 252, 3) := by decide +kernel
theorem dX12_readKinds_109 : decode cX12_readKinds 109 = .ok (.iload 6, 2) := by decide +kernel
theorem dX12_readKinds_111 : decode cX12_readKinds 111 = .ok (.iload 4, 2) := by decide +kernel
theorem dX12_readKinds_113 : decode cX12_readKinds 113 = .ok (.iastore, 1) := by decide +kernel
theorem dX12_readKinds_114 : decode cX12_readKinds 114 = .ok (.aload_n 0, 1) := by decide +kernel
theorem dX12_readKinds_115 : decode cX12_readKinds 115 = .ok (.getfield 19, 3) := by decide +kernel
theorem dX12_readKinds_118 : decode cX12_readKinds 118 = .ok (.getfield 255, 3) := by decide +kernel
theorem dX12_readKinds_121 : decode cX12_readKinds 121 = .ok (.iload 6, 2) := by decide +kernel
theorem dX12_readKinds_123 : decode cX12_readKinds 123 = .ok (.iload 6, 2) := by decide +kernel
theorem dX12_readKinds_125 : decode cX12_readKinds 125 = .ok (.iload_n 2, 1) := by decide +kernel
theorem dX12_readKinds_126 : decode cX12_readKinds 126 = .ok (.if_icmp .ne 8, 3) := by decide +kernel
theorem dX12_readKinds_129 : decode cX12_readKinds 129 = .ok (.iload 5, 2) := by decide +kernel
theorem dX12_readKinds_131 : decode cX12_readKinds 131 = .ok (.goto 6, 3) := by decide +kernel
theorem dX12_readKinds_134 : decode cX12_readKinds 134 = .ok (.iload 5, 2) := by decide +kernel
theorem dX12_readKinds_136 : decode cX12_readKinds 136 = .ok (.ineg, 1) := by decide +kernel
theorem dX12_readKinds_137 : decode cX12_readKinds 137 = .ok (.iastore, 1) := by decide +kernel
theorem dX12_readKinds_138 : decode cX12_readKinds 138 = .ok (.aload_n 0, 1) := by decide +kernel
theorem dX12_readKinds_139 : decode cX12_readKinds 139 = .ok (.getfield 19, 3) := by decide +kernel
theorem dX12_readKinds_142 : decode cX12_readKinds 142 = .ok (.getfield 257, 3) := by decide +kernel
theorem dX12_readKinds_145 : decode cX12_readKinds 145 = .ok (.iload 6, 2) := by decide +kernel
theorem dX12_readKinds_147 : decode cX12_readKinds 147 = .ok (.iload_n 2, 1) := by decide +kernel
theorem dX12_readKinds_148 : decode cX12_readKinds 148 = .ok (.iload_n 3, 1) := by decide +kernel
theorem dX12_readKinds_149 : decode cX12_readKinds 149 = .ok (.iadd, 1) := by decide +kernel
theorem dX12_readKinds_150 : decode cX12_readKinds 150 = .ok (.iload 6, 2) := by decide +kernel
theorem dX12_readKinds_152 : decode cX12_readKinds 152 = .ok (.isub, 1) := by decide +kernel
theorem dX12_readKinds_153 : decode cX12_readKinds 153 = .ok (.iastore, 1) := by decide +kernel
theorem dX12_readKinds_154 : decode cX12_readKinds 154 = .ok (.aload_n 0, 1) := by decide +kernel
theorem dX12_readKinds_155 : decode cX12_readKinds 155 = .ok (.getfield 19, 3) := by decide +kernel
theorem dX12_readKinds_158 : decode cX12_readKinds 158 = .ok (.getfield 260, 3) := by decide +kernel
theorem dX12_readKinds_161 : decode cX12_readKinds 161 = .ok (.iload 6, 2) := by decide +kernel
theorem dX12_readKinds_163 : decode cX12_readKinds 163 = .ok (.iload 6, 2) := by decide +kernel
theorem dX12_readKinds_165 : decode cX12_readKinds 165 = .ok (.iload_n 2, 1) := by decide +kernel
theorem dX12_readKinds_166 : decode cX12_readKinds 166 = .ok (.if_icmp .le 7, 3) := by decide +kernel
theorem dX12_readKinds_169 : decode cX12_readKinds 169 = .ok (.iconst 1, 1) := by decide +kernel
theorem dX12_readKinds_170 : decode cX12_readKinds 170 = .ok (.goto 4, 3) := by decide +kernel
theorem dX12_readKinds_173 : decode cX12_readKinds 173 = .ok (.iconst 0, 1) := by decide +kernel
theorem dX12_readKinds_174 : decode cX12_readKinds 174 = .ok (.bastore, 1) := by decide +kernel
theorem dX12_readKinds_175 : decode cX12_readKinds 175 = .ok (.iinc 6 1, 3) := by decide +kernel
theorem dX12_readKinds_178 : decode cX12_readKinds 178 = .ok (.goto (-93), 3) := by decide +kernel
theorem dX12_readKinds_181 : decode cX12_readKinds 181 = .ok (.return_, 1) := by decide +kernel
theorem dX12_readNew_0 : decode cX12_readNew 0 = .ok (.aload_n 0, 1) := by decide +kernel
theorem dX12_readNew_1 : decode cX12_readNew 1 = .ok (.invokevirtual 264, 3) := by decide +kernel
theorem dX12_readNew_4 : decode cX12_readNew 4 = .ok (.ifCond .ne 9, 3) := by decide +kernel
theorem dX12_readNew_7 : decode cX12_readNew 7 = .ok (.aload_n 0, 1) := by decide +kernel
theorem dX12_readNew_8 : decode cX12_readNew 8 = .ok (.iconst 1, 1) := by decide +kernel
theorem dX12_readNew_9 : decode cX12_readNew 9 = .ok (.invokevirtual 230, 3) := by decide +kernel
theorem dX12_readNew_12 : decode cX12_readNew 12 = .ok (.athrow, 1) := by decide +kernel
theorem dX12_readNew_13 : decode cX12_readNew 13 = .ok (.aload_n 0, 1) := by decide +kernel
theorem dX12_readNew_14 : decode cX12_readNew 14 = .ok (.getfield 19, 3) := by decide +kernel
theorem dX12_readNew_17 : decode cX12_readNew 17 = .ok (.aload_n 0, 1) := by decide +kernel
theorem dX12_readNew_18 : decode cX12_readNew 18 = .ok (.getfield 196, 3) := by decide +kernel
theorem dX12_readNew_21 : decode cX12_readNew 21 = .ok (.invokevirtual 268, 3) := by decide +kernel
theorem dX12_readNew_24 : decode cX12_readNew 24 = .ok (.iconst (-1), 1) := by decide +kernel
theorem dX12_readNew_25 : decode cX12_readNew 25 = .ok (.if_icmp .eq 9, 3) := by decide +kernel
theorem dX12_readNew_28 : decode cX12_readNew 28 = .ok (.aload_n 0, 1) := by decide +kernel
theorem dX12_readNew_29 : decode cX12_readNew 29 = .ok (.iconst 3, 1) := by decide +kernel
theorem dX12_readNew_30 : decode cX12_readNew 30 = .ok (.invokevirtual 230, 3) := by decide +kernel
theorem dX12_readNew_33 : decode cX12_readNew 33 = .ok (.athrow, 1) := by decide +kernel
theorem dX12_readNew_34 : decode cX12_readNew 34 = .ok (.aload_n 0, 1) := by decide +kernel
theorem dX12_readNew_35 : decode cX12_readNew 35 = .ok (.getfield 19, 3) := by decide +kernel
theorem dX12_readNew_38 : decode cX12_readNew 38 = .ok (.getfield 272, 3) := by decide +kernel
theorem dX12_readNew_41 : decode cX12_readNew 41 = .ok (.bipush 8, 2) := by decide +kernel
theorem dX12_readNew_43 : decode cX12_readNew 43 = .ok (.if_icmp .ne 10, 3) := by decide +kernel
theorem dX12_readNew_46 : decode cX12_readNew 46 = .ok (.aload_n 0, 1) := by decide +kernel
theorem dX12_readNew_47 : decode cX12_readNew 47 = .ok (.bipush 6, 2) := by decide +kernel
theorem dX12_readNew_49 : decode cX12_readNew 49 = .ok (.invokevirtual 230, 3) := by decide +kernel
theorem dX12_readNew_52 : decode cX12_readNew 52 = .ok (.athrow, 1) := by decide +kernel
theorem dX12_readNew_53 : decode cX12_readNew 53 = .ok (.aload_n 0, 1) := by decide +kernel
theorem dX12_readNew_54 : decode cX12_readNew 54 = .ok (.getfield 19, 3) := by decide +kernel
theorem dX12_readNew_57 : decode cX12_readNew 57 = .ok (.getfield 275, 3) := by decide +kernel
theorem dX12_readNew_60 : decode cX12_readNew 60 = .ok (.aload_n 0, 1) := by decide +kernel
theorem dX12_readNew_61 : decode cX12_readNew 61 = .ok (.getfield 19, 3) := by decide +kernel
theorem dX12_readNew_64 : decode cX12_readNew 64 = .ok (.getfield 272, 3) := by decide +kernel
theorem dX12_readNew_67 : decode cX12_readNew 67 = .ok (.aload_n 0, 1) := by decide +kernel
theorem dX12_readNew_68 : decode cX12_readNew 68 = .ok (.getfield 196, 3) := by decide +kernel
theorem dX12_readNew_71 : decode cX12_readNew 71 = .ok (.lastore, 1) := by decide +kernel
theorem dX12_readNew_72 : decode cX12_readNew 72 = .ok (.aload_n 0, 1) := by decide +kernel
theorem dX12_readNew_73 : decode cX12_readNew 73 = .ok (.getfield 19, 3) := by decide +kernel
theorem dX12_readNew_76 : decode cX12_readNew 76 = .ok (.dup, 1) := by decide +kernel
theorem dX12_readNew_77 : decode cX12_readNew 77 = .ok (.getfield 272, 3) := by decide +kernel
theorem dX12_readNew_80 : decode cX12_readNew 80 = .ok (.iconst 1, 1) := by decide +kernel
theorem dX12_readNew_81 : decode cX12_readNew 81 = .ok (.iadd, 1) := by decide +kernel
theorem dX12_readNew_82 : decode cX12_readNew 82 = .ok (.putfield 272, 3) := by decide +kernel
theorem dX12_readNew_85 : decode cX12_readNew 85 = .ok (.aload_n 0, 1) := by decide +kernel
theorem dX12_readNew_86 : decode cX12_readNew 86 = .ok (.invokevirtual 236, 3) := by decide +kernel
theorem dX12_readNew_89 : decode cX12_readNew 89 = .ok (.aload_n 0, 1) := by decide +kernel
theorem dX12_readNew_90 : decode cX12_readNew 90 = .ok (.getfield 19, 3) := by decide +kernel
theorem dX12_readNew_93 : decode cX12_readNew 93 = .ok (.getfield 272, 3) := by decide +kernel
theorem dX12_readNew_96 : decode cX12_readNew 96 = .ok (.iconst 1, 1) := by decide +kernel
theorem dX12_readNew_97 : decode cX12_readNew 97 = .ok (.isub, 1) := by decide +kernel
theorem dX12_readNew_98 : decode cX12_readNew 98 = .ok (.ireturn, 1) := by decide +kernel
theorem dX12_readInt_0 : decode cX12_readInt 0 = .ok (.aload_n 0, 1) := by decide +kernel
theorem dX12_readInt_1 : decode cX12_readInt 1 = .ok (.getfield 159, 3) := by decide +kernel
theorem dX12_readInt_4 : decode cX12_readInt 4 = .ok (.istore_n 3, 1) := by decide +kernel
theorem dX12_readInt_5 : decode cX12_readInt 5 = .ok (.aload_n 0, 1) := by decide +kernel
theorem dX12_readInt_6 : decode cX12_readInt 6 = .ok (.bipush 45, 2) := by decide +kernel
theorem dX12_readInt_8 : decode cX12_readInt 8 = .ok (.invokevirtual 233, 3) := by decide +kernel
theorem dX12_readInt_11 : decode cX12_readInt 11 = .ok (.istore 4, 2) := by decide +kernel
theorem dX12_readInt_13 : decode cX12_readInt 13 = .ok (.iload 4, 2) := by decide +kernel
theorem dX12_readInt_15 : decode cX12_readInt 15 = .ok (.ifCond .eq 7, 3) := by decide +kernel
theorem dX12_readInt_18 : decode cX12_readInt 18 = .ok (.aload_n 0, 1) := by decide +kernel
theorem dX12_readInt_19 : decode cX12_readInt 19 = .ok (.invokevirtual 236, 3) := by decide +kernel
theorem dX12_readInt_22 : decode cX12_readInt 22 = .ok (.aload_n 0, 1) := by decide +kernel
theorem dX12_readInt_23 : decode cX12_readInt 23 = .ok (.getfield 186, 3) := by decide +kernel
theorem dX12_readInt_26 : decode cX12_readInt 26 = .ok (.iconst 3, 1) := by decide +kernel
theorem dX12_readInt_27 : decode cX12_readInt 27 = .ok (.if_icmp .eq 9, 3) := by decide +kernel
theorem dX12_readInt_30 : decode cX12_readInt 30 = .ok (.aload_n 0, 1) := by decide +kernel
theorem dX12_readInt_31 : decode cX12_readInt 31 = .ok (.iconst 1, 1) := by decide +kernel
theorem dX12_readInt_32 : decode cX12_readInt 32 = .ok (.invokevirtual 230, 3) := by decide +kernel
theorem dX12_readInt_35 : decode cX12_readInt 35 = .ok (.athrow, 1) := by decide +kernel
theorem dX12_readInt_36 : decode cX12_readInt 36 = .ok (.aload_n 0, 1) := by decide +kernel
theorem dX12_readInt_37 : decode cX12_readInt 37 = .ok (.getfield 202, 3) := by decide +kernel
theorem dX12_readInt_40 : decode cX12_readInt 40 = .ok (.iload_n 1, 1) := by decide +kernel
theorem dX12_readInt_41 : decode cX12_readInt 41 = .ok (.if_icmp .gt 14, 3) := by decide +kernel
theorem dX12_readInt_44 : decode cX12_readInt 44 = .ok (.iload_n 2, 1) := by decide +kernel
theorem dX12_readInt_45 : decode cX12_readInt 45 = .ok (.ifCond .eq 17, 3) := by decide +kernel
theorem dX12_readInt_48 : decode cX12_readInt 48 = .ok (.aload_n 0, 1) := by decide +kernel
theorem dX12_readInt_49 : decode cX12_readInt 49 = .ok (.getfield 202, 3) := by decide +kernel
theorem dX12_readInt_52 : decode cX12_readInt 52 = .ok (.ifCond .ne 10, 3) := by decide +kernel
theorem dX12_readInt_55 : decode cX12_readInt 55 = .ok (.aload_n 0, 1) := by decide +kernel
theorem dX12_readInt_56 : decode cX12_readInt 56 = .ok (.iconst 4, 1) := by decide +kernel
theorem dX12_readInt_57 : decode cX12_readInt 57 = .ok (.iload_n 3, 1) := by decide +kernel
theorem dX12_readInt_58 : decode cX12_readInt 58 = .ok (.invokevirtual 160, 3) := by decide +kernel
theorem dX12_readInt_61 : decode cX12_readInt 61 = .ok (.athrow, 1) := by decide +kernel
theorem dX12_readInt_62 : decode cX12_readInt 62 = .ok (.iload 4, 2) := by decide +kernel
theorem dX12_readInt_64 : decode cX12_readInt 64 = .ok (.ifCond .eq 11, 3) := by decide +kernel
theorem dX12_readInt_67 : decode cX12_readInt 67 = .ok (.aload_n 0, 1) := by decide +kernel
theorem dX12_readInt_68 : decode cX12_readInt 68 = .ok (.getfield 202, 3) := by decide +kernel
theorem dX12_readInt_71 : decode cX12_readInt 71 = .ok (.ineg, 1) := by decide +kernel
theorem dX12_readInt_72 : decode cX12_readInt 72 = .ok (.goto 7, 3) := by decide +kernel
theorem dX12_readInt_75 : decode cX12_readInt 75 = .ok (.aload_n 0, 1) := by decide +kernel
theorem dX12_readInt_76 : decode cX12_readInt 76 = .ok (.getfield 202, 3) := by decide +kernel
theorem dX12_readInt_79 : decode cX12_readInt 79 = .ok (.istore 5, 2) := by decide +kernel
theorem dX12_readInt_81 : decode cX12_readInt 81 = .ok (.aload_n 0, 1) := by decide +kernel
theorem dX12_readInt_82 : decode cX12_readInt 82 = .ok (.invokevirtual 236, 3) := by decide +kernel
theorem dX12_readInt_85 : decode cX12_readInt 85 = .ok (.iload 5, 2) := by decide +kernel
theorem dX12_readInt_87 : decode cX12_readInt 87 = .ok (.ireturn, 1) := by decide +kernel
theorem dX12_readMeet_0 : decode cX12_readMeet 0 = .ok (.aload_n 0, 1) := by decide +kernel
theorem dX12_readMeet_1 : decode cX12_readMeet 1 = .ok (.getfield 159, 3) := by decide +kernel
theorem dX12_readMeet_4 : decode cX12_readMeet 4 = .ok (.istore_n 1, 1) := by decide +kernel
theorem dX12_readMeet_5 : decode cX12_readMeet 5 = .ok (.aload_n 0, 1) := by decide +kernel
theorem dX12_readMeet_6 : decode cX12_readMeet 6 = .ok (.getfield 19, 3) := by decide +kernel
theorem dX12_readMeet_9 : decode cX12_readMeet 9 = .ok (.getfield 278, 3) := by decide +kernel
theorem dX12_readMeet_12 : decode cX12_readMeet 12 = .ok (.iconst 4, 1) := by decide +kernel
theorem dX12_readMeet_13 : decode cX12_readMeet 13 = .ok (.if_icmp .ne 10, 3) := by decide +kernel
theorem dX12_readMeet_16 : decode cX12_readMeet 16 = .ok (.aload_n 0, 1) := by decide +kernel
theorem dX12_readMeet_17 : decode cX12_readMeet 17 = .ok (.bipush 6, 2) := by decide +kernel
theorem dX12_readMeet_19 : decode cX12_readMeet 19 = .ok (.invokevirtual 230, 3) := by decide +kernel
theorem dX12_readMeet_22 : decode cX12_readMeet 22 = .ok (.athrow, 1) := by decide +kernel
theorem dX12_readMeet_23 : decode cX12_readMeet 23 = .ok (.aload_n 0, 1) := by decide +kernel
theorem dX12_readMeet_24 : decode cX12_readMeet 24 = .ok (.getfield 19, 3) := by decide +kernel
theorem dX12_readMeet_27 : decode cX12_readMeet 27 = .ok (.getfield 278, 3) := by decide +kernel
theorem dX12_readMeet_30 : decode cX12_readMeet 30 = .ok (.istore_n 2, 1) := by decide +kernel
theorem dX12_readMeet_31 : decode cX12_readMeet 31 = .ok (.iconst 0, 1) := by decide +kernel
theorem dX12_readMeet_32 : decode cX12_readMeet 32 = .ok (.istore_n 3, 1) := by decide +kernel
theorem dX12_readMeet_33 : decode cX12_readMeet 33 = .ok (.aload_n 0, 1) := by decide +kernel
theorem dX12_readMeet_34 : decode cX12_readMeet 34 = .ok (.invokevirtual 236, 3) := by decide +kernel
theorem dX12_readMeet_37 : decode cX12_readMeet 37 = .ok (.iload_n 3, 1) := by decide +kernel
theorem dX12_readMeet_38 : decode cX12_readMeet 38 = .ok (.iconst 3, 1) := by decide +kernel
theorem dX12_readMeet_39 : decode cX12_readMeet 39 = .ok (.if_icmp .lt 10, 3) := by decide +kernel
theorem dX12_readMeet_42 : decode cX12_readMeet 42 = .ok (.aload_n 0, 1) := by decide +kernel
theorem dX12_readMeet_43 : decode cX12_readMeet 43 = .ok (.invokevirtual 264, 3) := by decide +kernel
theorem dX12_readMeet_46 : decode cX12_readMeet 46 = .ok (.ifCond .eq 78, 3) := by decide +kernel
theorem dX12_readMeet_49 : decode cX12_readMeet 49 = .ok (.aload_n 0, 1) := by decide +kernel
theorem dX12_readMeet_50 : decode cX12_readMeet 50 = .ok (.invokevirtual 264, 3) := by decide +kernel
theorem dX12_readMeet_53 : decode cX12_readMeet 53 = .ok (.ifCond .ne 9, 3) := by decide +kernel
theorem dX12_readMeet_56 : decode cX12_readMeet 56 = .ok (.aload_n 0, 1) := by decide +kernel
theorem dX12_readMeet_57 : decode cX12_readMeet 57 = .ok (.iconst 1, 1) := by decide +kernel
theorem dX12_readMeet_58 : decode cX12_readMeet 58 = .ok (.invokevirtual 230, 3) := by decide +kernel
theorem dX12_readMeet_61 : decode cX12_readMeet 61 = .ok (.athrow, 1) := by decide +kernel
theorem dX12_readMeet_62 : decode cX12_readMeet 62 = .ok (.aload_n 0, 1) := by decide +kernel
theorem dX12_readMeet_63 : decode cX12_readMeet 63 = .ok (.getfield 19, 3) := by decide +kernel
theorem dX12_readMeet_66 : decode cX12_readMeet 66 = .ok (.aload_n 0, 1) := by decide +kernel
theorem dX12_readMeet_67 : decode cX12_readMeet 67 = .ok (.getfield 196, 3) := by decide +kernel
theorem dX12_readMeet_70 : decode cX12_readMeet 70 = .ok (.invokevirtual 268, 3) := by decide +kernel
theorem dX12_readMeet_73 : decode cX12_readMeet 73 = .ok (.istore 4, 2) := by decide +kernel
theorem dX12_readMeet_75 : decode cX12_readMeet 75 = .ok (.iload 4, 2) := by decide +kernel
theorem dX12_readMeet_77 : decode cX12_readMeet 77 = .ok (.iconst (-1), 1) := by decide +kernel
theorem dX12_readMeet_78 : decode cX12_readMeet 78 = .ok (.if_icmp .ne 9, 3) := by decide +kernel
theorem dX12_readMeet_81 : decode cX12_readMeet 81 = .ok (.aload_n 0, 1) := by decide +kernel
theorem dX12_readMeet_82 : decode cX12_readMeet 82 = .ok (.iconst 2, 1) := by decide +kernel
theorem dX12_readMeet_83 : decode cX12_readMeet 83 = .ok (.invokevirtual 230, 3) := by decide +kernel
theorem dX12_readMeet_86 : decode cX12_readMeet 86 = .ok (.athrow, 1) := by decide +kernel
theorem dX12_readMeet_87 : decode cX12_readMeet 87 = .ok (.iload_n 3, 1) := by decide +kernel
theorem dX12_readMeet_88 : decode cX12_readMeet 88 = .ok (.iconst 4, 1) := by decide +kernel
theorem dX12_readMeet_89 : decode cX12_readMeet 89 = .ok (.if_icmp .ne 10, 3) := by decide +kernel
theorem dX12_readMeet_92 : decode cX12_readMeet 92 = .ok (.aload_n 0, 1) := by decide +kernel
theorem dX12_readMeet_93 : decode cX12_readMeet 93 = .ok (.bipush 6, 2) := by decide +kernel
theorem dX12_readMeet_95 : decode cX12_readMeet 95 = .ok (.invokevirtual 230, 3) := by decide +kernel
theorem dX12_readMeet_98 : decode cX12_readMeet 98 = .ok (.athrow, 1) := by decide +kernel
theorem dX12_readMeet_99 : decode cX12_readMeet 99 = .ok (.aload_n 0, 1) := by decide +kernel
theorem dX12_readMeet_100 : decode cX12_readMeet 100 = .ok (.getfield 19, 3) := by decide +kernel
theorem dX12_readMeet_103 : decode cX12_readMeet 103 = .ok (.getfield 281, 3) := by decide +kernel
theorem dX12_readMeet_106 : decode cX12_readMeet 106 = .ok (.iconst 4, 1) := by decide +kernel
theorem dX12_readMeet_107 : decode cX12_readMeet 107 = .ok (.iload_n 2, 1) := by decide +kernel
theorem dX12_readMeet_108 : decode cX12_readMeet 108 = .ok (.imul, 1) := by decide +kernel
theorem dX12_readMeet_109 : decode cX12_readMeet 109 = .ok (.iload_n 3, 1) := by decide +kernel
theorem dX12_readMeet_110 : decode cX12_readMeet 110 = .ok (.iadd, 1) := by decide +kernel
theorem dX12_readMeet_111 : decode cX12_readMeet 111 = .ok (.iload 4, 2) := by decide +kernel
theorem dX12_readMeet_113 : decode cX12_readMeet 113 = .ok (.iastore, 1) := by decide +kernel
theorem dX12_readMeet_114 : decode cX12_readMeet 114 = .ok (.iinc 3 1, 3) := by decide +kernel
theorem dX12_readMeet_117 : decode cX12_readMeet 117 = .ok (.aload_n 0, 1) := by decide +kernel
theorem dX12_readMeet_118 : decode cX12_readMeet 118 = .ok (.invokevirtual 236, 3) := by decide +kernel
theorem dX12_readMeet_121 : decode cX12_readMeet 121 = .ok (.goto (-84), 3) := by decide +kernel
theorem dX12_readMeet_124 : decode cX12_readMeet 124 = .ok (.aload_n 0, 1) := by decide +kernel
theorem dX12_readMeet_125 : decode cX12_readMeet 125 = .ok (.ldc 221, 2) := by decide +kernel
theorem dX12_readMeet_127 : decode cX12_readMeet 127 = .ok (.invokevirtual 211, 3) := by decide +kernel
theorem dX12_readMeet_130 : decode cX12_readMeet 130 = .ok (.ifCond .ne 9, 3) := by decide +kernel
theorem dX12_readMeet_133 : decode cX12_readMeet 133 = .ok (.aload_n 0, 1) := by decide +kernel
theorem dX12_readMeet_134 : decode cX12_readMeet 134 = .ok (.iconst 1, 1) := by decide +kernel
theorem dX12_readMeet_135 : decode cX12_readMeet 135 = .ok (.invokevirtual 230, 3) := by decide +kernel
theorem dX12_readMeet_138 : decode cX12_readMeet 138 = .ok (.athrow, 1) := by decide +kernel
theorem dX12_readMeet_139 : decode cX12_readMeet 139 = .ok (.aload_n 0, 1) := by decide +kernel
theorem dX12_readMeet_140 : decode cX12_readMeet 140 = .ok (.invokevirtual 236, 3) := by decide +kernel
theorem dX12_readMeet_143 : decode cX12_readMeet 143 = .ok (.aload_n 0, 1) := by decide +kernel
theorem dX12_readMeet_144 : decode cX12_readMeet 144 = .ok (.getfield 19, 3) := by decide +kernel
theorem dX12_readMeet_147 : decode cX12_readMeet 147 = .ok (.getfield 284, 3) := by decide +kernel
theorem dX12_readMeet_150 : decode cX12_readMeet 150 = .ok (.iload_n 2, 1) := by decide +kernel
theorem dX12_readMeet_151 : decode cX12_readMeet 151 = .ok (.iload_n 3, 1) := by decide +kernel
theorem dX12_readMeet_152 : decode cX12_readMeet 152 = .ok (.iastore, 1) := by decide +kernel
theorem dX12_readMeet_153 : decode cX12_readMeet 153 = .ok (.aload_n 0, 1) := by decide +kernel
theorem dX12_readMeet_154 : decode cX12_readMeet 154 = .ok (.getfield 19, 3) := by decide +kernel
theorem dX12_readMeet_157 : decode cX12_readMeet 157 = .ok (.getfield 287, 3) := by decide +kernel
theorem dX12_readMeet_160 : decode cX12_readMeet 160 = .ok (.iload_n 2, 1) := by decide +kernel
theorem dX12_readMeet_161 : decode cX12_readMeet 161 = .ok (.aload_n 0, 1) := by decide +kernel
theorem dX12_readMeet_162 : decode cX12_readMeet 162 = .ok (.bipush 99, 2) := by decide +kernel
theorem dX12_readMeet_164 : decode cX12_readMeet 164 = .ok (.iconst 1, 1) := by decide +kernel
theorem dX12_readMeet_165 : decode cX12_readMeet 165 = .ok (.invokevirtual 246, 3) := by decide +kernel
theorem dX12_readMeet_168 : decode cX12_readMeet 168 = .ok (.iastore, 1) := by decide +kernel
theorem dX12_readMeet_169 : decode cX12_readMeet 169 = .ok (.aload_n 0, 1) := by decide +kernel
theorem dX12_readMeet_170 : decode cX12_readMeet 170 = .ok (.getfield 186, 3) := by decide +kernel
theorem dX12_readMeet_173 : decode cX12_readMeet 173 = .ok (.iconst 2, 1) := by decide +kernel
theorem dX12_readMeet_174 : decode cX12_readMeet 174 = .ok (.if_icmp .eq 9, 3) := by decide +kernel
theorem dX12_readMeet_177 : decode cX12_readMeet 177 = .ok (.aload_n 0, 1) := by decide +kernel
theorem dX12_readMeet_178 : decode cX12_readMeet 178 = .ok (.iconst 1, 1) := by decide +kernel
theorem dX12_readMeet_179 : decode cX12_readMeet 179 = .ok (.invokevirtual 230, 3) := by decide +kernel
theorem dX12_readMeet_182 : decode cX12_readMeet 182 = .ok (.athrow, 1) := by decide +kernel
theorem dX12_readMeet_183 : decode cX12_readMeet 183 = .ok (.aload_n 0, 1) := by decide +kernel
theorem dX12_readMeet_184 : decode cX12_readMeet 184 = .ok (.getfield 19, 3) := by decide +kernel
theorem dX12_readMeet_187 : decode cX12_readMeet 187 = .ok (.getfield 290, 3) := by decide +kernel
theorem dX12_readMeet_190 : decode cX12_readMeet 190 = .ok (.iload_n 2, 1) := by decide +kernel
theorem dX12_readMeet_191 : decode cX12_readMeet 191 = .ok (.aload_n 0, 1) := by decide +kernel
theorem dX12_readMeet_192 : decode cX12_readMeet 192 = .ok (.ldc_w 291, 3) := by decide +kernel
theorem dX12_readMeet_195 : decode cX12_readMeet 195 = .ok (.invokevirtual 211, 3) := by decide +kernel
theorem dX12_readMeet_198 : decode cX12_readMeet 198 = .ok (.ifCond .eq 7, 3) := by decide +kernel
theorem dX12_readMeet_201 : decode cX12_readMeet 201 = .ok (.iconst 0, 1) := by decide +kernel
theorem dX12_readMeet_202 : decode cX12_readMeet 202 = .ok (.goto 32, 3) := by decide +kernel
theorem dX12_readMeet_205 : decode cX12_readMeet 205 = .ok (.aload_n 0, 1) := by decide +kernel
theorem dX12_readMeet_206 : decode cX12_readMeet 206 = .ok (.ldc_w 293, 3) := by decide +kernel
theorem dX12_readMeet_209 : decode cX12_readMeet 209 = .ok (.invokevirtual 211, 3) := by decide +kernel
theorem dX12_readMeet_212 : decode cX12_readMeet 212 = .ok (.ifCond .eq 7, 3) := by decide +kernel
theorem dX12_readMeet_215 : decode cX12_readMeet 215 = .ok (.iconst 1, 1) := by decide +kernel
theorem dX12_readMeet_216 : decode cX12_readMeet 216 = .ok (.goto 18, 3) := by decide +kernel
theorem dX12_readMeet_219 : decode cX12_readMeet 219 = .ok (.aload_n 0, 1) := by decide +kernel
theorem dX12_readMeet_220 : decode cX12_readMeet 220 = .ok (.ldc_w 295, 3) := by decide +kernel
theorem dX12_readMeet_223 : decode cX12_readMeet 223 = .ok (.invokevirtual 211, 3) := by decide +kernel
theorem dX12_readMeet_226 : decode cX12_readMeet 226 = .ok (.ifCond .eq 7, 3) := by decide +kernel
theorem dX12_readMeet_229 : decode cX12_readMeet 229 = .ok (.iconst 2, 1) := by decide +kernel
theorem dX12_readMeet_230 : decode cX12_readMeet 230 = .ok (.goto 4, 3) := by decide +kernel
theorem dX12_readMeet_233 : decode cX12_readMeet 233 = .ok (.iconst (-1), 1) := by decide +kernel
theorem dX12_readMeet_234 : decode cX12_readMeet 234 = .ok (.iastore, 1) := by decide +kernel
theorem dX12_readMeet_235 : decode cX12_readMeet 235 = .ok (.aload_n 0, 1) := by decide +kernel
theorem dX12_readMeet_236 : decode cX12_readMeet 236 = .ok (.getfield 19, 3) := by decide +kernel
theorem dX12_readMeet_239 : decode cX12_readMeet 239 = .ok (.getfield 290, 3) := by decide +kernel
theorem dX12_readMeet_242 : decode cX12_readMeet 242 = .ok (.iload_n 2, 1) := by decide +kernel
theorem dX12_readMeet_243 : decode cX12_readMeet 243 = .ok (.iaload, 1) := by decide +kernel
theorem dX12_readMeet_244 : decode cX12_readMeet 244 = .ok (.iconst (-1), 1) := by decide +kernel
theorem dX12_readMeet_245 : decode cX12_readMeet 245 = .ok (.if_icmp .ne 9, 3) := by decide +kernel
theorem dX12_readMeet_248 : decode cX12_readMeet 248 = .ok (.aload_n 0, 1) := by decide +kernel
theorem dX12_readMeet_249 : decode cX12_readMeet 249 = .ok (.iconst 4, 1) := by decide +kernel
theorem dX12_readMeet_250 : decode cX12_readMeet 250 = .ok (.invokevirtual 230, 3) := by decide +kernel
theorem dX12_readMeet_253 : decode cX12_readMeet 253 = .ok (.athrow, 1) := by decide +kernel
theorem dX12_readMeet_254 : decode cX12_readMeet 254 = .ok (.aload_n 0, 1) := by decide +kernel
theorem dX12_readMeet_255 : decode cX12_readMeet 255 = .ok (.iload_n 2, 1) := by decide +kernel
theorem dX12_readMeet_256 : decode cX12_readMeet 256 = .ok (.invokevirtual 297, 3) := by decide +kernel
theorem dX12_readMeet_259 : decode cX12_readMeet 259 = .ok (.ifCond .ne 10, 3) := by decide +kernel
theorem dX12_readMeet_262 : decode cX12_readMeet 262 = .ok (.aload_n 0, 1) := by decide +kernel
theorem dX12_readMeet_263 : decode cX12_readMeet 263 = .ok (.iconst 5, 1) := by decide +kernel
theorem dX12_readMeet_264 : decode cX12_readMeet 264 = .ok (.iload_n 1, 1) := by decide +kernel
theorem dX12_readMeet_265 : decode cX12_readMeet 265 = .ok (.invokevirtual 160, 3) := by decide +kernel
theorem dX12_readMeet_268 : decode cX12_readMeet 268 = .ok (.athrow, 1) := by decide +kernel
theorem dX12_readMeet_269 : decode cX12_readMeet 269 = .ok (.aload_n 0, 1) := by decide +kernel
theorem dX12_readMeet_270 : decode cX12_readMeet 270 = .ok (.getfield 19, 3) := by decide +kernel
theorem dX12_readMeet_273 : decode cX12_readMeet 273 = .ok (.dup, 1) := by decide +kernel
theorem dX12_readMeet_274 : decode cX12_readMeet 274 = .ok (.getfield 278, 3) := by decide +kernel
theorem dX12_readMeet_277 : decode cX12_readMeet 277 = .ok (.iconst 1, 1) := by decide +kernel
theorem dX12_readMeet_278 : decode cX12_readMeet 278 = .ok (.iadd, 1) := by decide +kernel
theorem dX12_readMeet_279 : decode cX12_readMeet 279 = .ok (.putfield 278, 3) := by decide +kernel
theorem dX12_readMeet_282 : decode cX12_readMeet 282 = .ok (.aload_n 0, 1) := by decide +kernel
theorem dX12_readMeet_283 : decode cX12_readMeet 283 = .ok (.invokevirtual 236, 3) := by decide +kernel
theorem dX12_readMeet_286 : decode cX12_readMeet 286 = .ok (.return_, 1) := by decide +kernel
theorem dX12_isEven_0 : decode cX12_isEven 0 = .ok (.iconst 0, 1) := by decide +kernel
theorem dX12_isEven_1 : decode cX12_isEven 1 = .ok (.istore_n 2, 1) := by decide +kernel
theorem dX12_isEven_2 : decode cX12_isEven 2 = .ok (.iconst 0, 1) := by decide +kernel
theorem dX12_isEven_3 : decode cX12_isEven 3 = .ok (.istore_n 3, 1) := by decide +kernel
theorem dX12_isEven_4 : decode cX12_isEven 4 = .ok (.iconst 1, 1) := by decide +kernel
theorem dX12_isEven_5 : decode cX12_isEven 5 = .ok (.istore 4, 2) := by decide +kernel
theorem dX12_isEven_7 : decode cX12_isEven 7 = .ok (.iconst 0, 1) := by decide +kernel
theorem dX12_isEven_8 : decode cX12_isEven 8 = .ok (.istore 5, 2) := by decide +kernel
theorem dX12_isEven_10 : decode cX12_isEven 10 = .ok (.iload 5, 2) := by decide +kernel
theorem dX12_isEven_12 : decode cX12_isEven 12 = .ok (.aload_n 0, 1) := by decide +kernel
theorem dX12_isEven_13 : decode cX12_isEven 13 = .ok (.getfield 19, 3) := by decide +kernel
theorem dX12_isEven_16 : decode cX12_isEven 16 = .ok (.getfield 284, 3) := by decide +kernel
theorem dX12_isEven_19 : decode cX12_isEven 19 = .ok (.iload_n 1, 1) := by decide +kernel
theorem dX12_isEven_20 : decode cX12_isEven 20 = .ok (.iaload, 1) := by decide +kernel
theorem dX12_isEven_21 : decode cX12_isEven 21 = .ok (.if_icmp .ge 105, 3) := by decide +kernel
theorem dX12_isEven_24 : decode cX12_isEven 24 = .ok (.aload_n 0, 1) := by decide +kernel
theorem dX12_isEven_25 : decode cX12_isEven 25 = .ok (.getfield 19, 3) := by decide +kernel
theorem dX12_isEven_28 : decode cX12_isEven 28 = .ok (.getfield 281, 3) := by decide +kernel
theorem dX12_isEven_31 : decode cX12_isEven 31 = .ok (.iconst 4, 1) := by decide +kernel
theorem dX12_isEven_32 : decode cX12_isEven 32 = .ok (.iload_n 1, 1) := by decide +kernel
theorem dX12_isEven_33 : decode cX12_isEven 33 = .ok (.imul, 1) := by decide +kernel
theorem dX12_isEven_34 : decode cX12_isEven 34 = .ok (.iload 5, 2) := by decide +kernel
theorem dX12_isEven_36 : decode cX12_isEven 36 = .ok (.iadd, 1) := by decide +kernel
theorem dX12_isEven_37 : decode cX12_isEven 37 = .ok (.iaload, 1) := by decide +kernel
theorem dX12_isEven_38 : decode cX12_isEven 38 = .ok (.istore 6, 2) := by decide +kernel
theorem dX12_isEven_40 : decode cX12_isEven 40 = .ok (.iload_n 2, 1) := by decide +kernel
theorem dX12_isEven_41 : decode cX12_isEven 41 = .ok (.aload_n 0, 1) := by decide +kernel
theorem dX12_isEven_42 : decode cX12_isEven 42 = .ok (.getfield 19, 3) := by decide +kernel
theorem dX12_isEven_45 : decode cX12_isEven 45 = .ok (.getfield 255, 3) := by decide +kernel
theorem dX12_isEven_48 : decode cX12_isEven 48 = .ok (.iload 6, 2) := by decide +kernel
theorem dX12_isEven_50 : decode cX12_isEven 50 = .ok (.iaload, 1) := by decide +kernel
theorem dX12_isEven_51 : decode cX12_isEven 51 = .ok (.iadd, 1) := by decide +kernel
theorem dX12_isEven_52 : decode cX12_isEven 52 = .ok (.istore_n 2, 1) := by decide +kernel
theorem dX12_isEven_53 : decode cX12_isEven 53 = .ok (.aload_n 0, 1) := by decide +kernel
theorem dX12_isEven_54 : decode cX12_isEven 54 = .ok (.getfield 19, 3) := by decide +kernel
theorem dX12_isEven_57 : decode cX12_isEven 57 = .ok (.getfield 250, 3) := by decide +kernel
theorem dX12_isEven_60 : decode cX12_isEven 60 = .ok (.iload 6, 2) := by decide +kernel
theorem dX12_isEven_62 : decode cX12_isEven 62 = .ok (.iaload, 1) := by decide +kernel
theorem dX12_isEven_63 : decode cX12_isEven 63 = .ok (.iconst 2, 1) := by decide +kernel
theorem dX12_isEven_64 : decode cX12_isEven 64 = .ok (.if_icmp .eq 6, 3) := by decide +kernel
theorem dX12_isEven_67 : decode cX12_isEven 67 = .ok (.goto 53, 3) := by decide +kernel
theorem dX12_isEven_70 : decode cX12_isEven 70 = .ok (.iinc 3 1, 3) := by decide +kernel
theorem dX12_isEven_73 : decode cX12_isEven 73 = .ok (.iconst 0, 1) := by decide +kernel
theorem dX12_isEven_74 : decode cX12_isEven 74 = .ok (.istore 7, 2) := by decide +kernel
theorem dX12_isEven_76 : decode cX12_isEven 76 = .ok (.iload 7, 2) := by decide +kernel
theorem dX12_isEven_78 : decode cX12_isEven 78 = .ok (.iload 5, 2) := by decide +kernel
theorem dX12_isEven_80 : decode cX12_isEven 80 = .ok (.if_icmp .ge 40, 3) := by decide +kernel
theorem dX12_isEven_83 : decode cX12_isEven 83 = .ok (.iload 4, 2) := by decide +kernel
theorem dX12_isEven_85 : decode cX12_isEven 85 = .ok (.ifCond .eq 26, 3) := by decide +kernel
theorem dX12_isEven_88 : decode cX12_isEven 88 = .ok (.aload_n 0, 1) := by decide +kernel
theorem dX12_isEven_89 : decode cX12_isEven 89 = .ok (.getfield 19, 3) := by decide +kernel
theorem dX12_isEven_92 : decode cX12_isEven 92 = .ok (.getfield 281, 3) := by decide +kernel
theorem dX12_isEven_95 : decode cX12_isEven 95 = .ok (.iconst 4, 1) := by decide +kernel
theorem dX12_isEven_96 : decode cX12_isEven 96 = .ok (.iload_n 1, 1) := by decide +kernel
theorem dX12_isEven_97 : decode cX12_isEven 97 = .ok (.imul, 1) := by decide +kernel
theorem dX12_isEven_98 : decode cX12_isEven 98 = .ok (.iload 7, 2) := by decide +kernel
theorem dX12_isEven_100 : decode cX12_isEven 100 = .ok (.iadd, 1) := by decide +kernel
theorem dX12_isEven_101 : decode cX12_isEven 101 = .ok (.iaload, 1) := by decide +kernel
theorem dX12_isEven_102 : decode cX12_isEven 102 = .ok (.iload 6, 2) := by decide +kernel
theorem dX12_isEven_104 : decode cX12_isEven 104 = .ok (.if_icmp .eq 7, 3) := by decide +kernel
theorem dX12_isEven_107 : decode cX12_isEven 107 = .ok (.iconst 1, 1) := by decide +kernel
theorem dX12_isEven_108 : decode cX12_isEven 108 = .ok (.goto 4, 3) := by decide +kernel
theorem dX12_isEven_111 : decode cX12_isEven 111 = .ok (.iconst 0, 1) := by decide +kernel
theorem dX12_isEven_112 : decode cX12_isEven 112 = .ok (.istore 4, 2) := by decide +kernel
theorem dX12_isEven_114 : decode cX12_isEven 114 = .ok (.iinc 7 1, 3) := by decide +kernel
theorem dX12_isEven_117 : decode cX12_isEven 117 = .ok (.goto (-41), 3) := by decide +kernel
theorem dX12_isEven_120 : decode cX12_isEven 120 = .ok (.iinc 5 1, 3) := by decide +kernel
theorem dX12_isEven_123 : decode cX12_isEven 123 = .ok (.goto (-113), 3) := by decide +kernel
theorem dX12_isEven_126 : decode cX12_isEven 126 = .ok (.iload 4, 2) := by decide +kernel
theorem dX12_isEven_128 : decode cX12_isEven 128 = .ok (.ifCond .eq 17, 3) := by decide +kernel
theorem dX12_isEven_131 : decode cX12_isEven 131 = .ok (.iload_n 2, 1) := by decide +kernel
theorem dX12_isEven_132 : decode cX12_isEven 132 = .ok (.ifCond .ne 13, 3) := by decide +kernel
theorem dX12_isEven_135 : decode cX12_isEven 135 = .ok (.iload_n 3, 1) := by decide +kernel
theorem dX12_isEven_136 : decode cX12_isEven 136 = .ok (.iconst 2, 1) := by decide +kernel
theorem dX12_isEven_137 : decode cX12_isEven 137 = .ok (.irem, 1) := by decide +kernel
theorem dX12_isEven_138 : decode cX12_isEven 138 = .ok (.ifCond .ne 7, 3) := by decide +kernel
theorem dX12_isEven_141 : decode cX12_isEven 141 = .ok (.iconst 1, 1) := by decide +kernel
theorem dX12_isEven_142 : decode cX12_isEven 142 = .ok (.goto 4, 3) := by decide +kernel
theorem dX12_isEven_145 : decode cX12_isEven 145 = .ok (.iconst 0, 1) := by decide +kernel
theorem dX12_isEven_146 : decode cX12_isEven 146 = .ok (.ireturn, 1) := by decide +kernel
theorem dX12_feed_0 : decode cX12_feed 0 = .ok (.aload_n 0, 1) := by decide +kernel
theorem dX12_feed_1 : decode cX12_feed 1 = .ok (.iconst 0, 1) := by decide +kernel
theorem dX12_feed_2 : decode cX12_feed 2 = .ok (.putfield 147, 3) := by decide +kernel
theorem dX12_feed_5 : decode cX12_feed 5 = .ok (.aload_n 0, 1) := by decide +kernel
theorem dX12_feed_6 : decode cX12_feed 6 = .ok (.getfield 300, 3) := by decide +kernel
theorem dX12_feed_9 : decode cX12_feed 9 = .ok (.bipush 20, 2) := by decide +kernel
theorem dX12_feed_11 : decode cX12_feed 11 = .ok (.iadd, 1) := by decide +kernel
theorem dX12_feed_12 : decode cX12_feed 12 = .ok (.sipush 400, 3) := by decide +kernel
theorem dX12_feed_15 : decode cX12_feed 15 = .ok (.if_icmp .le 5, 3) := by decide +kernel
theorem dX12_feed_18 : decode cX12_feed 18 = .ok (.iconst (-1), 1) := by decide +kernel
theorem dX12_feed_19 : decode cX12_feed 19 = .ok (.ireturn, 1) := by decide +kernel
theorem dX12_feed_20 : decode cX12_feed 20 = .ok (.iconst 0, 1) := by decide +kernel
theorem dX12_feed_21 : decode cX12_feed 21 = .ok (.istore 6, 2) := by decide +kernel
theorem dX12_feed_23 : decode cX12_feed 23 = .ok (.iload 6, 2) := by decide +kernel
theorem dX12_feed_25 : decode cX12_feed 25 = .ok (.bipush 20, 2) := by decide +kernel
theorem dX12_feed_27 : decode cX12_feed 27 = .ok (.if_icmp .ge 90, 3) := by decide +kernel
theorem dX12_feed_30 : decode cX12_feed 30 = .ok (.iload 6, 2) := by decide +kernel
theorem dX12_feed_32 : decode cX12_feed 32 = .ok (.iconst 4, 1) := by decide +kernel
theorem dX12_feed_33 : decode cX12_feed 33 = .ok (.if_icmp .ge 7, 3) := by decide +kernel
theorem dX12_feed_36 : decode cX12_feed 36 = .ok (.iload_n 1, 1) := by decide +kernel
theorem dX12_feed_37 : decode cX12_feed 37 = .ok (.goto 39, 3) := by decide +kernel
theorem dX12_feed_40 : decode cX12_feed 40 = .ok (.iload 6, 2) := by decide +kernel
theorem dX12_feed_42 : decode cX12_feed 42 = .ok (.bipush 8, 2) := by decide +kernel
theorem dX12_feed_44 : decode cX12_feed 44 = .ok (.if_icmp .ge 7, 3) := by decide +kernel
theorem dX12_feed_47 : decode cX12_feed 47 = .ok (.iload_n 2, 1) := by decide +kernel
theorem dX12_feed_48 : decode cX12_feed 48 = .ok (.goto 28, 3) := by decide +kernel
theorem dX12_feed_51 : decode cX12_feed 51 = .ok (.iload 6, 2) := by decide +kernel
theorem dX12_feed_53 : decode cX12_feed 53 = .ok (.bipush 12, 2) := by decide +kernel
theorem dX12_feed_55 : decode cX12_feed 55 = .ok (.if_icmp .ge 7, 3) := by decide +kernel
theorem dX12_feed_58 : decode cX12_feed 58 = .ok (.iload_n 3, 1) := by decide +kernel
theorem dX12_feed_59 : decode cX12_feed 59 = .ok (.goto 17, 3) := by decide +kernel
theorem dX12_feed_62 : decode cX12_feed 62 = .ok (.iload 6, 2) := by decide +kernel
theorem dX12_feed_64 : decode cX12_feed 64 = .ok (.bipush 16, 2) := by decide +kernel
theorem dX12_feed_66 : decode cX12_feed 66 = .ok (.if_icmp .ge 8, 3) := by decide +kernel
theorem dX12_feed_69 : decode cX12_feed 69 = .ok (.iload 4, 2) := by decide +kernel
theorem dX12_feed_71 : decode cX12_feed 71 = .ok (.goto 5, 3) := by decide +kernel
theorem dX12_feed_74 : decode cX12_feed 74 = .ok (.iload 5, 2) := by decide +kernel
theorem dX12_feed_76 : decode cX12_feed 76 = .ok (.istore 7, 2) := by decide +kernel
theorem dX12_feed_78 : decode cX12_feed 78 = .ok (.aload_n 0, 1) := by decide +kernel
theorem dX12_feed_79 : decode cX12_feed 79 = .ok (.getfield 30, 3) := by decide +kernel
theorem dX12_feed_82 : decode cX12_feed 82 = .ok (.aload_n 0, 1) := by decide +kernel
theorem dX12_feed_83 : decode cX12_feed 83 = .ok (.getfield 300, 3) := by decide +kernel
theorem dX12_feed_86 : decode cX12_feed 86 = .ok (.iload 7, 2) := by decide +kernel
theorem dX12_feed_88 : decode cX12_feed 88 = .ok (.bipush 24, 2) := by decide +kernel
theorem dX12_feed_90 : decode cX12_feed 90 = .ok (.bipush 8, 2) := by decide +kernel
theorem dX12_feed_92 : decode cX12_feed 92 = .ok (.iload 6, 2) := by decide +kernel
theorem dX12_feed_94 : decode cX12_feed 94 = .ok (.iconst 4, 1) := by decide +kernel
theorem dX12_feed_95 : decode cX12_feed 95 = .ok (.irem, 1) := by decide +kernel
theorem dX12_feed_96 : decode cX12_feed 96 = .ok (.imul, 1) := by decide +kernel
theorem dX12_feed_97 : decode cX12_feed 97 = .ok (.isub, 1) := by decide +kernel
theorem dX12_feed_98 : decode cX12_feed 98 = .ok (.ishr, 1) := by decide +kernel
theorem dX12_feed_99 : decode cX12_feed 99 = .ok (.i2b, 1) := by decide +kernel
theorem dX12_feed_100 : decode cX12_feed 100 = .ok (.bastore, 1) := by decide +kernel
theorem dX12_feed_101 : decode cX12_feed 101 = .ok (.aload_n 0, 1) := by decide +kernel
theorem dX12_feed_102 : decode cX12_feed 102 = .ok (.dup, 1) := by decide +kernel
theorem dX12_feed_103 : decode cX12_feed 103 = .ok (.getfield 300, 3) := by decide +kernel
theorem dX12_feed_106 : decode cX12_feed 106 = .ok (.iconst 1, 1) := by decide +kernel
theorem dX12_feed_107 : decode cX12_feed 107 = .ok (.iadd, 1) := by decide +kernel
theorem dX12_feed_108 : decode cX12_feed 108 = .ok (.putfield 300, 3) := by decide +kernel
theorem dX12_feed_111 : decode cX12_feed 111 = .ok (.iinc 6 1, 3) := by decide +kernel
theorem dX12_feed_114 : decode cX12_feed 114 = .ok (.goto (-91), 3) := by decide +kernel
theorem dX12_feed_117 : decode cX12_feed 117 = .ok (.aload_n 0, 1) := by decide +kernel
theorem dX12_feed_118 : decode cX12_feed 118 = .ok (.getfield 300, 3) := by decide +kernel
theorem dX12_feed_121 : decode cX12_feed 121 = .ok (.ireturn, 1) := by decide +kernel
theorem dX12_book_0 : decode cX12_book 0 = .ok (.aload_n 0, 1) := by decide +kernel
theorem dX12_book_1 : decode cX12_book 1 = .ok (.iconst 0, 1) := by decide +kernel
theorem dX12_book_2 : decode cX12_book 2 = .ok (.putfield 147, 3) := by decide +kernel
theorem dX12_book_5 : decode cX12_book 5 = .ok (.iload_n 1, 1) := by decide +kernel
theorem dX12_book_6 : decode cX12_book 6 = .ok (.ifCond .lt 11, 3) := by decide +kernel
theorem dX12_book_9 : decode cX12_book 9 = .ok (.iload_n 1, 1) := by decide +kernel
theorem dX12_book_10 : decode cX12_book 10 = .ok (.aload_n 0, 1) := by decide +kernel
theorem dX12_book_11 : decode cX12_book 11 = .ok (.getfield 300, 3) := by decide +kernel
theorem dX12_book_14 : decode cX12_book 14 = .ok (.if_icmp .le 9, 3) := by decide +kernel
theorem dX12_book_17 : decode cX12_book 17 = .ok (.aload_n 0, 1) := by decide +kernel
theorem dX12_book_18 : decode cX12_book 18 = .ok (.iconst 2, 1) := by decide +kernel
theorem dX12_book_19 : decode cX12_book 19 = .ok (.invokevirtual 303, 3) := by decide +kernel
theorem dX12_book_22 : decode cX12_book 22 = .ok (.ireturn, 1) := by decide +kernel
theorem dX12_book_23 : decode cX12_book 23 = .ok (.aload_n 0, 1) := by decide +kernel
theorem dX12_book_24 : decode cX12_book 24 = .ok (.iload_n 1, 1) := by decide +kernel
theorem dX12_book_25 : decode cX12_book 25 = .ok (.putfield 164, 3) := by decide +kernel
theorem dX12_book_28 : decode cX12_book 28 = .ok (.aload_n 0, 1) := by decide +kernel
theorem dX12_book_29 : decode cX12_book 29 = .ok (.iconst 0, 1) := by decide +kernel
theorem dX12_book_30 : decode cX12_book 30 = .ok (.putfield 300, 3) := by decide +kernel
theorem dX12_book_33 : decode cX12_book 33 = .ok (.aload_n 0, 1) := by decide +kernel
theorem dX12_book_34 : decode cX12_book 34 = .ok (.iconst 0, 1) := by decide +kernel
theorem dX12_book_35 : decode cX12_book 35 = .ok (.putfield 179, 3) := by decide +kernel
theorem dX12_book_38 : decode cX12_book 38 = .ok (.aload_n 0, 1) := by decide +kernel
theorem dX12_book_39 : decode cX12_book 39 = .ok (.iconst 0, 1) := by decide +kernel
theorem dX12_book_40 : decode cX12_book 40 = .ok (.putfield 306, 3) := by decide +kernel
theorem dX12_book_43 : decode cX12_book 43 = .ok (.aload_n 0, 1) := by decide +kernel
theorem dX12_book_44 : decode cX12_book 44 = .ok (.getfield 19, 3) := by decide +kernel
theorem dX12_book_47 : decode cX12_book 47 = .ok (.iconst 0, 1) := by decide +kernel
theorem dX12_book_48 : decode cX12_book 48 = .ok (.putfield 272, 3) := by decide +kernel
theorem dX12_book_51 : decode cX12_book 51 = .ok (.aload_n 0, 1) := by decide +kernel
theorem dX12_book_52 : decode cX12_book 52 = .ok (.getfield 19, 3) := by decide +kernel
theorem dX12_book_55 : decode cX12_book 55 = .ok (.iconst 0, 1) := by decide +kernel
theorem dX12_book_56 : decode cX12_book 56 = .ok (.putfield 278, 3) := by decide +kernel
theorem dX12_book_59 : decode cX12_book 59 = .ok (.aload_n 0, 1) := by decide +kernel
theorem dX12_book_60 : decode cX12_book 60 = .ok (.invokevirtual 236, 3) := by decide +kernel
theorem dX12_book_63 : decode cX12_book 63 = .ok (.aload_n 0, 1) := by decide +kernel
theorem dX12_book_64 : decode cX12_book 64 = .ok (.invokevirtual 309, 3) := by decide +kernel
theorem dX12_book_67 : decode cX12_book 67 = .ok (.goto 32, 3) := by decide +kernel
theorem dX12_book_70 : decode cX12_book 70 = .ok (.astore_n 2, 1) := by decide +kernel
theorem dX12_book_71 : decode cX12_book 71 = .ok (.aload_n 0, 1) := by decide +kernel
theorem dX12_book_72 : decode cX12_book 72 = .ok (.aload_n 2, 1) := by decide +kernel
theorem dX12_book_73 : decode cX12_book 73 = .ok (.getfield 153, 3) := by decide +kernel
theorem dX12_book_76 : decode cX12_book 76 = .ok (.putfield 306, 3) := by decide +kernel
theorem dX12_book_79 : decode cX12_book 79 = .ok (.aload_n 0, 1) := by decide +kernel
theorem dX12_book_80 : decode cX12_book 80 = .ok (.iconst 4, 1) := by decide +kernel
theorem dX12_book_81 : decode cX12_book 81 = .ok (.putfield 150, 3) := by decide +kernel
theorem dX12_book_84 : decode cX12_book 84 = .ok (.aload_n 0, 1) := by decide +kernel
theorem dX12_book_85 : decode cX12_book 85 = .ok (.aload_n 2, 1) := by decide +kernel
theorem dX12_book_86 : decode cX12_book 86 = .ok (.getfield 156, 3) := by decide +kernel
theorem dX12_book_89 : decode cX12_book 89 = .ok (.putfield 9, 3) := by decide +kernel
theorem dX12_book_92 : decode cX12_book 92 = .ok (.aload_n 0, 1) := by decide +kernel
theorem dX12_book_93 : decode cX12_book 93 = .ok (.iconst (-1), 1) := by decide +kernel
theorem dX12_book_94 : decode cX12_book 94 = .ok (.putfield 13, 3) := by decide +kernel
theorem dX12_book_97 : decode cX12_book 97 = .ok (.iconst (-1), 1) := by decide +kernel
theorem dX12_book_98 : decode cX12_book 98 = .ok (.ireturn, 1) := by decide +kernel
theorem dX12_book_99 : decode cX12_book 99 = .ok (.aload_n 0, 1) := by decide +kernel
theorem dX12_book_100 : decode cX12_book 100 = .ok (.getfield 312, 3) := by decide +kernel
theorem dX12_book_103 : decode cX12_book 103 = .ok (.astore_n 2, 1) := by decide +kernel
theorem dX12_book_104 : decode cX12_book 104 = .ok (.aload_n 0, 1) := by decide +kernel
theorem dX12_book_105 : decode cX12_book 105 = .ok (.aload_n 0, 1) := by decide +kernel
theorem dX12_book_106 : decode cX12_book 106 = .ok (.getfield 19, 3) := by decide +kernel
theorem dX12_book_109 : decode cX12_book 109 = .ok (.putfield 312, 3) := by decide +kernel
theorem dX12_book_112 : decode cX12_book 112 = .ok (.aload_n 0, 1) := by decide +kernel
theorem dX12_book_113 : decode cX12_book 113 = .ok (.aload_n 2, 1) := by decide +kernel
theorem dX12_book_114 : decode cX12_book 114 = .ok (.ifnonnull 13, 3) := by decide +kernel
theorem dX12_book_117 : decode cX12_book 117 = .ok (.new 16, 3) := by decide +kernel
theorem dX12_book_120 : decode cX12_book 120 = .ok (.dup, 1) := by decide +kernel
theorem dX12_book_121 : decode cX12_book 121 = .ok (.invokespecial 18, 3) := by decide +kernel
theorem dX12_book_124 : decode cX12_book 124 = .ok (.goto 4, 3) := by decide +kernel
theorem dX12_book_127 : decode cX12_book 127 = .ok (.aload_n 2, 1) := by decide +kernel
theorem dX12_book_128 : decode cX12_book 128 = .ok (.putfield 19, 3) := by decide +kernel
theorem dX12_book_131 : decode cX12_book 131 = .ok (.aload_n 0, 1) := by decide +kernel
theorem dX12_book_132 : decode cX12_book 132 = .ok (.iconst 0, 1) := by decide +kernel
theorem dX12_book_133 : decode cX12_book 133 = .ok (.putfield 315, 3) := by decide +kernel
theorem dX12_book_136 : decode cX12_book 136 = .ok (.aload_n 0, 1) := by decide +kernel
theorem dX12_book_137 : decode cX12_book 137 = .ok (.iconst 0, 1) := by decide +kernel
theorem dX12_book_138 : decode cX12_book 138 = .ok (.putfield 318, 3) := by decide +kernel
theorem dX12_book_141 : decode cX12_book 141 = .ok (.iconst 0, 1) := by decide +kernel
theorem dX12_book_142 : decode cX12_book 142 = .ok (.istore_n 3, 1) := by decide +kernel
theorem dX12_book_143 : decode cX12_book 143 = .ok (.iload_n 3, 1) := by decide +kernel
theorem dX12_book_144 : decode cX12_book 144 = .ok (.iconst 3, 1) := by decide +kernel
theorem dX12_book_145 : decode cX12_book 145 = .ok (.if_icmp .ge 16, 3) := by decide +kernel
theorem dX12_book_148 : decode cX12_book 148 = .ok (.aload_n 0, 1) := by decide +kernel
theorem dX12_book_149 : decode cX12_book 149 = .ok (.getfield 41, 3) := by decide +kernel
theorem dX12_book_152 : decode cX12_book 152 = .ok (.iload_n 3, 1) := by decide +kernel
theorem dX12_book_153 : decode cX12_book 153 = .ok (.iconst 1, 1) := by decide +kernel
theorem dX12_book_154 : decode cX12_book 154 = .ok (.iastore, 1) := by decide +kernel
theorem dX12_book_155 : decode cX12_book 155 = .ok (.iinc 3 1, 3) := by decide +kernel
theorem dX12_book_158 : decode cX12_book 158 = .ok (.goto (-15), 3) := by decide +kernel
theorem dX12_book_161 : decode cX12_book 161 = .ok (.aload_n 0, 1) := by decide +kernel
theorem dX12_book_162 : decode cX12_book 162 = .ok (.aload_n 0, 1) := by decide +kernel
theorem dX12_book_163 : decode cX12_book 163 = .ok (.getfield 312, 3) := by decide +kernel
theorem dX12_book_166 : decode cX12_book 166 = .ok (.getfield 272, 3) := by decide +kernel
theorem dX12_book_169 : decode cX12_book 169 = .ok (.invokevirtual 322, 3) := by decide +kernel
theorem dX12_book_172 : decode cX12_book 172 = .ok (.ireturn, 1) := by decide +kernel
theorem dX12_fault_0 : decode cX12_fault 0 = .ok (.aload_n 0, 1) := by decide +kernel
theorem dX12_fault_1 : decode cX12_fault 1 = .ok (.iconst 0, 1) := by decide +kernel
theorem dX12_fault_2 : decode cX12_fault 2 = .ok (.putfield 147, 3) := by decide +kernel
theorem dX12_fault_5 : decode cX12_fault 5 = .ok (.aload_n 0, 1) := by decide +kernel
theorem dX12_fault_6 : decode cX12_fault 6 = .ok (.getfield 306, 3) := by decide +kernel
theorem dX12_fault_9 : decode cX12_fault 9 = .ok (.ireturn, 1) := by decide +kernel
theorem dX12_where_0 : decode cX12_where 0 = .ok (.aload_n 0, 1) := by decide +kernel
theorem dX12_where_1 : decode cX12_where 1 = .ok (.iconst 0, 1) := by decide +kernel
theorem dX12_where_2 : decode cX12_where 2 = .ok (.putfield 147, 3) := by decide +kernel
theorem dX12_where_5 : decode cX12_where 5 = .ok (.aload_n 0, 1) := by decide +kernel
theorem dX12_where_6 : decode cX12_where 6 = .ok (.getfield 9, 3) := by decide +kernel
theorem dX12_where_9 : decode cX12_where 9 = .ok (.ireturn, 1) := by decide +kernel
theorem dX12_isKind_0 : decode cX12_isKind 0 = .ok (.aload_n 0, 1) := by decide +kernel
theorem dX12_isKind_1 : decode cX12_isKind 1 = .ok (.getfield 312, 3) := by decide +kernel
theorem dX12_isKind_4 : decode cX12_isKind 4 = .ok (.ifnull 22, 3) := by decide +kernel
theorem dX12_isKind_7 : decode cX12_isKind 7 = .ok (.iload_n 1, 1) := by decide +kernel
theorem dX12_isKind_8 : decode cX12_isKind 8 = .ok (.ifCond .lt 18, 3) := by decide +kernel
theorem dX12_isKind_11 : decode cX12_isKind 11 = .ok (.iload_n 1, 1) := by decide +kernel
theorem dX12_isKind_12 : decode cX12_isKind 12 = .ok (.aload_n 0, 1) := by decide +kernel
theorem dX12_isKind_13 : decode cX12_isKind 13 = .ok (.getfield 312, 3) := by decide +kernel
theorem dX12_isKind_16 : decode cX12_isKind 16 = .ok (.getfield 272, 3) := by decide +kernel
theorem dX12_isKind_19 : decode cX12_isKind 19 = .ok (.if_icmp .ge 7, 3) := by decide +kernel
theorem dX12_isKind_22 : decode cX12_isKind 22 = .ok (.iconst 1, 1) := by decide +kernel
theorem dX12_isKind_23 : decode cX12_isKind 23 = .ok (.goto 4, 3) := by decide +kernel
theorem dX12_isKind_26 : decode cX12_isKind 26 = .ok (.iconst 0, 1) := by decide +kernel
theorem dX12_isKind_27 : decode cX12_isKind 27 = .ok (.ireturn, 1) := by decide +kernel
theorem dX12_kind_0 : decode cX12_kind 0 = .ok (.aload_n 0, 1) := by decide +kernel
theorem dX12_kind_1 : decode cX12_kind 1 = .ok (.iconst 0, 1) := by decide +kernel
theorem dX12_kind_2 : decode cX12_kind 2 = .ok (.putfield 147, 3) := by decide +kernel
theorem dX12_kind_5 : decode cX12_kind 5 = .ok (.aload_n 0, 1) := by decide +kernel
theorem dX12_kind_6 : decode cX12_kind 6 = .ok (.iload_n 1, 1) := by decide +kernel
theorem dX12_kind_7 : decode cX12_kind 7 = .ok (.invokevirtual 325, 3) := by decide +kernel
theorem dX12_kind_10 : decode cX12_kind 10 = .ok (.ifCond .ne 7, 3) := by decide +kernel
theorem dX12_kind_13 : decode cX12_kind 13 = .ok (.ldc_w 330, 3) := by decide +kernel
theorem dX12_kind_16 : decode cX12_kind 16 = .ok (.ireturn, 1) := by decide +kernel
theorem dX12_kind_17 : decode cX12_kind 17 = .ok (.iload_n 2, 1) := by decide +kernel
theorem dX12_kind_18 : decode cX12_kind 18 = .ok (.tableswitch 70 0 3 #[30, 40, 50, 60], 30) := by decide +kernel
theorem dX12_kind_48 : decode cX12_kind 48 = .ok (.aload_n 0, 1) := by decide +kernel
theorem dX12_kind_49 : decode cX12_kind 49 = .ok (.getfield 312, 3) := by decide +kernel
theorem dX12_kind_52 : decode cX12_kind 52 = .ok (.getfield 257, 3) := by decide +kernel
theorem dX12_kind_55 : decode cX12_kind 55 = .ok (.iload_n 1, 1) := by decide +kernel
theorem dX12_kind_56 : decode cX12_kind 56 = .ok (.iaload, 1) := by decide +kernel
theorem dX12_kind_57 : decode cX12_kind 57 = .ok (.ireturn, 1) := by decide +kernel
theorem dX12_kind_58 : decode cX12_kind 58 = .ok (.aload_n 0, 1) := by decide +kernel
theorem dX12_kind_59 : decode cX12_kind 59 = .ok (.getfield 312, 3) := by decide +kernel
theorem dX12_kind_62 : decode cX12_kind 62 = .ok (.getfield 252, 3) := by decide +kernel
theorem dX12_kind_65 : decode cX12_kind 65 = .ok (.iload_n 1, 1) := by decide +kernel
theorem dX12_kind_66 : decode cX12_kind 66 = .ok (.iaload, 1) := by decide +kernel
theorem dX12_kind_67 : decode cX12_kind 67 = .ok (.ireturn, 1) := by decide +kernel
theorem dX12_kind_68 : decode cX12_kind 68 = .ok (.aload_n 0, 1) := by decide +kernel
theorem dX12_kind_69 : decode cX12_kind 69 = .ok (.getfield 312, 3) := by decide +kernel
theorem dX12_kind_72 : decode cX12_kind 72 = .ok (.getfield 255, 3) := by decide +kernel
theorem dX12_kind_75 : decode cX12_kind 75 = .ok (.iload_n 1, 1) := by decide +kernel
theorem dX12_kind_76 : decode cX12_kind 76 = .ok (.iaload, 1) := by decide +kernel
theorem dX12_kind_77 : decode cX12_kind 77 = .ok (.ireturn, 1) := by decide +kernel
theorem dX12_kind_78 : decode cX12_kind 78 = .ok (.aload_n 0, 1) := by decide +kernel
theorem dX12_kind_79 : decode cX12_kind 79 = .ok (.getfield 312, 3) := by decide +kernel
theorem dX12_kind_82 : decode cX12_kind 82 = .ok (.getfield 250, 3) := by decide +kernel
theorem dX12_kind_85 : decode cX12_kind 85 = .ok (.iload_n 1, 1) := by decide +kernel
theorem dX12_kind_86 : decode cX12_kind 86 = .ok (.iaload, 1) := by decide +kernel
theorem dX12_kind_87 : decode cX12_kind 87 = .ok (.ireturn, 1) := by decide +kernel
theorem dX12_kind_88 : decode cX12_kind 88 = .ok (.ldc_w 330, 3) := by decide +kernel
theorem dX12_kind_91 : decode cX12_kind 91 = .ok (.ireturn, 1) := by decide +kernel
theorem dX12_rule_0 : decode cX12_rule 0 = .ok (.aload_n 0, 1) := by decide +kernel
theorem dX12_rule_1 : decode cX12_rule 1 = .ok (.iconst 0, 1) := by decide +kernel
theorem dX12_rule_2 : decode cX12_rule 2 = .ok (.putfield 147, 3) := by decide +kernel
theorem dX12_rule_5 : decode cX12_rule 5 = .ok (.aload_n 0, 1) := by decide +kernel
theorem dX12_rule_6 : decode cX12_rule 6 = .ok (.getfield 312, 3) := by decide +kernel
theorem dX12_rule_9 : decode cX12_rule 9 = .ok (.ifnull 28, 3) := by decide +kernel
theorem dX12_rule_12 : decode cX12_rule 12 = .ok (.iload_n 1, 1) := by decide +kernel
theorem dX12_rule_13 : decode cX12_rule 13 = .ok (.ifCond .lt 24, 3) := by decide +kernel
theorem dX12_rule_16 : decode cX12_rule 16 = .ok (.iload_n 1, 1) := by decide +kernel
theorem dX12_rule_17 : decode cX12_rule 17 = .ok (.aload_n 0, 1) := by decide +kernel
theorem dX12_rule_18 : decode cX12_rule 18 = .ok (.getfield 312, 3) := by decide +kernel
theorem dX12_rule_21 : decode cX12_rule 21 = .ok (.getfield 278, 3) := by decide +kernel
theorem dX12_rule_24 : decode cX12_rule 24 = .ok (.if_icmp .ge 13, 3) := by decide +kernel
theorem dX12_rule_27 : decode cX12_rule 27 = .ok (.iload_n 2, 1) := by decide +kernel
theorem dX12_rule_28 : decode cX12_rule 28 = .ok (.iconst 0, 1) := by decide +kernel
theorem dX12_rule_29 : decode cX12_rule 29 = .ok (.bipush 6, 2) := by decide +kernel
theorem dX12_rule_31 : decode cX12_rule 31 = .ok (.invokestatic 242, 3) := by decide +kernel
theorem dX12_rule_34 : decode cX12_rule 34 = .ok (.ifCond .ne 7, 3) := by decide +kernel
theorem dX12_rule_37 : decode cX12_rule 37 = .ok (.ldc_w 330, 3) := by decide +kernel
theorem dX12_rule_40 : decode cX12_rule 40 = .ok (.ireturn, 1) := by decide +kernel
theorem dX12_rule_41 : decode cX12_rule 41 = .ok (.iload_n 2, 1) := by decide +kernel
theorem dX12_rule_42 : decode cX12_rule 42 = .ok (.ifCond .ne 13, 3) := by decide +kernel
theorem dX12_rule_45 : decode cX12_rule 45 = .ok (.aload_n 0, 1) := by decide +kernel
theorem dX12_rule_46 : decode cX12_rule 46 = .ok (.getfield 312, 3) := by decide +kernel
theorem dX12_rule_49 : decode cX12_rule 49 = .ok (.getfield 284, 3) := by decide +kernel
theorem dX12_rule_52 : decode cX12_rule 52 = .ok (.iload_n 1, 1) := by decide +kernel
theorem dX12_rule_53 : decode cX12_rule 53 = .ok (.iaload, 1) := by decide +kernel
theorem dX12_rule_54 : decode cX12_rule 54 = .ok (.ireturn, 1) := by decide +kernel
theorem dX12_rule_55 : decode cX12_rule 55 = .ok (.iload_n 2, 1) := by decide +kernel
theorem dX12_rule_56 : decode cX12_rule 56 = .ok (.iconst 1, 1) := by decide +kernel
theorem dX12_rule_57 : decode cX12_rule 57 = .ok (.if_icmp .ne 13, 3) := by decide +kernel
theorem dX12_rule_60 : decode cX12_rule 60 = .ok (.aload_n 0, 1) := by decide +kernel
theorem dX12_rule_61 : decode cX12_rule 61 = .ok (.getfield 312, 3) := by decide +kernel
theorem dX12_rule_64 : decode cX12_rule 64 = .ok (.getfield 287, 3) := by decide +kernel
theorem dX12_rule_67 : decode cX12_rule 67 = .ok (.iload_n 1, 1) := by decide +kernel
theorem dX12_rule_68 : decode cX12_rule 68 = .ok (.iaload, 1) := by decide +kernel
theorem dX12_rule_69 : decode cX12_rule 69 = .ok (.ireturn, 1) := by decide +kernel
theorem dX12_rule_70 : decode cX12_rule 70 = .ok (.iload_n 2, 1) := by decide +kernel
theorem dX12_rule_71 : decode cX12_rule 71 = .ok (.iconst 2, 1) := by decide +kernel
theorem dX12_rule_72 : decode cX12_rule 72 = .ok (.if_icmp .ne 13, 3) := by decide +kernel
theorem dX12_rule_75 : decode cX12_rule 75 = .ok (.aload_n 0, 1) := by decide +kernel
theorem dX12_rule_76 : decode cX12_rule 76 = .ok (.getfield 312, 3) := by decide +kernel
theorem dX12_rule_79 : decode cX12_rule 79 = .ok (.getfield 290, 3) := by decide +kernel
theorem dX12_rule_82 : decode cX12_rule 82 = .ok (.iload_n 1, 1) := by decide +kernel
theorem dX12_rule_83 : decode cX12_rule 83 = .ok (.iaload, 1) := by decide +kernel
theorem dX12_rule_84 : decode cX12_rule 84 = .ok (.ireturn, 1) := by decide +kernel
theorem dX12_rule_85 : decode cX12_rule 85 = .ok (.iload_n 2, 1) := by decide +kernel
theorem dX12_rule_86 : decode cX12_rule 86 = .ok (.iconst 3, 1) := by decide +kernel
theorem dX12_rule_87 : decode cX12_rule 87 = .ok (.isub, 1) := by decide +kernel
theorem dX12_rule_88 : decode cX12_rule 88 = .ok (.aload_n 0, 1) := by decide +kernel
theorem dX12_rule_89 : decode cX12_rule 89 = .ok (.getfield 312, 3) := by decide +kernel
theorem dX12_rule_92 : decode cX12_rule 92 = .ok (.getfield 284, 3) := by decide +kernel
theorem dX12_rule_95 : decode cX12_rule 95 = .ok (.iload_n 1, 1) := by decide +kernel
theorem dX12_rule_96 : decode cX12_rule 96 = .ok (.iaload, 1) := by decide +kernel
theorem dX12_rule_97 : decode cX12_rule 97 = .ok (.if_icmp .ge 21, 3) := by decide +kernel
theorem dX12_rule_100 : decode cX12_rule 100 = .ok (.aload_n 0, 1) := by decide +kernel
theorem dX12_rule_101 : decode cX12_rule 101 = .ok (.getfield 312, 3) := by decide +kernel
theorem dX12_rule_104 : decode cX12_rule 104 = .ok (.getfield 281, 3) := by decide +kernel
theorem dX12_rule_107 : decode cX12_rule 107 = .ok (.iconst 4, 1) := by decide +kernel
theorem dX12_rule_108 : decode cX12_rule 108 = .ok (.iload_n 1, 1) := by decide +kernel
theorem dX12_rule_109 : decode cX12_rule 109 = .ok (.imul, 1) := by decide +kernel
theorem dX12_rule_110 : decode cX12_rule 110 = .ok (.iload_n 2, 1) := by decide +kernel
theorem dX12_rule_111 : decode cX12_rule 111 = .ok (.iadd, 1) := by decide +kernel
theorem dX12_rule_112 : decode cX12_rule 112 = .ok (.iconst 3, 1) := by decide +kernel
theorem dX12_rule_113 : decode cX12_rule 113 = .ok (.isub, 1) := by decide +kernel
theorem dX12_rule_114 : decode cX12_rule 114 = .ok (.iaload, 1) := by decide +kernel
theorem dX12_rule_115 : decode cX12_rule 115 = .ok (.goto 5, 3) := by decide +kernel
theorem dX12_rule_118 : decode cX12_rule 118 = .ok (.bipush (-2), 2) := by decide +kernel
theorem dX12_rule_120 : decode cX12_rule 120 = .ok (.ireturn, 1) := by decide +kernel
theorem dX12_meeting_0 : decode cX12_meeting 0 = .ok (.aload_n 0, 1) := by decide +kernel
theorem dX12_meeting_1 : decode cX12_meeting 1 = .ok (.iconst 0, 1) := by decide +kernel
theorem dX12_meeting_2 : decode cX12_meeting 2 = .ok (.putfield 147, 3) := by decide +kernel
theorem dX12_meeting_5 : decode cX12_meeting 5 = .ok (.aload_n 0, 1) := by decide +kernel
theorem dX12_meeting_6 : decode cX12_meeting 6 = .ok (.getfield 312, 3) := by decide +kernel
theorem dX12_meeting_9 : decode cX12_meeting 9 = .ok (.ifnonnull 9, 3) := by decide +kernel
theorem dX12_meeting_12 : decode cX12_meeting 12 = .ok (.aload_n 0, 1) := by decide +kernel
theorem dX12_meeting_13 : decode cX12_meeting 13 = .ok (.iconst 1, 1) := by decide +kernel
theorem dX12_meeting_14 : decode cX12_meeting 14 = .ok (.invokevirtual 303, 3) := by decide +kernel
theorem dX12_meeting_17 : decode cX12_meeting 17 = .ok (.ireturn, 1) := by decide +kernel
theorem dX12_meeting_18 : decode cX12_meeting 18 = .ok (.iconst 0, 1) := by decide +kernel
theorem dX12_meeting_19 : decode cX12_meeting 19 = .ok (.istore 7, 2) := by decide +kernel
theorem dX12_meeting_21 : decode cX12_meeting 21 = .ok (.iconst 1, 1) := by decide +kernel
theorem dX12_meeting_22 : decode cX12_meeting 22 = .ok (.istore 8, 2) := by decide +kernel
theorem dX12_meeting_24 : decode cX12_meeting 24 = .ok (.iconst 0, 1) := by decide +kernel
theorem dX12_meeting_25 : decode cX12_meeting 25 = .ok (.istore 9, 2) := by decide +kernel
theorem dX12_meeting_27 : decode cX12_meeting 27 = .ok (.iload 9, 2) := by decide +kernel
theorem dX12_meeting_29 : decode cX12_meeting 29 = .ok (.bipush 6, 2) := by decide +kernel
theorem dX12_meeting_31 : decode cX12_meeting 31 = .ok (.if_icmp .ge 108, 3) := by decide +kernel
theorem dX12_meeting_34 : decode cX12_meeting 34 = .ok (.iload 8, 2) := by decide +kernel
theorem dX12_meeting_36 : decode cX12_meeting 36 = .ok (.ifCond .eq 103, 3) := by decide +kernel
theorem dX12_meeting_39 : decode cX12_meeting 39 = .ok (.iload 9, 2) := by decide +kernel
theorem dX12_meeting_41 : decode cX12_meeting 41 = .ok (.ifCond .ne 7, 3) := by decide +kernel
theorem dX12_meeting_44 : decode cX12_meeting 44 = .ok (.iload_n 1, 1) := by decide +kernel
theorem dX12_meeting_45 : decode cX12_meeting 45 = .ok (.goto 47, 3) := by decide +kernel
theorem dX12_meeting_48 : decode cX12_meeting 48 = .ok (.iload 9, 2) := by decide +kernel
theorem dX12_meeting_50 : decode cX12_meeting 50 = .ok (.iconst 1, 1) := by decide +kernel
theorem dX12_meeting_51 : decode cX12_meeting 51 = .ok (.if_icmp .ne 7, 3) := by decide +kernel
theorem dX12_meeting_54 : decode cX12_meeting 54 = .ok (.iload_n 2, 1) := by decide +kernel
theorem dX12_meeting_55 : decode cX12_meeting 55 = .ok (.goto 37, 3) := by decide +kernel
theorem dX12_meeting_58 : decode cX12_meeting 58 = .ok (.iload 9, 2) := by decide +kernel
theorem dX12_meeting_60 : decode cX12_meeting 60 = .ok (.iconst 2, 1) := by decide +kernel
theorem dX12_meeting_61 : decode cX12_meeting 61 = .ok (.if_icmp .ne 7, 3) := by decide +kernel
theorem dX12_meeting_64 : decode cX12_meeting 64 = .ok (.iload_n 3, 1) := by decide +kernel
theorem dX12_meeting_65 : decode cX12_meeting 65 = .ok (.goto 27, 3) := by decide +kernel
theorem dX12_meeting_68 : decode cX12_meeting 68 = .ok (.iload 9, 2) := by decide +kernel
theorem dX12_meeting_70 : decode cX12_meeting 70 = .ok (.iconst 3, 1) := by decide +kernel
theorem dX12_meeting_71 : decode cX12_meeting 71 = .ok (.if_icmp .ne 8, 3) := by decide +kernel
theorem dX12_meeting_74 : decode cX12_meeting 74 = .ok (.iload 4, 2) := by decide +kernel
theorem dX12_meeting_76 : decode cX12_meeting 76 = .ok (.goto 16, 3) := by decide +kernel
theorem dX12_meeting_79 : decode cX12_meeting 79 = .ok (.iload 9, 2) := by decide +kernel
theorem dX12_meeting_81 : decode cX12_meeting 81 = .ok (.iconst 4, 1) := by decide +kernel
theorem dX12_meeting_82 : decode cX12_meeting 82 = .ok (.if_icmp .ne 8, 3) := by decide +kernel
theorem dX12_meeting_85 : decode cX12_meeting 85 = .ok (.iload 5, 2) := by decide +kernel
theorem dX12_meeting_87 : decode cX12_meeting 87 = .ok (.goto 5, 3) := by decide +kernel
theorem dX12_meeting_90 : decode cX12_meeting 90 = .ok (.iload 6, 2) := by decide +kernel
theorem dX12_meeting_92 : decode cX12_meeting 92 = .ok (.istore 10, 2) := by decide +kernel
theorem dX12_meeting_94 : decode cX12_meeting 94 = .ok (.iload 10, 2) := by decide +kernel
theorem dX12_meeting_96 : decode cX12_meeting 96 = .ok (.iconst (-1), 1) := by decide +kernel
theorem dX12_meeting_97 : decode cX12_meeting 97 = .ok (.if_icmp .eq 7, 3) := by decide +kernel
theorem dX12_meeting_100 : decode cX12_meeting 100 = .ok (.iconst 1, 1) := by decide +kernel
theorem dX12_meeting_101 : decode cX12_meeting 101 = .ok (.goto 4, 3) := by decide +kernel
theorem dX12_meeting_104 : decode cX12_meeting 104 = .ok (.iconst 0, 1) := by decide +kernel
theorem dX12_meeting_105 : decode cX12_meeting 105 = .ok (.istore 8, 2) := by decide +kernel
theorem dX12_meeting_107 : decode cX12_meeting 107 = .ok (.iload 8, 2) := by decide +kernel
theorem dX12_meeting_109 : decode cX12_meeting 109 = .ok (.ifCond .ne 6, 3) := by decide +kernel
theorem dX12_meeting_112 : decode cX12_meeting 112 = .ok (.goto 21, 3) := by decide +kernel
theorem dX12_meeting_115 : decode cX12_meeting 115 = .ok (.aload_n 0, 1) := by decide +kernel
theorem dX12_meeting_116 : decode cX12_meeting 116 = .ok (.iload 10, 2) := by decide +kernel
theorem dX12_meeting_118 : decode cX12_meeting 118 = .ok (.invokevirtual 325, 3) := by decide +kernel
theorem dX12_meeting_121 : decode cX12_meeting 121 = .ok (.ifCond .ne 9, 3) := by decide +kernel
theorem dX12_meeting_124 : decode cX12_meeting 124 = .ok (.aload_n 0, 1) := by decide +kernel
theorem dX12_meeting_125 : decode cX12_meeting 125 = .ok (.iconst 1, 1) := by decide +kernel
theorem dX12_meeting_126 : decode cX12_meeting 126 = .ok (.invokevirtual 303, 3) := by decide +kernel
theorem dX12_meeting_129 : decode cX12_meeting 129 = .ok (.ireturn, 1) := by decide +kernel
theorem dX12_meeting_130 : decode cX12_meeting 130 = .ok (.iinc 7 1, 3) := by decide +kernel
theorem dX12_meeting_133 : decode cX12_meeting 133 = .ok (.iinc 9 1, 3) := by decide +kernel
theorem dX12_meeting_136 : decode cX12_meeting 136 = .ok (.goto (-109), 3) := by decide +kernel
theorem dX12_meeting_139 : decode cX12_meeting 139 = .ok (.iload 7, 2) := by decide +kernel
theorem dX12_meeting_141 : decode cX12_meeting 141 = .ok (.iconst 2, 1) := by decide +kernel
theorem dX12_meeting_142 : decode cX12_meeting 142 = .ok (.if_icmp .ge 9, 3) := by decide +kernel
theorem dX12_meeting_145 : decode cX12_meeting 145 = .ok (.aload_n 0, 1) := by decide +kernel
theorem dX12_meeting_146 : decode cX12_meeting 146 = .ok (.iconst 2, 1) := by decide +kernel
theorem dX12_meeting_147 : decode cX12_meeting 147 = .ok (.invokevirtual 303, 3) := by decide +kernel
theorem dX12_meeting_150 : decode cX12_meeting 150 = .ok (.ireturn, 1) := by decide +kernel
theorem dX12_meeting_151 : decode cX12_meeting 151 = .ok (.aload_n 0, 1) := by decide +kernel
theorem dX12_meeting_152 : decode cX12_meeting 152 = .ok (.iload 7, 2) := by decide +kernel
theorem dX12_meeting_154 : decode cX12_meeting 154 = .ok (.putfield 315, 3) := by decide +kernel
theorem dX12_meeting_157 : decode cX12_meeting 157 = .ok (.aload_n 0, 1) := by decide +kernel
theorem dX12_meeting_158 : decode cX12_meeting 158 = .ok (.getfield 34, 3) := by decide +kernel
theorem dX12_meeting_161 : decode cX12_meeting 161 = .ok (.iconst 0, 1) := by decide +kernel
theorem dX12_meeting_162 : decode cX12_meeting 162 = .ok (.iload_n 1, 1) := by decide +kernel
theorem dX12_meeting_163 : decode cX12_meeting 163 = .ok (.iastore, 1) := by decide +kernel
theorem dX12_meeting_164 : decode cX12_meeting 164 = .ok (.aload_n 0, 1) := by decide +kernel
theorem dX12_meeting_165 : decode cX12_meeting 165 = .ok (.getfield 34, 3) := by decide +kernel
theorem dX12_meeting_168 : decode cX12_meeting 168 = .ok (.iconst 1, 1) := by decide +kernel
theorem dX12_meeting_169 : decode cX12_meeting 169 = .ok (.iload_n 2, 1) := by decide +kernel
theorem dX12_meeting_170 : decode cX12_meeting 170 = .ok (.iastore, 1) := by decide +kernel
theorem dX12_meeting_171 : decode cX12_meeting 171 = .ok (.aload_n 0, 1) := by decide +kernel
theorem dX12_meeting_172 : decode cX12_meeting 172 = .ok (.getfield 34, 3) := by decide +kernel
theorem dX12_meeting_175 : decode cX12_meeting 175 = .ok (.iconst 2, 1) := by decide +kernel
theorem dX12_meeting_176 : decode cX12_meeting 176 = .ok (.iload_n 3, 1) := by decide +kernel
theorem dX12_meeting_177 : decode cX12_meeting 177 = .ok (.iastore, 1) := by decide +kernel
theorem dX12_meeting_178 : decode cX12_meeting 178 = .ok (.aload_n 0, 1) := by decide +kernel
theorem dX12_meeting_179 : decode cX12_meeting 179 = .ok (.getfield 34, 3) := by decide +kernel
theorem dX12_meeting_182 : decode cX12_meeting 182 = .ok (.iconst 3, 1) := by decide +kernel
theorem dX12_meeting_183 : decode cX12_meeting 183 = .ok (.iload 4, 2) := by decide +kernel
theorem dX12_meeting_185 : decode cX12_meeting 185 = .ok (.iastore, 1) := by decide +kernel
theorem dX12_meeting_186 : decode cX12_meeting 186 = .ok (.aload_n 0, 1) := by decide +kernel
theorem dX12_meeting_187 : decode cX12_meeting 187 = .ok (.getfield 34, 3) := by decide +kernel
theorem dX12_meeting_190 : decode cX12_meeting 190 = .ok (.iconst 4, 1) := by decide +kernel
theorem dX12_meeting_191 : decode cX12_meeting 191 = .ok (.iload 5, 2) := by decide +kernel
theorem dX12_meeting_193 : decode cX12_meeting 193 = .ok (.iastore, 1) := by decide +kernel
theorem dX12_meeting_194 : decode cX12_meeting 194 = .ok (.aload_n 0, 1) := by decide +kernel
theorem dX12_meeting_195 : decode cX12_meeting 195 = .ok (.getfield 34, 3) := by decide +kernel
theorem dX12_meeting_198 : decode cX12_meeting 198 = .ok (.iconst 5, 1) := by decide +kernel
theorem dX12_meeting_199 : decode cX12_meeting 199 = .ok (.iload 6, 2) := by decide +kernel
theorem dX12_meeting_201 : decode cX12_meeting 201 = .ok (.iastore, 1) := by decide +kernel
theorem dX12_meeting_202 : decode cX12_meeting 202 = .ok (.iconst 0, 1) := by decide +kernel
theorem dX12_meeting_203 : decode cX12_meeting 203 = .ok (.istore 9, 2) := by decide +kernel
theorem dX12_meeting_205 : decode cX12_meeting 205 = .ok (.iload 9, 2) := by decide +kernel
theorem dX12_meeting_207 : decode cX12_meeting 207 = .ok (.bipush 6, 2) := by decide +kernel
theorem dX12_meeting_209 : decode cX12_meeting 209 = .ok (.if_icmp .ge 17, 3) := by decide +kernel
theorem dX12_meeting_212 : decode cX12_meeting 212 = .ok (.aload_n 0, 1) := by decide +kernel
theorem dX12_meeting_213 : decode cX12_meeting 213 = .ok (.getfield 38, 3) := by decide +kernel
theorem dX12_meeting_216 : decode cX12_meeting 216 = .ok (.iload 9, 2) := by decide +kernel
theorem dX12_meeting_218 : decode cX12_meeting 218 = .ok (.iconst 0, 1) := by decide +kernel
theorem dX12_meeting_219 : decode cX12_meeting 219 = .ok (.iastore, 1) := by decide +kernel
theorem dX12_meeting_220 : decode cX12_meeting 220 = .ok (.iinc 9 1, 3) := by decide +kernel
theorem dX12_meeting_223 : decode cX12_meeting 223 = .ok (.goto (-18), 3) := by decide +kernel
theorem dX12_meeting_226 : decode cX12_meeting 226 = .ok (.aload_n 0, 1) := by decide +kernel
theorem dX12_meeting_227 : decode cX12_meeting 227 = .ok (.iconst 0, 1) := by decide +kernel
theorem dX12_meeting_228 : decode cX12_meeting 228 = .ok (.putfield 318, 3) := by decide +kernel
theorem dX12_meeting_231 : decode cX12_meeting 231 = .ok (.aload_n 0, 1) := by decide +kernel
theorem dX12_meeting_232 : decode cX12_meeting 232 = .ok (.iload 7, 2) := by decide +kernel
theorem dX12_meeting_234 : decode cX12_meeting 234 = .ok (.invokevirtual 322, 3) := by decide +kernel
theorem dX12_meeting_237 : decode cX12_meeting 237 = .ok (.ireturn, 1) := by decide +kernel
theorem dX12_lays_0 : decode cX12_lays 0 = .ok (.aload_n 0, 1) := by decide +kernel
theorem dX12_lays_1 : decode cX12_lays 1 = .ok (.iconst 0, 1) := by decide +kernel
theorem dX12_lays_2 : decode cX12_lays 2 = .ok (.putfield 331, 3) := by decide +kernel
theorem dX12_lays_5 : decode cX12_lays 5 = .ok (.iconst 0, 1) := by decide +kernel
theorem dX12_lays_6 : decode cX12_lays 6 = .ok (.istore 4, 2) := by decide +kernel
theorem dX12_lays_8 : decode cX12_lays 8 = .ok (.iload 4, 2) := by decide +kernel
theorem dX12_lays_10 : decode cX12_lays 10 = .ok (.aload_n 1, 1) := by decide +kernel
theorem dX12_lays_11 : decode cX12_lays 11 = .ok (.getfield 333, 3) := by decide +kernel
theorem dX12_lays_14 : decode cX12_lays 14 = .ok (.if_icmp .ge 22, 3) := by decide +kernel
theorem dX12_lays_17 : decode cX12_lays 17 = .ok (.aload_n 0, 1) := by decide +kernel
theorem dX12_lays_18 : decode cX12_lays 18 = .ok (.aload_n 1, 1) := by decide +kernel
theorem dX12_lays_19 : decode cX12_lays 19 = .ok (.getfield 334, 3) := by decide +kernel
theorem dX12_lays_22 : decode cX12_lays 22 = .ok (.iload 4, 2) := by decide +kernel
theorem dX12_lays_24 : decode cX12_lays 24 = .ok (.iaload, 1) := by decide +kernel
theorem dX12_lays_25 : decode cX12_lays 25 = .ok (.iload 4, 2) := by decide +kernel
theorem dX12_lays_27 : decode cX12_lays 27 = .ok (.invokevirtual 335, 3) := by decide +kernel
theorem dX12_lays_30 : decode cX12_lays 30 = .ok (.iinc 4 1, 3) := by decide +kernel
theorem dX12_lays_33 : decode cX12_lays 33 = .ok (.goto (-25), 3) := by decide +kernel
theorem dX12_lays_36 : decode cX12_lays 36 = .ok (.iconst 0, 1) := by decide +kernel
theorem dX12_lays_37 : decode cX12_lays 37 = .ok (.istore 4, 2) := by decide +kernel
theorem dX12_lays_39 : decode cX12_lays 39 = .ok (.iload 4, 2) := by decide +kernel
theorem dX12_lays_41 : decode cX12_lays 41 = .ok (.aload_n 1, 1) := by decide +kernel
theorem dX12_lays_42 : decode cX12_lays 42 = .ok (.getfield 339, 3) := by decide +kernel
theorem dX12_lays_45 : decode cX12_lays 45 = .ok (.if_icmp .ge 100, 3) := by decide +kernel
theorem dX12_lays_48 : decode cX12_lays 48 = .ok (.aload_n 2, 1) := by decide +kernel
theorem dX12_lays_49 : decode cX12_lays 49 = .ok (.iload_n 3, 1) := by decide +kernel
theorem dX12_lays_50 : decode cX12_lays 50 = .ok (.iload 4, 2) := by decide +kernel
theorem dX12_lays_52 : decode cX12_lays 52 = .ok (.iadd, 1) := by decide +kernel
theorem dX12_lays_53 : decode cX12_lays 53 = .ok (.iaload, 1) := by decide +kernel
theorem dX12_lays_54 : decode cX12_lays 54 = .ok (.istore 5, 2) := by decide +kernel
theorem dX12_lays_56 : decode cX12_lays 56 = .ok (.aload_n 0, 1) := by decide +kernel
theorem dX12_lays_57 : decode cX12_lays 57 = .ok (.getfield 331, 3) := by decide +kernel
theorem dX12_lays_60 : decode cX12_lays 60 = .ok (.aload_n 0, 1) := by decide +kernel
theorem dX12_lays_61 : decode cX12_lays 61 = .ok (.getfield 312, 3) := by decide +kernel
theorem dX12_lays_64 : decode cX12_lays 64 = .ok (.getfield 284, 3) := by decide +kernel
theorem dX12_lays_67 : decode cX12_lays 67 = .ok (.iload 5, 2) := by decide +kernel
theorem dX12_lays_69 : decode cX12_lays 69 = .ok (.iaload, 1) := by decide +kernel
theorem dX12_lays_70 : decode cX12_lays 70 = .ok (.iadd, 1) := by decide +kernel
theorem dX12_lays_71 : decode cX12_lays 71 = .ok (.bipush 12, 2) := by decide +kernel
theorem dX12_lays_73 : decode cX12_lays 73 = .ok (.if_icmp .le 5, 3) := by decide +kernel
theorem dX12_lays_76 : decode cX12_lays 76 = .ok (.iconst 0, 1) := by decide +kernel
theorem dX12_lays_77 : decode cX12_lays 77 = .ok (.ireturn, 1) := by decide +kernel
theorem dX12_lays_78 : decode cX12_lays 78 = .ok (.aload_n 0, 1) := by decide +kernel
theorem dX12_lays_79 : decode cX12_lays 79 = .ok (.getfield 66, 3) := by decide +kernel
theorem dX12_lays_82 : decode cX12_lays 82 = .ok (.iload 4, 2) := by decide +kernel
theorem dX12_lays_84 : decode cX12_lays 84 = .ok (.aload_n 0, 1) := by decide +kernel
theorem dX12_lays_85 : decode cX12_lays 85 = .ok (.getfield 331, 3) := by decide +kernel
theorem dX12_lays_88 : decode cX12_lays 88 = .ok (.iastore, 1) := by decide +kernel
theorem dX12_lays_89 : decode cX12_lays 89 = .ok (.iconst 0, 1) := by decide +kernel
theorem dX12_lays_90 : decode cX12_lays 90 = .ok (.istore 6, 2) := by decide +kernel
theorem dX12_lays_92 : decode cX12_lays 92 = .ok (.iload 6, 2) := by decide +kernel
theorem dX12_lays_94 : decode cX12_lays 94 = .ok (.aload_n 0, 1) := by decide +kernel
theorem dX12_lays_95 : decode cX12_lays 95 = .ok (.getfield 312, 3) := by decide +kernel
theorem dX12_lays_98 : decode cX12_lays 98 = .ok (.getfield 284, 3) := by decide +kernel
theorem dX12_lays_101 : decode cX12_lays 101 = .ok (.iload 5, 2) := by decide +kernel
theorem dX12_lays_103 : decode cX12_lays 103 = .ok (.iaload, 1) := by decide +kernel
theorem dX12_lays_104 : decode cX12_lays 104 = .ok (.if_icmp .ge 35, 3) := by decide +kernel
theorem dX12_lays_107 : decode cX12_lays 107 = .ok (.aload_n 0, 1) := by decide +kernel
theorem dX12_lays_108 : decode cX12_lays 108 = .ok (.aload_n 0, 1) := by decide +kernel
theorem dX12_lays_109 : decode cX12_lays 109 = .ok (.getfield 312, 3) := by decide +kernel
theorem dX12_lays_112 : decode cX12_lays 112 = .ok (.getfield 281, 3) := by decide +kernel
theorem dX12_lays_115 : decode cX12_lays 115 = .ok (.iconst 4, 1) := by decide +kernel
theorem dX12_lays_116 : decode cX12_lays 116 = .ok (.iload 5, 2) := by decide +kernel
theorem dX12_lays_118 : decode cX12_lays 118 = .ok (.imul, 1) := by decide +kernel
theorem dX12_lays_119 : decode cX12_lays 119 = .ok (.iload 6, 2) := by decide +kernel
theorem dX12_lays_121 : decode cX12_lays 121 = .ok (.iadd, 1) := by decide +kernel
theorem dX12_lays_122 : decode cX12_lays 122 = .ok (.iaload, 1) := by decide +kernel
theorem dX12_lays_123 : decode cX12_lays 123 = .ok (.aload_n 1, 1) := by decide +kernel
theorem dX12_lays_124 : decode cX12_lays 124 = .ok (.getfield 333, 3) := by decide +kernel
theorem dX12_lays_127 : decode cX12_lays 127 = .ok (.iload 4, 2) := by decide +kernel
theorem dX12_lays_129 : decode cX12_lays 129 = .ok (.iadd, 1) := by decide +kernel
theorem dX12_lays_130 : decode cX12_lays 130 = .ok (.invokevirtual 335, 3) := by decide +kernel
theorem dX12_lays_133 : decode cX12_lays 133 = .ok (.iinc 6 1, 3) := by decide +kernel
theorem dX12_lays_136 : decode cX12_lays 136 = .ok (.goto (-44), 3) := by decide +kernel
theorem dX12_lays_139 : decode cX12_lays 139 = .ok (.iinc 4 1, 3) := by decide +kernel
theorem dX12_lays_142 : decode cX12_lays 142 = .ok (.goto (-103), 3) := by decide +kernel
theorem dX12_lays_145 : decode cX12_lays 145 = .ok (.aload_n 0, 1) := by decide +kernel
theorem dX12_lays_146 : decode cX12_lays 146 = .ok (.aload_n 1, 1) := by decide +kernel
theorem dX12_lays_147 : decode cX12_lays 147 = .ok (.getfield 333, 3) := by decide +kernel
theorem dX12_lays_150 : decode cX12_lays 150 = .ok (.aload_n 1, 1) := by decide +kernel
theorem dX12_lays_151 : decode cX12_lays 151 = .ok (.getfield 339, 3) := by decide +kernel
theorem dX12_lays_154 : decode cX12_lays 154 = .ok (.iadd, 1) := by decide +kernel
theorem dX12_lays_155 : decode cX12_lays 155 = .ok (.putfield 342, 3) := by decide +kernel
theorem dX12_lays_158 : decode cX12_lays 158 = .ok (.aload_n 0, 1) := by decide +kernel
theorem dX12_lays_159 : decode cX12_lays 159 = .ok (.getfield 331, 3) := by decide +kernel
theorem dX12_lays_162 : decode cX12_lays 162 = .ok (.iconst 2, 1) := by decide +kernel
theorem dX12_lays_163 : decode cX12_lays 163 = .ok (.irem, 1) := by decide +kernel
theorem dX12_lays_164 : decode cX12_lays 164 = .ok (.ifCond .ne 7, 3) := by decide +kernel
theorem dX12_lays_167 : decode cX12_lays 167 = .ok (.iconst 1, 1) := by decide +kernel
theorem dX12_lays_168 : decode cX12_lays 168 = .ok (.goto 4, 3) := by decide +kernel
theorem dX12_lays_171 : decode cX12_lays 171 = .ok (.iconst 0, 1) := by decide +kernel
theorem dX12_lays_172 : decode cX12_lays 172 = .ok (.ireturn, 1) := by decide +kernel
theorem dX12_puts_0 : decode cX12_puts 0 = .ok (.aload_n 0, 1) := by decide +kernel
theorem dX12_puts_1 : decode cX12_puts 1 = .ok (.getfield 57, 3) := by decide +kernel
theorem dX12_puts_4 : decode cX12_puts 4 = .ok (.aload_n 0, 1) := by decide +kernel
theorem dX12_puts_5 : decode cX12_puts 5 = .ok (.getfield 331, 3) := by decide +kernel
theorem dX12_puts_8 : decode cX12_puts 8 = .ok (.iload_n 1, 1) := by decide +kernel
theorem dX12_puts_9 : decode cX12_puts 9 = .ok (.iastore, 1) := by decide +kernel
theorem dX12_puts_10 : decode cX12_puts 10 = .ok (.aload_n 0, 1) := by decide +kernel
theorem dX12_puts_11 : decode cX12_puts 11 = .ok (.getfield 60, 3) := by decide +kernel
theorem dX12_puts_14 : decode cX12_puts 14 = .ok (.aload_n 0, 1) := by decide +kernel
theorem dX12_puts_15 : decode cX12_puts 15 = .ok (.getfield 331, 3) := by decide +kernel
theorem dX12_puts_18 : decode cX12_puts 18 = .ok (.iload_n 2, 1) := by decide +kernel
theorem dX12_puts_19 : decode cX12_puts 19 = .ok (.iastore, 1) := by decide +kernel
theorem dX12_puts_20 : decode cX12_puts 20 = .ok (.aload_n 0, 1) := by decide +kernel
theorem dX12_puts_21 : decode cX12_puts 21 = .ok (.dup, 1) := by decide +kernel
theorem dX12_puts_22 : decode cX12_puts 22 = .ok (.getfield 331, 3) := by decide +kernel
theorem dX12_puts_25 : decode cX12_puts 25 = .ok (.iconst 1, 1) := by decide +kernel
theorem dX12_puts_26 : decode cX12_puts 26 = .ok (.iadd, 1) := by decide +kernel
theorem dX12_puts_27 : decode cX12_puts 27 = .ok (.putfield 331, 3) := by decide +kernel
theorem dX12_puts_30 : decode cX12_puts 30 = .ok (.return_, 1) := by decide +kernel
theorem dX12_takes_0 : decode cX12_takes 0 = .ok (.iconst 0, 1) := by decide +kernel
theorem dX12_takes_1 : decode cX12_takes 1 = .ok (.istore_n 3, 1) := by decide +kernel
theorem dX12_takes_2 : decode cX12_takes 2 = .ok (.iload_n 3, 1) := by decide +kernel
theorem dX12_takes_3 : decode cX12_takes 3 = .ok (.aload_n 0, 1) := by decide +kernel
theorem dX12_takes_4 : decode cX12_takes 4 = .ok (.getfield 331, 3) := by decide +kernel
theorem dX12_takes_7 : decode cX12_takes 7 = .ok (.if_icmp .ge 28, 3) := by decide +kernel
theorem dX12_takes_10 : decode cX12_takes 10 = .ok (.aload_n 0, 1) := by decide +kernel
theorem dX12_takes_11 : decode cX12_takes 11 = .ok (.getfield 63, 3) := by decide +kernel
theorem dX12_takes_14 : decode cX12_takes 14 = .ok (.iload_n 3, 1) := by decide +kernel
theorem dX12_takes_15 : decode cX12_takes 15 = .ok (.lload_n 1, 1) := by decide +kernel
theorem dX12_takes_16 : decode cX12_takes 16 = .ok (.iconst 4, 1) := by decide +kernel
theorem dX12_takes_17 : decode cX12_takes 17 = .ok (.bipush 11, 2) := by decide +kernel
theorem dX12_takes_19 : decode cX12_takes 19 = .ok (.iload_n 3, 1) := by decide +kernel
theorem dX12_takes_20 : decode cX12_takes 20 = .ok (.isub, 1) := by decide +kernel
theorem dX12_takes_21 : decode cX12_takes 21 = .ok (.imul, 1) := by decide +kernel
theorem dX12_takes_22 : decode cX12_takes 22 = .ok (.lshr, 1) := by decide +kernel
theorem dX12_takes_23 : decode cX12_takes 23 = .ok (.ldc2_w 345, 3) := by decide +kernel
theorem dX12_takes_26 : decode cX12_takes 26 = .ok (.land, 1) := by decide +kernel
theorem dX12_takes_27 : decode cX12_takes 27 = .ok (.l2i, 1) := by decide +kernel
theorem dX12_takes_28 : decode cX12_takes 28 = .ok (.iastore, 1) := by decide +kernel
theorem dX12_takes_29 : decode cX12_takes 29 = .ok (.iinc 3 1, 3) := by decide +kernel
theorem dX12_takes_32 : decode cX12_takes 32 = .ok (.goto (-30), 3) := by decide +kernel
theorem dX12_takes_35 : decode cX12_takes 35 = .ok (.return_, 1) := by decide +kernel
theorem dX12_rowHere_0 : decode cX12_rowHere 0 = .ok (.lconst 0, 1) := by decide +kernel
theorem dX12_rowHere_1 : decode cX12_rowHere 1 = .ok (.lstore_n 1, 1) := by decide +kernel
theorem dX12_rowHere_2 : decode cX12_rowHere 2 = .ok (.iconst 0, 1) := by decide +kernel
theorem dX12_rowHere_3 : decode cX12_rowHere 3 = .ok (.istore_n 3, 1) := by decide +kernel
theorem dX12_rowHere_4 : decode cX12_rowHere 4 = .ok (.iload_n 3, 1) := by decide +kernel
theorem dX12_rowHere_5 : decode cX12_rowHere 5 = .ok (.aload_n 0, 1) := by decide +kernel
theorem dX12_rowHere_6 : decode cX12_rowHere 6 = .ok (.getfield 331, 3) := by decide +kernel
theorem dX12_rowHere_9 : decode cX12_rowHere 9 = .ok (.if_icmp .ge 26, 3) := by decide +kernel
theorem dX12_rowHere_12 : decode cX12_rowHere 12 = .ok (.lload_n 1, 1) := by decide +kernel
theorem dX12_rowHere_13 : decode cX12_rowHere 13 = .ok (.aload_n 0, 1) := by decide +kernel
theorem dX12_rowHere_14 : decode cX12_rowHere 14 = .ok (.getfield 63, 3) := by decide +kernel
theorem dX12_rowHere_17 : decode cX12_rowHere 17 = .ok (.iload_n 3, 1) := by decide +kernel
theorem dX12_rowHere_18 : decode cX12_rowHere 18 = .ok (.iaload, 1) := by decide +kernel
theorem dX12_rowHere_19 : decode cX12_rowHere 19 = .ok (.i2l, 1) := by decide +kernel
theorem dX12_rowHere_20 : decode cX12_rowHere 20 = .ok (.iconst 4, 1) := by decide +kernel
theorem dX12_rowHere_21 : decode cX12_rowHere 21 = .ok (.bipush 11, 2) := by decide +kernel
theorem dX12_rowHere_23 : decode cX12_rowHere 23 = .ok (.iload_n 3, 1) := by decide +kernel
theorem dX12_rowHere_24 : decode cX12_rowHere 24 = .ok (.isub, 1) := by decide +kernel
theorem dX12_rowHere_25 : decode cX12_rowHere 25 = .ok (.imul, 1) := by decide +kernel
theorem dX12_rowHere_26 : decode cX12_rowHere 26 = .ok (.lshl, 1) := by decide +kernel
theorem dX12_rowHere_27 : decode cX12_rowHere 27 = .ok (.lor, 1) := by decide +kernel
theorem dX12_rowHere_28 : decode cX12_rowHere 28 = .ok (.lstore_n 1, 1) := by decide +kernel
theorem dX12_rowHere_29 : decode cX12_rowHere 29 = .ok (.iinc 3 1, 3) := by decide +kernel
theorem dX12_rowHere_32 : decode cX12_rowHere 32 = .ok (.goto (-28), 3) := by decide +kernel
theorem dX12_rowHere_35 : decode cX12_rowHere 35 = .ok (.lload_n 1, 1) := by decide +kernel
theorem dX12_rowHere_36 : decode cX12_rowHere 36 = .ok (.lreturn, 1) := by decide +kernel
theorem dX12_sets_0 : decode cX12_sets 0 = .ok (.iconst 0, 1) := by decide +kernel
theorem dX12_sets_1 : decode cX12_sets 1 = .ok (.istore_n 2, 1) := by decide +kernel
theorem dX12_sets_2 : decode cX12_sets 2 = .ok (.iload_n 2, 1) := by decide +kernel
theorem dX12_sets_3 : decode cX12_sets 3 = .ok (.aload_n 0, 1) := by decide +kernel
theorem dX12_sets_4 : decode cX12_sets 4 = .ok (.getfield 342, 3) := by decide +kernel
theorem dX12_sets_7 : decode cX12_sets 7 = .ok (.if_icmp .ge 16, 3) := by decide +kernel
theorem dX12_sets_10 : decode cX12_sets 10 = .ok (.aload_n 0, 1) := by decide +kernel
theorem dX12_sets_11 : decode cX12_sets 11 = .ok (.getfield 69, 3) := by decide +kernel
theorem dX12_sets_14 : decode cX12_sets 14 = .ok (.iload_n 2, 1) := by decide +kernel
theorem dX12_sets_15 : decode cX12_sets 15 = .ok (.iload_n 2, 1) := by decide +kernel
theorem dX12_sets_16 : decode cX12_sets 16 = .ok (.iastore, 1) := by decide +kernel
theorem dX12_sets_17 : decode cX12_sets 17 = .ok (.iinc 2 1, 3) := by decide +kernel
theorem dX12_sets_20 : decode cX12_sets 20 = .ok (.goto (-18), 3) := by decide +kernel
theorem dX12_sets_23 : decode cX12_sets 23 = .ok (.iconst 1, 1) := by decide +kernel
theorem dX12_sets_24 : decode cX12_sets 24 = .ok (.istore_n 2, 1) := by decide +kernel
theorem dX12_sets_25 : decode cX12_sets 25 = .ok (.iload_n 2, 1) := by decide +kernel
theorem dX12_sets_26 : decode cX12_sets 26 = .ok (.ifCond .eq 126, 3) := by decide +kernel
theorem dX12_sets_29 : decode cX12_sets 29 = .ok (.iconst 0, 1) := by decide +kernel
theorem dX12_sets_30 : decode cX12_sets 30 = .ok (.istore_n 2, 1) := by decide +kernel
theorem dX12_sets_31 : decode cX12_sets 31 = .ok (.iconst 0, 1) := by decide +kernel
theorem dX12_sets_32 : decode cX12_sets 32 = .ok (.istore_n 3, 1) := by decide +kernel
theorem dX12_sets_33 : decode cX12_sets 33 = .ok (.iload_n 3, 1) := by decide +kernel
theorem dX12_sets_34 : decode cX12_sets 34 = .ok (.aload_n 0, 1) := by decide +kernel
theorem dX12_sets_35 : decode cX12_sets 35 = .ok (.getfield 331, 3) := by decide +kernel
theorem dX12_sets_38 : decode cX12_sets 38 = .ok (.if_icmp .ge 111, 3) := by decide +kernel
theorem dX12_sets_41 : decode cX12_sets 41 = .ok (.iload_n 3, 1) := by decide +kernel
theorem dX12_sets_42 : decode cX12_sets 42 = .ok (.iload_n 1, 1) := by decide +kernel
theorem dX12_sets_43 : decode cX12_sets 43 = .ok (.if_icmp .eq 100, 3) := by decide +kernel
theorem dX12_sets_46 : decode cX12_sets 46 = .ok (.aload_n 0, 1) := by decide +kernel
theorem dX12_sets_47 : decode cX12_sets 47 = .ok (.getfield 63, 3) := by decide +kernel
theorem dX12_sets_50 : decode cX12_sets 50 = .ok (.iload_n 3, 1) := by decide +kernel
theorem dX12_sets_51 : decode cX12_sets 51 = .ok (.iaload, 1) := by decide +kernel
theorem dX12_sets_52 : decode cX12_sets 52 = .ok (.iload_n 1, 1) := by decide +kernel
theorem dX12_sets_53 : decode cX12_sets 53 = .ok (.if_icmp .ne 6, 3) := by decide +kernel
theorem dX12_sets_56 : decode cX12_sets 56 = .ok (.goto 87, 3) := by decide +kernel
theorem dX12_sets_59 : decode cX12_sets 59 = .ok (.aload_n 0, 1) := by decide +kernel
theorem dX12_sets_60 : decode cX12_sets 60 = .ok (.getfield 69, 3) := by decide +kernel
theorem dX12_sets_63 : decode cX12_sets 63 = .ok (.aload_n 0, 1) := by decide +kernel
theorem dX12_sets_64 : decode cX12_sets 64 = .ok (.getfield 60, 3) := by decide +kernel
theorem dX12_sets_67 : decode cX12_sets 67 = .ok (.iload_n 3, 1) := by decide +kernel
theorem dX12_sets_68 : decode cX12_sets 68 = .ok (.iaload, 1) := by decide +kernel
theorem dX12_sets_69 : decode cX12_sets 69 = .ok (.iaload, 1) := by decide +kernel
theorem dX12_sets_70 : decode cX12_sets 70 = .ok (.istore 4, 2) := by decide +kernel
theorem dX12_sets_72 : decode cX12_sets 72 = .ok (.aload_n 0, 1) := by decide +kernel
theorem dX12_sets_73 : decode cX12_sets 73 = .ok (.getfield 69, 3) := by decide +kernel
theorem dX12_sets_76 : decode cX12_sets 76 = .ok (.aload_n 0, 1) := by decide +kernel
theorem dX12_sets_77 : decode cX12_sets 77 = .ok (.getfield 60, 3) := by decide +kernel
theorem dX12_sets_80 : decode cX12_sets 80 = .ok (.aload_n 0, 1) := by decide +kernel
theorem dX12_sets_81 : decode cX12_sets 81 = .ok (.getfield 63, 3) := by decide +kernel
theorem dX12_sets_84 : decode cX12_sets 84 = .ok (.iload_n 3, 1) := by decide +kernel
theorem dX12_sets_85 : decode cX12_sets 85 = .ok (.iaload, 1) := by decide +kernel
theorem dX12_sets_86 : decode cX12_sets 86 = .ok (.iaload, 1) := by decide +kernel
theorem dX12_sets_87 : decode cX12_sets 87 = .ok (.iaload, 1) := by decide +kernel
theorem dX12_sets_88 : decode cX12_sets 88 = .ok (.istore 5, 2) := by decide +kernel
theorem dX12_sets_90 : decode cX12_sets 90 = .ok (.iload 4, 2) := by decide +kernel
theorem dX12_sets_92 : decode cX12_sets 92 = .ok (.iload 5, 2) := by decide +kernel
theorem dX12_sets_94 : decode cX12_sets 94 = .ok (.if_icmp .ne 6, 3) := by decide +kernel
theorem dX12_sets_97 : decode cX12_sets 97 = .ok (.goto 46, 3) := by decide +kernel
theorem dX12_sets_100 : decode cX12_sets 100 = .ok (.aload_n 0, 1) := by decide +kernel
theorem dX12_sets_101 : decode cX12_sets 101 = .ok (.getfield 69, 3) := by decide +kernel
theorem dX12_sets_104 : decode cX12_sets 104 = .ok (.aload_n 0, 1) := by decide +kernel
theorem dX12_sets_105 : decode cX12_sets 105 = .ok (.getfield 60, 3) := by decide +kernel
theorem dX12_sets_108 : decode cX12_sets 108 = .ok (.iload_n 3, 1) := by decide +kernel
theorem dX12_sets_109 : decode cX12_sets 109 = .ok (.iaload, 1) := by decide +kernel
theorem dX12_sets_110 : decode cX12_sets 110 = .ok (.iload 4, 2) := by decide +kernel
theorem dX12_sets_112 : decode cX12_sets 112 = .ok (.iload 5, 2) := by decide +kernel
theorem dX12_sets_114 : decode cX12_sets 114 = .ok (.invokestatic 347, 3) := by decide +kernel
theorem dX12_sets_117 : decode cX12_sets 117 = .ok (.iastore, 1) := by decide +kernel
theorem dX12_sets_118 : decode cX12_sets 118 = .ok (.aload_n 0, 1) := by decide +kernel
theorem dX12_sets_119 : decode cX12_sets 119 = .ok (.getfield 69, 3) := by decide +kernel
theorem dX12_sets_122 : decode cX12_sets 122 = .ok (.aload_n 0, 1) := by decide +kernel
theorem dX12_sets_123 : decode cX12_sets 123 = .ok (.getfield 60, 3) := by decide +kernel
theorem dX12_sets_126 : decode cX12_sets 126 = .ok (.aload_n 0, 1) := by decide +kernel
theorem dX12_sets_127 : decode cX12_sets 127 = .ok (.getfield 63, 3) := by decide +kernel
theorem dX12_sets_130 : decode cX12_sets 130 = .ok (.iload_n 3, 1) := by decide +kernel
theorem dX12_sets_131 : decode cX12_sets 131 = .ok (.iaload, 1) := by decide +kernel
theorem dX12_sets_132 : decode cX12_sets 132 = .ok (.iaload, 1) := by decide +kernel
theorem dX12_sets_133 : decode cX12_sets 133 = .ok (.iload 4, 2) := by decide +kernel
theorem dX12_sets_135 : decode cX12_sets 135 = .ok (.iload 5, 2) := by decide +kernel
theorem dX12_sets_137 : decode cX12_sets 137 = .ok (.invokestatic 347, 3) := by decide +kernel
theorem dX12_sets_140 : decode cX12_sets 140 = .ok (.iastore, 1) := by decide +kernel
theorem dX12_sets_141 : decode cX12_sets 141 = .ok (.iconst 1, 1) := by decide +kernel
theorem dX12_sets_142 : decode cX12_sets 142 = .ok (.istore_n 2, 1) := by decide +kernel
theorem dX12_sets_143 : decode cX12_sets 143 = .ok (.iinc 3 1, 3) := by decide +kernel
theorem dX12_sets_146 : decode cX12_sets 146 = .ok (.goto (-113), 3) := by decide +kernel
theorem dX12_sets_149 : decode cX12_sets 149 = .ok (.goto (-124), 3) := by decide +kernel
theorem dX12_sets_152 : decode cX12_sets 152 = .ok (.iconst 0, 1) := by decide +kernel
theorem dX12_sets_153 : decode cX12_sets 153 = .ok (.istore_n 3, 1) := by decide +kernel
theorem dX12_sets_154 : decode cX12_sets 154 = .ok (.iconst 0, 1) := by decide +kernel
theorem dX12_sets_155 : decode cX12_sets 155 = .ok (.istore 4, 2) := by decide +kernel
theorem dX12_sets_157 : decode cX12_sets 157 = .ok (.iload 4, 2) := by decide +kernel
theorem dX12_sets_159 : decode cX12_sets 159 = .ok (.aload_n 0, 1) := by decide +kernel
theorem dX12_sets_160 : decode cX12_sets 160 = .ok (.getfield 342, 3) := by decide +kernel
theorem dX12_sets_163 : decode cX12_sets 163 = .ok (.if_icmp .ge 29, 3) := by decide +kernel
theorem dX12_sets_166 : decode cX12_sets 166 = .ok (.iload_n 3, 1) := by decide +kernel
theorem dX12_sets_167 : decode cX12_sets 167 = .ok (.aload_n 0, 1) := by decide +kernel
theorem dX12_sets_168 : decode cX12_sets 168 = .ok (.getfield 69, 3) := by decide +kernel
theorem dX12_sets_171 : decode cX12_sets 171 = .ok (.iload 4, 2) := by decide +kernel
theorem dX12_sets_173 : decode cX12_sets 173 = .ok (.iaload, 1) := by decide +kernel
theorem dX12_sets_174 : decode cX12_sets 174 = .ok (.iload 4, 2) := by decide +kernel
theorem dX12_sets_176 : decode cX12_sets 176 = .ok (.if_icmp .ne 7, 3) := by decide +kernel
theorem dX12_sets_179 : decode cX12_sets 179 = .ok (.iconst 1, 1) := by decide +kernel
theorem dX12_sets_180 : decode cX12_sets 180 = .ok (.goto 4, 3) := by decide +kernel
theorem dX12_sets_183 : decode cX12_sets 183 = .ok (.iconst 0, 1) := by decide +kernel
theorem dX12_sets_184 : decode cX12_sets 184 = .ok (.iadd, 1) := by decide +kernel
theorem dX12_sets_185 : decode cX12_sets 185 = .ok (.istore_n 3, 1) := by decide +kernel
theorem dX12_sets_186 : decode cX12_sets 186 = .ok (.iinc 4 1, 3) := by decide +kernel
theorem dX12_sets_189 : decode cX12_sets 189 = .ok (.goto (-32), 3) := by decide +kernel
theorem dX12_sets_192 : decode cX12_sets 192 = .ok (.iload_n 3, 1) := by decide +kernel
theorem dX12_sets_193 : decode cX12_sets 193 = .ok (.ireturn, 1) := by decide +kernel
theorem dX12_pairs_0 : decode cX12_pairs 0 = .ok (.iconst 0, 1) := by decide +kernel
theorem dX12_pairs_1 : decode cX12_pairs 1 = .ok (.istore_n 1, 1) := by decide +kernel
theorem dX12_pairs_2 : decode cX12_pairs 2 = .ok (.iload_n 1, 1) := by decide +kernel
theorem dX12_pairs_3 : decode cX12_pairs 3 = .ok (.bipush 12, 2) := by decide +kernel
theorem dX12_pairs_5 : decode cX12_pairs 5 = .ok (.if_icmp .ge 16, 3) := by decide +kernel
theorem dX12_pairs_8 : decode cX12_pairs 8 = .ok (.aload_n 0, 1) := by decide +kernel
theorem dX12_pairs_9 : decode cX12_pairs 9 = .ok (.getfield 63, 3) := by decide +kernel
theorem dX12_pairs_12 : decode cX12_pairs 12 = .ok (.iload_n 1, 1) := by decide +kernel
theorem dX12_pairs_13 : decode cX12_pairs 13 = .ok (.iconst (-1), 1) := by decide +kernel
theorem dX12_pairs_14 : decode cX12_pairs 14 = .ok (.iastore, 1) := by decide +kernel
theorem dX12_pairs_15 : decode cX12_pairs 15 = .ok (.iinc 1 1, 3) := by decide +kernel
theorem dX12_pairs_18 : decode cX12_pairs 18 = .ok (.goto (-16), 3) := by decide +kernel
theorem dX12_pairs_21 : decode cX12_pairs 21 = .ok (.aload_n 0, 1) := by decide +kernel
theorem dX12_pairs_22 : decode cX12_pairs 22 = .ok (.iconst 0, 1) := by decide +kernel
theorem dX12_pairs_23 : decode cX12_pairs 23 = .ok (.putfield 353, 3) := by decide +kernel
theorem dX12_pairs_26 : decode cX12_pairs 26 = .ok (.aload_n 0, 1) := by decide +kernel
theorem dX12_pairs_27 : decode cX12_pairs 27 = .ok (.iconst 0, 1) := by decide +kernel
theorem dX12_pairs_28 : decode cX12_pairs 28 = .ok (.invokevirtual 356, 3) := by decide +kernel
theorem dX12_pairs_31 : decode cX12_pairs 31 = .ok (.return_, 1) := by decide +kernel
theorem dX12_pairsFrom_0 : decode cX12_pairsFrom 0 = .ok (.iload_n 1, 1) := by decide +kernel
theorem dX12_pairsFrom_1 : decode cX12_pairsFrom 1 = .ok (.istore_n 2, 1) := by decide +kernel
theorem dX12_pairsFrom_2 : decode cX12_pairsFrom 2 = .ok (.iload_n 2, 1) := by decide +kernel
theorem dX12_pairsFrom_3 : decode cX12_pairsFrom 3 = .ok (.aload_n 0, 1) := by decide +kernel
theorem dX12_pairsFrom_4 : decode cX12_pairsFrom 4 = .ok (.getfield 331, 3) := by decide +kernel
theorem dX12_pairsFrom_7 : decode cX12_pairsFrom 7 = .ok (.if_icmp .ge 19, 3) := by decide +kernel
theorem dX12_pairsFrom_10 : decode cX12_pairsFrom 10 = .ok (.aload_n 0, 1) := by decide +kernel
theorem dX12_pairsFrom_11 : decode cX12_pairsFrom 11 = .ok (.getfield 63, 3) := by decide +kernel
theorem dX12_pairsFrom_14 : decode cX12_pairsFrom 14 = .ok (.iload_n 2, 1) := by decide +kernel
theorem dX12_pairsFrom_15 : decode cX12_pairsFrom 15 = .ok (.iaload, 1) := by decide +kernel
theorem dX12_pairsFrom_16 : decode cX12_pairsFrom 16 = .ok (.iconst (-1), 1) := by decide +kernel
theorem dX12_pairsFrom_17 : decode cX12_pairsFrom 17 = .ok (.if_icmp .eq 9, 3) := by decide +kernel
theorem dX12_pairsFrom_20 : decode cX12_pairsFrom 20 = .ok (.iinc 2 1, 3) := by decide +kernel
theorem dX12_pairsFrom_23 : decode cX12_pairsFrom 23 = .ok (.goto (-21), 3) := by decide +kernel
theorem dX12_pairsFrom_26 : decode cX12_pairsFrom 26 = .ok (.iload_n 2, 1) := by decide +kernel
theorem dX12_pairsFrom_27 : decode cX12_pairsFrom 27 = .ok (.aload_n 0, 1) := by decide +kernel
theorem dX12_pairsFrom_28 : decode cX12_pairsFrom 28 = .ok (.getfield 331, 3) := by decide +kernel
theorem dX12_pairsFrom_31 : decode cX12_pairsFrom 31 = .ok (.if_icmp .ne 48, 3) := by decide +kernel
theorem dX12_pairsFrom_34 : decode cX12_pairsFrom 34 = .ok (.aload_n 0, 1) := by decide +kernel
theorem dX12_pairsFrom_35 : decode cX12_pairsFrom 35 = .ok (.bipush (-2), 2) := by decide +kernel
theorem dX12_pairsFrom_37 : decode cX12_pairsFrom 37 = .ok (.invokevirtual 359, 3) := by decide +kernel
theorem dX12_pairsFrom_40 : decode cX12_pairsFrom 40 = .ok (.iconst 1, 1) := by decide +kernel
theorem dX12_pairsFrom_41 : decode cX12_pairsFrom 41 = .ok (.if_icmp .le 4, 3) := by decide +kernel
theorem dX12_pairsFrom_44 : decode cX12_pairsFrom 44 = .ok (.return_, 1) := by decide +kernel
theorem dX12_pairsFrom_45 : decode cX12_pairsFrom 45 = .ok (.aload_n 0, 1) := by decide +kernel
theorem dX12_pairsFrom_46 : decode cX12_pairsFrom 46 = .ok (.getfield 72, 3) := by decide +kernel
theorem dX12_pairsFrom_49 : decode cX12_pairsFrom 49 = .ok (.aload_n 0, 1) := by decide +kernel
theorem dX12_pairsFrom_50 : decode cX12_pairsFrom 50 = .ok (.getfield 353, 3) := by decide +kernel
theorem dX12_pairsFrom_53 : decode cX12_pairsFrom 53 = .ok (.aload_n 0, 1) := by decide +kernel
theorem dX12_pairsFrom_54 : decode cX12_pairsFrom 54 = .ok (.invokevirtual 362, 3) := by decide +kernel
theorem dX12_pairsFrom_57 : decode cX12_pairsFrom 57 = .ok (.lastore, 1) := by decide +kernel
theorem dX12_pairsFrom_58 : decode cX12_pairsFrom 58 = .ok (.aload_n 0, 1) := by decide +kernel
theorem dX12_pairsFrom_59 : decode cX12_pairsFrom 59 = .ok (.getfield 76, 3) := by decide +kernel
theorem dX12_pairsFrom_62 : decode cX12_pairsFrom 62 = .ok (.aload_n 0, 1) := by decide +kernel
theorem dX12_pairsFrom_63 : decode cX12_pairsFrom 63 = .ok (.getfield 353, 3) := by decide +kernel
theorem dX12_pairsFrom_66 : decode cX12_pairsFrom 66 = .ok (.iconst (-1), 1) := by decide +kernel
theorem dX12_pairsFrom_67 : decode cX12_pairsFrom 67 = .ok (.iastore, 1) := by decide +kernel
theorem dX12_pairsFrom_68 : decode cX12_pairsFrom 68 = .ok (.aload_n 0, 1) := by decide +kernel
theorem dX12_pairsFrom_69 : decode cX12_pairsFrom 69 = .ok (.dup, 1) := by decide +kernel
theorem dX12_pairsFrom_70 : decode cX12_pairsFrom 70 = .ok (.getfield 353, 3) := by decide +kernel
theorem dX12_pairsFrom_73 : decode cX12_pairsFrom 73 = .ok (.iconst 1, 1) := by decide +kernel
theorem dX12_pairsFrom_74 : decode cX12_pairsFrom 74 = .ok (.iadd, 1) := by decide +kernel
theorem dX12_pairsFrom_75 : decode cX12_pairsFrom 75 = .ok (.putfield 353, 3) := by decide +kernel
theorem dX12_pairsFrom_78 : decode cX12_pairsFrom 78 = .ok (.return_, 1) := by decide +kernel
theorem dX12_pairsFrom_79 : decode cX12_pairsFrom 79 = .ok (.iload_n 2, 1) := by decide +kernel
theorem dX12_pairsFrom_80 : decode cX12_pairsFrom 80 = .ok (.iconst 1, 1) := by decide +kernel
theorem dX12_pairsFrom_81 : decode cX12_pairsFrom 81 = .ok (.iadd, 1) := by decide +kernel
theorem dX12_pairsFrom_82 : decode cX12_pairsFrom 82 = .ok (.istore_n 3, 1) := by decide +kernel
theorem dX12_pairsFrom_83 : decode cX12_pairsFrom 83 = .ok (.iload_n 3, 1) := by decide +kernel
theorem dX12_pairsFrom_84 : decode cX12_pairsFrom 84 = .ok (.aload_n 0, 1) := by decide +kernel
theorem dX12_pairsFrom_85 : decode cX12_pairsFrom 85 = .ok (.getfield 331, 3) := by decide +kernel
theorem dX12_pairsFrom_88 : decode cX12_pairsFrom 88 = .ok (.if_icmp .ge 80, 3) := by decide +kernel
theorem dX12_pairsFrom_91 : decode cX12_pairsFrom 91 = .ok (.aload_n 0, 1) := by decide +kernel
theorem dX12_pairsFrom_92 : decode cX12_pairsFrom 92 = .ok (.getfield 63, 3) := by decide +kernel
theorem dX12_pairsFrom_95 : decode cX12_pairsFrom 95 = .ok (.iload_n 3, 1) := by decide +kernel
theorem dX12_pairsFrom_96 : decode cX12_pairsFrom 96 = .ok (.iaload, 1) := by decide +kernel
theorem dX12_pairsFrom_97 : decode cX12_pairsFrom 97 = .ok (.iconst (-1), 1) := by decide +kernel
theorem dX12_pairsFrom_98 : decode cX12_pairsFrom 98 = .ok (.if_icmp .ne 64, 3) := by decide +kernel
theorem dX12_pairsFrom_101 : decode cX12_pairsFrom 101 = .ok (.aload_n 0, 1) := by decide +kernel
theorem dX12_pairsFrom_102 : decode cX12_pairsFrom 102 = .ok (.getfield 312, 3) := by decide +kernel
theorem dX12_pairsFrom_105 : decode cX12_pairsFrom 105 = .ok (.getfield 257, 3) := by decide +kernel
theorem dX12_pairsFrom_108 : decode cX12_pairsFrom 108 = .ok (.aload_n 0, 1) := by decide +kernel
theorem dX12_pairsFrom_109 : decode cX12_pairsFrom 109 = .ok (.getfield 57, 3) := by decide +kernel
theorem dX12_pairsFrom_112 : decode cX12_pairsFrom 112 = .ok (.iload_n 2, 1) := by decide +kernel
theorem dX12_pairsFrom_113 : decode cX12_pairsFrom 113 = .ok (.iaload, 1) := by decide +kernel
theorem dX12_pairsFrom_114 : decode cX12_pairsFrom 114 = .ok (.iaload, 1) := by decide +kernel
theorem dX12_pairsFrom_115 : decode cX12_pairsFrom 115 = .ok (.aload_n 0, 1) := by decide +kernel
theorem dX12_pairsFrom_116 : decode cX12_pairsFrom 116 = .ok (.getfield 57, 3) := by decide +kernel
theorem dX12_pairsFrom_119 : decode cX12_pairsFrom 119 = .ok (.iload_n 3, 1) := by decide +kernel
theorem dX12_pairsFrom_120 : decode cX12_pairsFrom 120 = .ok (.iaload, 1) := by decide +kernel
theorem dX12_pairsFrom_121 : decode cX12_pairsFrom 121 = .ok (.if_icmp .eq 6, 3) := by decide +kernel
theorem dX12_pairsFrom_124 : decode cX12_pairsFrom 124 = .ok (.goto 38, 3) := by decide +kernel
theorem dX12_pairsFrom_127 : decode cX12_pairsFrom 127 = .ok (.aload_n 0, 1) := by decide +kernel
theorem dX12_pairsFrom_128 : decode cX12_pairsFrom 128 = .ok (.getfield 63, 3) := by decide +kernel
theorem dX12_pairsFrom_131 : decode cX12_pairsFrom 131 = .ok (.iload_n 2, 1) := by decide +kernel
theorem dX12_pairsFrom_132 : decode cX12_pairsFrom 132 = .ok (.iload_n 3, 1) := by decide +kernel
theorem dX12_pairsFrom_133 : decode cX12_pairsFrom 133 = .ok (.iastore, 1) := by decide +kernel
theorem dX12_pairsFrom_134 : decode cX12_pairsFrom 134 = .ok (.aload_n 0, 1) := by decide +kernel
theorem dX12_pairsFrom_135 : decode cX12_pairsFrom 135 = .ok (.getfield 63, 3) := by decide +kernel
theorem dX12_pairsFrom_138 : decode cX12_pairsFrom 138 = .ok (.iload_n 3, 1) := by decide +kernel
theorem dX12_pairsFrom_139 : decode cX12_pairsFrom 139 = .ok (.iload_n 2, 1) := by decide +kernel
theorem dX12_pairsFrom_140 : decode cX12_pairsFrom 140 = .ok (.iastore, 1) := by decide +kernel
theorem dX12_pairsFrom_141 : decode cX12_pairsFrom 141 = .ok (.aload_n 0, 1) := by decide +kernel
theorem dX12_pairsFrom_142 : decode cX12_pairsFrom 142 = .ok (.iload_n 2, 1) := by decide +kernel
theorem dX12_pairsFrom_143 : decode cX12_pairsFrom 143 = .ok (.iconst 1, 1) := by decide +kernel
theorem dX12_pairsFrom_144 : decode cX12_pairsFrom 144 = .ok (.iadd, 1) := by decide +kernel
theorem dX12_pairsFrom_145 : decode cX12_pairsFrom 145 = .ok (.invokevirtual 356, 3) := by decide +kernel
theorem dX12_pairsFrom_148 : decode cX12_pairsFrom 148 = .ok (.aload_n 0, 1) := by decide +kernel
theorem dX12_pairsFrom_149 : decode cX12_pairsFrom 149 = .ok (.getfield 63, 3) := by decide +kernel
theorem dX12_pairsFrom_152 : decode cX12_pairsFrom 152 = .ok (.iload_n 2, 1) := by decide +kernel
theorem dX12_pairsFrom_153 : decode cX12_pairsFrom 153 = .ok (.iconst (-1), 1) := by decide +kernel
theorem dX12_pairsFrom_154 : decode cX12_pairsFrom 154 = .ok (.iastore, 1) := by decide +kernel
theorem dX12_pairsFrom_155 : decode cX12_pairsFrom 155 = .ok (.aload_n 0, 1) := by decide +kernel
theorem dX12_pairsFrom_156 : decode cX12_pairsFrom 156 = .ok (.getfield 63, 3) := by decide +kernel
theorem dX12_pairsFrom_159 : decode cX12_pairsFrom 159 = .ok (.iload_n 3, 1) := by decide +kernel
theorem dX12_pairsFrom_160 : decode cX12_pairsFrom 160 = .ok (.iconst (-1), 1) := by decide +kernel
theorem dX12_pairsFrom_161 : decode cX12_pairsFrom 161 = .ok (.iastore, 1) := by decide +kernel
theorem dX12_pairsFrom_162 : decode cX12_pairsFrom 162 = .ok (.iinc 3 1, 3) := by decide +kernel
theorem dX12_pairsFrom_165 : decode cX12_pairsFrom 165 = .ok (.goto (-82), 3) := by decide +kernel
theorem dX12_pairsFrom_168 : decode cX12_pairsFrom 168 = .ok (.return_, 1) := by decide +kernel
theorem dX12_rowAt_0 : decode cX12_rowAt 0 = .ok (.iconst 0, 1) := by decide +kernel
theorem dX12_rowAt_1 : decode cX12_rowAt 1 = .ok (.istore_n 3, 1) := by decide +kernel
theorem dX12_rowAt_2 : decode cX12_rowAt 2 = .ok (.aload_n 0, 1) := by decide +kernel
theorem dX12_rowAt_3 : decode cX12_rowAt 3 = .ok (.getfield 353, 3) := by decide +kernel
theorem dX12_rowAt_6 : decode cX12_rowAt 6 = .ok (.iconst 1, 1) := by decide +kernel
theorem dX12_rowAt_7 : decode cX12_rowAt 7 = .ok (.isub, 1) := by decide +kernel
theorem dX12_rowAt_8 : decode cX12_rowAt 8 = .ok (.istore 4, 2) := by decide +kernel
theorem dX12_rowAt_10 : decode cX12_rowAt 10 = .ok (.iload_n 3, 1) := by decide +kernel
theorem dX12_rowAt_11 : decode cX12_rowAt 11 = .ok (.iload 4, 2) := by decide +kernel
theorem dX12_rowAt_13 : decode cX12_rowAt 13 = .ok (.if_icmp .gt 55, 3) := by decide +kernel
theorem dX12_rowAt_16 : decode cX12_rowAt 16 = .ok (.iload_n 3, 1) := by decide +kernel
theorem dX12_rowAt_17 : decode cX12_rowAt 17 = .ok (.iload 4, 2) := by decide +kernel
theorem dX12_rowAt_19 : decode cX12_rowAt 19 = .ok (.iadd, 1) := by decide +kernel
theorem dX12_rowAt_20 : decode cX12_rowAt 20 = .ok (.iconst 2, 1) := by decide +kernel
theorem dX12_rowAt_21 : decode cX12_rowAt 21 = .ok (.idiv, 1) := by decide +kernel
theorem dX12_rowAt_22 : decode cX12_rowAt 22 = .ok (.istore 5, 2) := by decide +kernel
theorem dX12_rowAt_24 : decode cX12_rowAt 24 = .ok (.aload_n 0, 1) := by decide +kernel
theorem dX12_rowAt_25 : decode cX12_rowAt 25 = .ok (.getfield 72, 3) := by decide +kernel
theorem dX12_rowAt_28 : decode cX12_rowAt 28 = .ok (.iload 5, 2) := by decide +kernel
theorem dX12_rowAt_30 : decode cX12_rowAt 30 = .ok (.laload, 1) := by decide +kernel
theorem dX12_rowAt_31 : decode cX12_rowAt 31 = .ok (.lload_n 1, 1) := by decide +kernel
theorem dX12_rowAt_32 : decode cX12_rowAt 32 = .ok (.lcmp, 1) := by decide +kernel
theorem dX12_rowAt_33 : decode cX12_rowAt 33 = .ok (.ifCond .ne 6, 3) := by decide +kernel
theorem dX12_rowAt_36 : decode cX12_rowAt 36 = .ok (.iload 5, 2) := by decide +kernel
theorem dX12_rowAt_38 : decode cX12_rowAt 38 = .ok (.ireturn, 1) := by decide +kernel
theorem dX12_rowAt_39 : decode cX12_rowAt 39 = .ok (.aload_n 0, 1) := by decide +kernel
theorem dX12_rowAt_40 : decode cX12_rowAt 40 = .ok (.getfield 72, 3) := by decide +kernel
theorem dX12_rowAt_43 : decode cX12_rowAt 43 = .ok (.iload 5, 2) := by decide +kernel
theorem dX12_rowAt_45 : decode cX12_rowAt 45 = .ok (.laload, 1) := by decide +kernel
theorem dX12_rowAt_46 : decode cX12_rowAt 46 = .ok (.lload_n 1, 1) := by decide +kernel
theorem dX12_rowAt_47 : decode cX12_rowAt 47 = .ok (.lcmp, 1) := by decide +kernel
theorem dX12_rowAt_48 : decode cX12_rowAt 48 = .ok (.ifCond .ge 11, 3) := by decide +kernel
theorem dX12_rowAt_51 : decode cX12_rowAt 51 = .ok (.iload 5, 2) := by decide +kernel
theorem dX12_rowAt_53 : decode cX12_rowAt 53 = .ok (.iconst 1, 1) := by decide +kernel
theorem dX12_rowAt_54 : decode cX12_rowAt 54 = .ok (.iadd, 1) := by decide +kernel
theorem dX12_rowAt_55 : decode cX12_rowAt 55 = .ok (.istore_n 3, 1) := by decide +kernel
theorem dX12_rowAt_56 : decode cX12_rowAt 56 = .ok (.goto 9, 3) := by decide +kernel
theorem dX12_rowAt_59 : decode cX12_rowAt 59 = .ok (.iload 5, 2) := by decide +kernel
theorem dX12_rowAt_61 : decode cX12_rowAt 61 = .ok (.iconst 1, 1) := by decide +kernel
theorem dX12_rowAt_62 : decode cX12_rowAt 62 = .ok (.isub, 1) := by decide +kernel
theorem dX12_rowAt_63 : decode cX12_rowAt 63 = .ok (.istore 4, 2) := by decide +kernel
theorem dX12_rowAt_65 : decode cX12_rowAt 65 = .ok (.goto (-55), 3) := by decide +kernel
theorem dX12_rowAt_68 : decode cX12_rowAt 68 = .ok (.iconst (-1), 1) := by decide +kernel
theorem dX12_rowAt_69 : decode cX12_rowAt 69 = .ok (.ireturn, 1) := by decide +kernel
theorem dX12_swappedRow_0 : decode cX12_swappedRow 0 = .ok (.aload_n 0, 1) := by decide +kernel
theorem dX12_swappedRow_1 : decode cX12_swappedRow 1 = .ok (.aload_n 0, 1) := by decide +kernel
theorem dX12_swappedRow_2 : decode cX12_swappedRow 2 = .ok (.getfield 72, 3) := by decide +kernel
theorem dX12_swappedRow_5 : decode cX12_swappedRow 5 = .ok (.iload_n 1, 1) := by decide +kernel
theorem dX12_swappedRow_6 : decode cX12_swappedRow 6 = .ok (.laload, 1) := by decide +kernel
theorem dX12_swappedRow_7 : decode cX12_swappedRow 7 = .ok (.invokevirtual 366, 3) := by decide +kernel
theorem dX12_swappedRow_10 : decode cX12_swappedRow 10 = .ok (.iconst 0, 1) := by decide +kernel
theorem dX12_swappedRow_11 : decode cX12_swappedRow 11 = .ok (.istore_n 2, 1) := by decide +kernel
theorem dX12_swappedRow_12 : decode cX12_swappedRow 12 = .ok (.iload_n 2, 1) := by decide +kernel
theorem dX12_swappedRow_13 : decode cX12_swappedRow 13 = .ok (.aload_n 0, 1) := by decide +kernel
theorem dX12_swappedRow_14 : decode cX12_swappedRow 14 = .ok (.getfield 331, 3) := by decide +kernel
theorem dX12_swappedRow_17 : decode cX12_swappedRow 17 = .ok (.if_icmp .ge 31, 3) := by decide +kernel
theorem dX12_swappedRow_20 : decode cX12_swappedRow 20 = .ok (.aload_n 0, 1) := by decide +kernel
theorem dX12_swappedRow_21 : decode cX12_swappedRow 21 = .ok (.getfield 85, 3) := by decide +kernel
theorem dX12_swappedRow_24 : decode cX12_swappedRow 24 = .ok (.aload_n 0, 1) := by decide +kernel
theorem dX12_swappedRow_25 : decode cX12_swappedRow 25 = .ok (.getfield 82, 3) := by decide +kernel
theorem dX12_swappedRow_28 : decode cX12_swappedRow 28 = .ok (.iload_n 2, 1) := by decide +kernel
theorem dX12_swappedRow_29 : decode cX12_swappedRow 29 = .ok (.iaload, 1) := by decide +kernel
theorem dX12_swappedRow_30 : decode cX12_swappedRow 30 = .ok (.aload_n 0, 1) := by decide +kernel
theorem dX12_swappedRow_31 : decode cX12_swappedRow 31 = .ok (.getfield 82, 3) := by decide +kernel
theorem dX12_swappedRow_34 : decode cX12_swappedRow 34 = .ok (.aload_n 0, 1) := by decide +kernel
theorem dX12_swappedRow_35 : decode cX12_swappedRow 35 = .ok (.getfield 63, 3) := by decide +kernel
theorem dX12_swappedRow_38 : decode cX12_swappedRow 38 = .ok (.iload_n 2, 1) := by decide +kernel
theorem dX12_swappedRow_39 : decode cX12_swappedRow 39 = .ok (.iaload, 1) := by decide +kernel
theorem dX12_swappedRow_40 : decode cX12_swappedRow 40 = .ok (.iaload, 1) := by decide +kernel
theorem dX12_swappedRow_41 : decode cX12_swappedRow 41 = .ok (.iastore, 1) := by decide +kernel
theorem dX12_swappedRow_42 : decode cX12_swappedRow 42 = .ok (.iinc 2 1, 3) := by decide +kernel
theorem dX12_swappedRow_45 : decode cX12_swappedRow 45 = .ok (.goto (-33), 3) := by decide +kernel
theorem dX12_swappedRow_48 : decode cX12_swappedRow 48 = .ok (.iconst 0, 1) := by decide +kernel
theorem dX12_swappedRow_49 : decode cX12_swappedRow 49 = .ok (.istore_n 2, 1) := by decide +kernel
theorem dX12_swappedRow_50 : decode cX12_swappedRow 50 = .ok (.iload_n 2, 1) := by decide +kernel
theorem dX12_swappedRow_51 : decode cX12_swappedRow 51 = .ok (.aload_n 0, 1) := by decide +kernel
theorem dX12_swappedRow_52 : decode cX12_swappedRow 52 = .ok (.getfield 331, 3) := by decide +kernel
theorem dX12_swappedRow_55 : decode cX12_swappedRow 55 = .ok (.if_icmp .ge 21, 3) := by decide +kernel
theorem dX12_swappedRow_58 : decode cX12_swappedRow 58 = .ok (.aload_n 0, 1) := by decide +kernel
theorem dX12_swappedRow_59 : decode cX12_swappedRow 59 = .ok (.getfield 63, 3) := by decide +kernel
theorem dX12_swappedRow_62 : decode cX12_swappedRow 62 = .ok (.iload_n 2, 1) := by decide +kernel
theorem dX12_swappedRow_63 : decode cX12_swappedRow 63 = .ok (.aload_n 0, 1) := by decide +kernel
theorem dX12_swappedRow_64 : decode cX12_swappedRow 64 = .ok (.getfield 85, 3) := by decide +kernel
theorem dX12_swappedRow_67 : decode cX12_swappedRow 67 = .ok (.iload_n 2, 1) := by decide +kernel
theorem dX12_swappedRow_68 : decode cX12_swappedRow 68 = .ok (.iaload, 1) := by decide +kernel
theorem dX12_swappedRow_69 : decode cX12_swappedRow 69 = .ok (.iastore, 1) := by decide +kernel
theorem dX12_swappedRow_70 : decode cX12_swappedRow 70 = .ok (.iinc 2 1, 3) := by decide +kernel
theorem dX12_swappedRow_73 : decode cX12_swappedRow 73 = .ok (.goto (-23), 3) := by decide +kernel
theorem dX12_swappedRow_76 : decode cX12_swappedRow 76 = .ok (.aload_n 0, 1) := by decide +kernel
theorem dX12_swappedRow_77 : decode cX12_swappedRow 77 = .ok (.aload_n 0, 1) := by decide +kernel
theorem dX12_swappedRow_78 : decode cX12_swappedRow 78 = .ok (.invokevirtual 362, 3) := by decide +kernel
theorem dX12_swappedRow_81 : decode cX12_swappedRow 81 = .ok (.invokevirtual 370, 3) := by decide +kernel
theorem dX12_swappedRow_84 : decode cX12_swappedRow 84 = .ok (.ireturn, 1) := by decide +kernel
theorem dX12_plainSwap_0 : decode cX12_plainSwap 0 = .ok (.iconst 0, 1) := by decide +kernel
theorem dX12_plainSwap_1 : decode cX12_plainSwap 1 = .ok (.istore_n 1, 1) := by decide +kernel
theorem dX12_plainSwap_2 : decode cX12_plainSwap 2 = .ok (.iload_n 1, 1) := by decide +kernel
theorem dX12_plainSwap_3 : decode cX12_plainSwap 3 = .ok (.aload_n 0, 1) := by decide +kernel
theorem dX12_plainSwap_4 : decode cX12_plainSwap 4 = .ok (.getfield 331, 3) := by decide +kernel
theorem dX12_plainSwap_7 : decode cX12_plainSwap 7 = .ok (.if_icmp .ge 16, 3) := by decide +kernel
theorem dX12_plainSwap_10 : decode cX12_plainSwap 10 = .ok (.aload_n 0, 1) := by decide +kernel
theorem dX12_plainSwap_11 : decode cX12_plainSwap 11 = .ok (.getfield 82, 3) := by decide +kernel
theorem dX12_plainSwap_14 : decode cX12_plainSwap 14 = .ok (.iload_n 1, 1) := by decide +kernel
theorem dX12_plainSwap_15 : decode cX12_plainSwap 15 = .ok (.iload_n 1, 1) := by decide +kernel
theorem dX12_plainSwap_16 : decode cX12_plainSwap 16 = .ok (.iastore, 1) := by decide +kernel
theorem dX12_plainSwap_17 : decode cX12_plainSwap 17 = .ok (.iinc 1 1, 3) := by decide +kernel
theorem dX12_plainSwap_20 : decode cX12_plainSwap 20 = .ok (.goto (-18), 3) := by decide +kernel
theorem dX12_plainSwap_23 : decode cX12_plainSwap 23 = .ok (.return_, 1) := by decide +kernel
theorem dX12_reaches_0 : decode cX12_reaches 0 = .ok (.aload_n 0, 1) := by decide +kernel
theorem dX12_reaches_1 : decode cX12_reaches 1 = .ok (.iload_n 1, 1) := by decide +kernel
theorem dX12_reaches_2 : decode cX12_reaches 2 = .ok (.invokevirtual 373, 3) := by decide +kernel
theorem dX12_reaches_5 : decode cX12_reaches 5 = .ok (.istore_n 3, 1) := by decide +kernel
theorem dX12_reaches_6 : decode cX12_reaches 6 = .ok (.aload_n 0, 1) := by decide +kernel
theorem dX12_reaches_7 : decode cX12_reaches 7 = .ok (.getfield 76, 3) := by decide +kernel
theorem dX12_reaches_10 : decode cX12_reaches 10 = .ok (.iload_n 3, 1) := by decide +kernel
theorem dX12_reaches_11 : decode cX12_reaches 11 = .ok (.iaload, 1) := by decide +kernel
theorem dX12_reaches_12 : decode cX12_reaches 12 = .ok (.iconst (-1), 1) := by decide +kernel
theorem dX12_reaches_13 : decode cX12_reaches 13 = .ok (.if_icmp .eq 4, 3) := by decide +kernel
theorem dX12_reaches_16 : decode cX12_reaches 16 = .ok (.return_, 1) := by decide +kernel
theorem dX12_reaches_17 : decode cX12_reaches 17 = .ok (.aload_n 0, 1) := by decide +kernel
theorem dX12_reaches_18 : decode cX12_reaches 18 = .ok (.getfield 76, 3) := by decide +kernel
theorem dX12_reaches_21 : decode cX12_reaches 21 = .ok (.iload_n 3, 1) := by decide +kernel
theorem dX12_reaches_22 : decode cX12_reaches 22 = .ok (.iload_n 2, 1) := by decide +kernel
theorem dX12_reaches_23 : decode cX12_reaches 23 = .ok (.iastore, 1) := by decide +kernel
theorem dX12_reaches_24 : decode cX12_reaches 24 = .ok (.aload_n 0, 1) := by decide +kernel
theorem dX12_reaches_25 : decode cX12_reaches 25 = .ok (.getfield 79, 3) := by decide +kernel
theorem dX12_reaches_28 : decode cX12_reaches 28 = .ok (.aload_n 0, 1) := by decide +kernel
theorem dX12_reaches_29 : decode cX12_reaches 29 = .ok (.getfield 376, 3) := by decide +kernel
theorem dX12_reaches_32 : decode cX12_reaches 32 = .ok (.iload_n 3, 1) := by decide +kernel
theorem dX12_reaches_33 : decode cX12_reaches 33 = .ok (.iastore, 1) := by decide +kernel
theorem dX12_reaches_34 : decode cX12_reaches 34 = .ok (.aload_n 0, 1) := by decide +kernel
theorem dX12_reaches_35 : decode cX12_reaches 35 = .ok (.dup, 1) := by decide +kernel
theorem dX12_reaches_36 : decode cX12_reaches 36 = .ok (.getfield 376, 3) := by decide +kernel
theorem dX12_reaches_39 : decode cX12_reaches 39 = .ok (.iconst 1, 1) := by decide +kernel
theorem dX12_reaches_40 : decode cX12_reaches 40 = .ok (.iadd, 1) := by decide +kernel
theorem dX12_reaches_41 : decode cX12_reaches 41 = .ok (.putfield 376, 3) := by decide +kernel
theorem dX12_reaches_44 : decode cX12_reaches 44 = .ok (.return_, 1) := by decide +kernel
theorem dX12_spreads_0 : decode cX12_spreads 0 = .ok (.aload_n 0, 1) := by decide +kernel
theorem dX12_spreads_1 : decode cX12_spreads 1 = .ok (.iconst 0, 1) := by decide +kernel
theorem dX12_spreads_2 : decode cX12_spreads 2 = .ok (.putfield 376, 3) := by decide +kernel
theorem dX12_spreads_5 : decode cX12_spreads 5 = .ok (.aload_n 0, 1) := by decide +kernel
theorem dX12_spreads_6 : decode cX12_spreads 6 = .ok (.getfield 76, 3) := by decide +kernel
theorem dX12_spreads_9 : decode cX12_spreads 9 = .ok (.iload 4, 2) := by decide +kernel
theorem dX12_spreads_11 : decode cX12_spreads 11 = .ok (.iload 5, 2) := by decide +kernel
theorem dX12_spreads_13 : decode cX12_spreads 13 = .ok (.iastore, 1) := by decide +kernel
theorem dX12_spreads_14 : decode cX12_spreads 14 = .ok (.aload_n 0, 1) := by decide +kernel
theorem dX12_spreads_15 : decode cX12_spreads 15 = .ok (.getfield 79, 3) := by decide +kernel
theorem dX12_spreads_18 : decode cX12_spreads 18 = .ok (.iconst 0, 1) := by decide +kernel
theorem dX12_spreads_19 : decode cX12_spreads 19 = .ok (.iload 4, 2) := by decide +kernel
theorem dX12_spreads_21 : decode cX12_spreads 21 = .ok (.iastore, 1) := by decide +kernel
theorem dX12_spreads_22 : decode cX12_spreads 22 = .ok (.aload_n 0, 1) := by decide +kernel
theorem dX12_spreads_23 : decode cX12_spreads 23 = .ok (.iconst 1, 1) := by decide +kernel
theorem dX12_spreads_24 : decode cX12_spreads 24 = .ok (.putfield 376, 3) := by decide +kernel
theorem dX12_spreads_27 : decode cX12_spreads 27 = .ok (.iconst 0, 1) := by decide +kernel
theorem dX12_spreads_28 : decode cX12_spreads 28 = .ok (.istore 6, 2) := by decide +kernel
theorem dX12_spreads_30 : decode cX12_spreads 30 = .ok (.aload_n 0, 1) := by decide +kernel
theorem dX12_spreads_31 : decode cX12_spreads 31 = .ok (.getfield 376, 3) := by decide +kernel
theorem dX12_spreads_34 : decode cX12_spreads 34 = .ok (.ifCond .le 273, 3) := by decide +kernel
theorem dX12_spreads_37 : decode cX12_spreads 37 = .ok (.aload_n 0, 1) := by decide +kernel
theorem dX12_spreads_38 : decode cX12_spreads 38 = .ok (.dup, 1) := by decide +kernel
theorem dX12_spreads_39 : decode cX12_spreads 39 = .ok (.getfield 376, 3) := by decide +kernel
theorem dX12_spreads_42 : decode cX12_spreads 42 = .ok (.iconst 1, 1) := by decide +kernel
theorem dX12_spreads_43 : decode cX12_spreads 43 = .ok (.isub, 1) := by decide +kernel
theorem dX12_spreads_44 : decode cX12_spreads 44 = .ok (.putfield 376, 3) := by decide +kernel
theorem dX12_spreads_47 : decode cX12_spreads 47 = .ok (.aload_n 0, 1) := by decide +kernel
theorem dX12_spreads_48 : decode cX12_spreads 48 = .ok (.getfield 79, 3) := by decide +kernel
theorem dX12_spreads_51 : decode cX12_spreads 51 = .ok (.aload_n 0, 1) := by decide +kernel
theorem dX12_spreads_52 : decode cX12_spreads 52 = .ok (.getfield 376, 3) := by decide +kernel
theorem dX12_spreads_55 : decode cX12_spreads 55 = .ok (.iaload, 1) := by decide +kernel
theorem dX12_spreads_56 : decode cX12_spreads 56 = .ok (.istore 7, 2) := by decide +kernel
theorem dX12_spreads_58 : decode cX12_spreads 58 = .ok (.iinc 6 1, 3) := by decide +kernel
theorem dX12_spreads_61 : decode cX12_spreads 61 = .ok (.aload_n 1, 1) := by decide +kernel
theorem dX12_spreads_62 : decode cX12_spreads 62 = .ok (.getfield 333, 3) := by decide +kernel
theorem dX12_spreads_65 : decode cX12_spreads 65 = .ok (.istore 8, 2) := by decide +kernel
theorem dX12_spreads_67 : decode cX12_spreads 67 = .ok (.iload 8, 2) := by decide +kernel
theorem dX12_spreads_69 : decode cX12_spreads 69 = .ok (.aload_n 0, 1) := by decide +kernel
theorem dX12_spreads_70 : decode cX12_spreads 70 = .ok (.getfield 331, 3) := by decide +kernel
theorem dX12_spreads_73 : decode cX12_spreads 73 = .ok (.if_icmp .ge 97, 3) := by decide +kernel
theorem dX12_spreads_76 : decode cX12_spreads 76 = .ok (.iload 8, 2) := by decide +kernel
theorem dX12_spreads_78 : decode cX12_spreads 78 = .ok (.iconst 1, 1) := by decide +kernel
theorem dX12_spreads_79 : decode cX12_spreads 79 = .ok (.iadd, 1) := by decide +kernel
theorem dX12_spreads_80 : decode cX12_spreads 80 = .ok (.istore 9, 2) := by decide +kernel
theorem dX12_spreads_82 : decode cX12_spreads 82 = .ok (.iload 9, 2) := by decide +kernel
theorem dX12_spreads_84 : decode cX12_spreads 84 = .ok (.aload_n 0, 1) := by decide +kernel
theorem dX12_spreads_85 : decode cX12_spreads 85 = .ok (.getfield 331, 3) := by decide +kernel
theorem dX12_spreads_88 : decode cX12_spreads 88 = .ok (.if_icmp .ge 76, 3) := by decide +kernel
theorem dX12_spreads_91 : decode cX12_spreads 91 = .ok (.aload_n 0, 1) := by decide +kernel
theorem dX12_spreads_92 : decode cX12_spreads 92 = .ok (.getfield 60, 3) := by decide +kernel
theorem dX12_spreads_95 : decode cX12_spreads 95 = .ok (.iload 8, 2) := by decide +kernel
theorem dX12_spreads_97 : decode cX12_spreads 97 = .ok (.iaload, 1) := by decide +kernel
theorem dX12_spreads_98 : decode cX12_spreads 98 = .ok (.aload_n 0, 1) := by decide +kernel
theorem dX12_spreads_99 : decode cX12_spreads 99 = .ok (.getfield 60, 3) := by decide +kernel
theorem dX12_spreads_102 : decode cX12_spreads 102 = .ok (.iload 9, 2) := by decide +kernel
theorem dX12_spreads_104 : decode cX12_spreads 104 = .ok (.iaload, 1) := by decide +kernel
theorem dX12_spreads_105 : decode cX12_spreads 105 = .ok (.if_icmp .ne 53, 3) := by decide +kernel
theorem dX12_spreads_108 : decode cX12_spreads 108 = .ok (.aload_n 0, 1) := by decide +kernel
theorem dX12_spreads_109 : decode cX12_spreads 109 = .ok (.getfield 57, 3) := by decide +kernel
theorem dX12_spreads_112 : decode cX12_spreads 112 = .ok (.iload 8, 2) := by decide +kernel
theorem dX12_spreads_114 : decode cX12_spreads 114 = .ok (.iaload, 1) := by decide +kernel
theorem dX12_spreads_115 : decode cX12_spreads 115 = .ok (.aload_n 0, 1) := by decide +kernel
theorem dX12_spreads_116 : decode cX12_spreads 116 = .ok (.getfield 57, 3) := by decide +kernel
theorem dX12_spreads_119 : decode cX12_spreads 119 = .ok (.iload 9, 2) := by decide +kernel
theorem dX12_spreads_121 : decode cX12_spreads 121 = .ok (.iaload, 1) := by decide +kernel
theorem dX12_spreads_122 : decode cX12_spreads 122 = .ok (.if_icmp .eq 6, 3) := by decide +kernel
theorem dX12_spreads_125 : decode cX12_spreads 125 = .ok (.goto 33, 3) := by decide +kernel
theorem dX12_spreads_128 : decode cX12_spreads 128 = .ok (.aload_n 0, 1) := by decide +kernel
theorem dX12_spreads_129 : decode cX12_spreads 129 = .ok (.invokevirtual 379, 3) := by decide +kernel
theorem dX12_spreads_132 : decode cX12_spreads 132 = .ok (.aload_n 0, 1) := by decide +kernel
theorem dX12_spreads_133 : decode cX12_spreads 133 = .ok (.getfield 82, 3) := by decide +kernel
theorem dX12_spreads_136 : decode cX12_spreads 136 = .ok (.iload 8, 2) := by decide +kernel
theorem dX12_spreads_138 : decode cX12_spreads 138 = .ok (.iload 9, 2) := by decide +kernel
theorem dX12_spreads_140 : decode cX12_spreads 140 = .ok (.iastore, 1) := by decide +kernel
theorem dX12_spreads_141 : decode cX12_spreads 141 = .ok (.aload_n 0, 1) := by decide +kernel
theorem dX12_spreads_142 : decode cX12_spreads 142 = .ok (.getfield 82, 3) := by decide +kernel
theorem dX12_spreads_145 : decode cX12_spreads 145 = .ok (.iload 9, 2) := by decide +kernel
theorem dX12_spreads_147 : decode cX12_spreads 147 = .ok (.iload 8, 2) := by decide +kernel
theorem dX12_spreads_149 : decode cX12_spreads 149 = .ok (.iastore, 1) := by decide +kernel
theorem dX12_spreads_150 : decode cX12_spreads 150 = .ok (.aload_n 0, 1) := by decide +kernel
theorem dX12_spreads_151 : decode cX12_spreads 151 = .ok (.iload 7, 2) := by decide +kernel
theorem dX12_spreads_153 : decode cX12_spreads 153 = .ok (.iload 5, 2) := by decide +kernel
theorem dX12_spreads_155 : decode cX12_spreads 155 = .ok (.invokevirtual 382, 3) := by decide +kernel
theorem dX12_spreads_158 : decode cX12_spreads 158 = .ok (.iinc 9 1, 3) := by decide +kernel
theorem dX12_spreads_161 : decode cX12_spreads 161 = .ok (.goto (-79), 3) := by decide +kernel
theorem dX12_spreads_164 : decode cX12_spreads 164 = .ok (.iinc 8 1, 3) := by decide +kernel
theorem dX12_spreads_167 : decode cX12_spreads 167 = .ok (.goto (-100), 3) := by decide +kernel
theorem dX12_spreads_170 : decode cX12_spreads 170 = .ok (.iconst 0, 1) := by decide +kernel
theorem dX12_spreads_171 : decode cX12_spreads 171 = .ok (.istore 8, 2) := by decide +kernel
theorem dX12_spreads_173 : decode cX12_spreads 173 = .ok (.iload 8, 2) := by decide +kernel
theorem dX12_spreads_175 : decode cX12_spreads 175 = .ok (.iconst 1, 1) := by decide +kernel
theorem dX12_spreads_176 : decode cX12_spreads 176 = .ok (.iadd, 1) := by decide +kernel
theorem dX12_spreads_177 : decode cX12_spreads 177 = .ok (.aload_n 1, 1) := by decide +kernel
theorem dX12_spreads_178 : decode cX12_spreads 178 = .ok (.getfield 339, 3) := by decide +kernel
theorem dX12_spreads_181 : decode cX12_spreads 181 = .ok (.if_icmp .ge 123, 3) := by decide +kernel
theorem dX12_spreads_184 : decode cX12_spreads 184 = .ok (.aload_n 2, 1) := by decide +kernel
theorem dX12_spreads_185 : decode cX12_spreads 185 = .ok (.iload_n 3, 1) := by decide +kernel
theorem dX12_spreads_186 : decode cX12_spreads 186 = .ok (.iload 8, 2) := by decide +kernel
theorem dX12_spreads_188 : decode cX12_spreads 188 = .ok (.iadd, 1) := by decide +kernel
theorem dX12_spreads_189 : decode cX12_spreads 189 = .ok (.iaload, 1) := by decide +kernel
theorem dX12_spreads_190 : decode cX12_spreads 190 = .ok (.aload_n 2, 1) := by decide +kernel
theorem dX12_spreads_191 : decode cX12_spreads 191 = .ok (.iload_n 3, 1) := by decide +kernel
theorem dX12_spreads_192 : decode cX12_spreads 192 = .ok (.iload 8, 2) := by decide +kernel
theorem dX12_spreads_194 : decode cX12_spreads 194 = .ok (.iadd, 1) := by decide +kernel
theorem dX12_spreads_195 : decode cX12_spreads 195 = .ok (.iconst 1, 1) := by decide +kernel
theorem dX12_spreads_196 : decode cX12_spreads 196 = .ok (.iadd, 1) := by decide +kernel
theorem dX12_spreads_197 : decode cX12_spreads 197 = .ok (.iaload, 1) := by decide +kernel
theorem dX12_spreads_198 : decode cX12_spreads 198 = .ok (.if_icmp .eq 6, 3) := by decide +kernel
theorem dX12_spreads_201 : decode cX12_spreads 201 = .ok (.goto 97, 3) := by decide +kernel
theorem dX12_spreads_204 : decode cX12_spreads 204 = .ok (.aload_n 0, 1) := by decide +kernel
theorem dX12_spreads_205 : decode cX12_spreads 205 = .ok (.invokevirtual 379, 3) := by decide +kernel
theorem dX12_spreads_208 : decode cX12_spreads 208 = .ok (.iconst 0, 1) := by decide +kernel
theorem dX12_spreads_209 : decode cX12_spreads 209 = .ok (.istore 9, 2) := by decide +kernel
theorem dX12_spreads_211 : decode cX12_spreads 211 = .ok (.iload 9, 2) := by decide +kernel
theorem dX12_spreads_213 : decode cX12_spreads 213 = .ok (.aload_n 0, 1) := by decide +kernel
theorem dX12_spreads_214 : decode cX12_spreads 214 = .ok (.getfield 312, 3) := by decide +kernel
theorem dX12_spreads_217 : decode cX12_spreads 217 = .ok (.getfield 284, 3) := by decide +kernel
theorem dX12_spreads_220 : decode cX12_spreads 220 = .ok (.aload_n 2, 1) := by decide +kernel
theorem dX12_spreads_221 : decode cX12_spreads 221 = .ok (.iload_n 3, 1) := by decide +kernel
theorem dX12_spreads_222 : decode cX12_spreads 222 = .ok (.iload 8, 2) := by decide +kernel
theorem dX12_spreads_224 : decode cX12_spreads 224 = .ok (.iadd, 1) := by decide +kernel
theorem dX12_spreads_225 : decode cX12_spreads 225 = .ok (.iaload, 1) := by decide +kernel
theorem dX12_spreads_226 : decode cX12_spreads 226 = .ok (.iaload, 1) := by decide +kernel
theorem dX12_spreads_227 : decode cX12_spreads 227 = .ok (.if_icmp .ge 63, 3) := by decide +kernel
theorem dX12_spreads_230 : decode cX12_spreads 230 = .ok (.aload_n 0, 1) := by decide +kernel
theorem dX12_spreads_231 : decode cX12_spreads 231 = .ok (.getfield 82, 3) := by decide +kernel
theorem dX12_spreads_234 : decode cX12_spreads 234 = .ok (.aload_n 0, 1) := by decide +kernel
theorem dX12_spreads_235 : decode cX12_spreads 235 = .ok (.getfield 66, 3) := by decide +kernel
theorem dX12_spreads_238 : decode cX12_spreads 238 = .ok (.iload 8, 2) := by decide +kernel
theorem dX12_spreads_240 : decode cX12_spreads 240 = .ok (.iaload, 1) := by decide +kernel
theorem dX12_spreads_241 : decode cX12_spreads 241 = .ok (.iload 9, 2) := by decide +kernel
theorem dX12_spreads_243 : decode cX12_spreads 243 = .ok (.iadd, 1) := by decide +kernel
theorem dX12_spreads_244 : decode cX12_spreads 244 = .ok (.aload_n 0, 1) := by decide +kernel
theorem dX12_spreads_245 : decode cX12_spreads 245 = .ok (.getfield 66, 3) := by decide +kernel
theorem dX12_spreads_248 : decode cX12_spreads 248 = .ok (.iload 8, 2) := by decide +kernel
theorem dX12_spreads_250 : decode cX12_spreads 250 = .ok (.iconst 1, 1) := by decide +kernel
theorem dX12_spreads_251 : decode cX12_spreads 251 = .ok (.iadd, 1) := by decide +kernel
theorem dX12_spreads_252 : decode cX12_spreads 252 = .ok (.iaload, 1) := by decide +kernel
theorem dX12_spreads_253 : decode cX12_spreads 253 = .ok (.iload 9, 2) := by decide +kernel
theorem dX12_spreads_255 : decode cX12_spreads 255 = .ok (.iadd, 1) := by decide +kernel
theorem dX12_spreads_256 : decode cX12_spreads 256 = .ok (.iastore, 1) := by decide +kernel
theorem dX12_spreads_257 : decode cX12_spreads 257 = .ok (.aload_n 0, 1) := by decide +kernel
theorem dX12_spreads_258 : decode cX12_spreads 258 = .ok (.getfield 82, 3) := by decide +kernel
theorem dX12_spreads_261 : decode cX12_spreads 261 = .ok (.aload_n 0, 1) := by decide +kernel
theorem dX12_spreads_262 : decode cX12_spreads 262 = .ok (.getfield 66, 3) := by decide +kernel
theorem dX12_spreads_265 : decode cX12_spreads 265 = .ok (.iload 8, 2) := by decide +kernel
theorem dX12_spreads_267 : decode cX12_spreads 267 = .ok (.iconst 1, 1) := by decide +kernel
theorem dX12_spreads_268 : decode cX12_spreads 268 = .ok (.iadd, 1) := by decide +kernel
theorem dX12_spreads_269 : decode cX12_spreads 269 = .ok (.iaload, 1) := by decide +kernel
theorem dX12_spreads_270 : decode cX12_spreads 270 = .ok (.iload 9, 2) := by decide +kernel
theorem dX12_spreads_272 : decode cX12_spreads 272 = .ok (.iadd, 1) := by decide +kernel
theorem dX12_spreads_273 : decode cX12_spreads 273 = .ok (.aload_n 0, 1) := by decide +kernel
theorem dX12_spreads_274 : decode cX12_spreads 274 = .ok (.getfield 66, 3) := by decide +kernel
theorem dX12_spreads_277 : decode cX12_spreads 277 = .ok (.iload 8, 2) := by decide +kernel
theorem dX12_spreads_279 : decode cX12_spreads 279 = .ok (.iaload, 1) := by decide +kernel
theorem dX12_spreads_280 : decode cX12_spreads 280 = .ok (.iload 9, 2) := by decide +kernel
theorem dX12_spreads_282 : decode cX12_spreads 282 = .ok (.iadd, 1) := by decide +kernel
theorem dX12_spreads_283 : decode cX12_spreads 283 = .ok (.iastore, 1) := by decide +kernel
theorem dX12_spreads_284 : decode cX12_spreads 284 = .ok (.iinc 9 1, 3) := by decide +kernel
theorem dX12_spreads_287 : decode cX12_spreads 287 = .ok (.goto (-76), 3) := by decide +kernel
theorem dX12_spreads_290 : decode cX12_spreads 290 = .ok (.aload_n 0, 1) := by decide +kernel
theorem dX12_spreads_291 : decode cX12_spreads 291 = .ok (.iload 7, 2) := by decide +kernel
theorem dX12_spreads_293 : decode cX12_spreads 293 = .ok (.iload 5, 2) := by decide +kernel
theorem dX12_spreads_295 : decode cX12_spreads 295 = .ok (.invokevirtual 382, 3) := by decide +kernel
theorem dX12_spreads_298 : decode cX12_spreads 298 = .ok (.iinc 8 1, 3) := by decide +kernel
theorem dX12_spreads_301 : decode cX12_spreads 301 = .ok (.goto (-128), 3) := by decide +kernel
theorem dX12_spreads_304 : decode cX12_spreads 304 = .ok (.goto (-274), 3) := by decide +kernel
theorem dX12_spreads_307 : decode cX12_spreads 307 = .ok (.iload 6, 2) := by decide +kernel
theorem dX12_spreads_309 : decode cX12_spreads 309 = .ok (.ireturn, 1) := by decide +kernel
theorem dX12_namingsOf_0 : decode cX12_namingsOf 0 = .ok (.iconst 1, 1) := by decide +kernel
theorem dX12_namingsOf_1 : decode cX12_namingsOf 1 = .ok (.istore 4, 2) := by decide +kernel
theorem dX12_namingsOf_3 : decode cX12_namingsOf 3 = .ok (.iconst 0, 1) := by decide +kernel
theorem dX12_namingsOf_4 : decode cX12_namingsOf 4 = .ok (.istore 5, 2) := by decide +kernel
theorem dX12_namingsOf_6 : decode cX12_namingsOf 6 = .ok (.iload 5, 2) := by decide +kernel
theorem dX12_namingsOf_8 : decode cX12_namingsOf 8 = .ok (.aload_n 1, 1) := by decide +kernel
theorem dX12_namingsOf_9 : decode cX12_namingsOf 9 = .ok (.getfield 339, 3) := by decide +kernel
theorem dX12_namingsOf_12 : decode cX12_namingsOf 12 = .ok (.if_icmp .ge 161, 3) := by decide +kernel
theorem dX12_namingsOf_15 : decode cX12_namingsOf 15 = .ok (.iconst 1, 1) := by decide +kernel
theorem dX12_namingsOf_16 : decode cX12_namingsOf 16 = .ok (.istore 6, 2) := by decide +kernel
theorem dX12_namingsOf_18 : decode cX12_namingsOf 18 = .ok (.iconst 0, 1) := by decide +kernel
theorem dX12_namingsOf_19 : decode cX12_namingsOf 19 = .ok (.istore 7, 2) := by decide +kernel
theorem dX12_namingsOf_21 : decode cX12_namingsOf 21 = .ok (.iload 7, 2) := by decide +kernel
theorem dX12_namingsOf_23 : decode cX12_namingsOf 23 = .ok (.iload 5, 2) := by decide +kernel
theorem dX12_namingsOf_25 : decode cX12_namingsOf 25 = .ok (.if_icmp .ge 34, 3) := by decide +kernel
theorem dX12_namingsOf_28 : decode cX12_namingsOf 28 = .ok (.iload 6, 2) := by decide +kernel
theorem dX12_namingsOf_30 : decode cX12_namingsOf 30 = .ok (.aload_n 2, 1) := by decide +kernel
theorem dX12_namingsOf_31 : decode cX12_namingsOf 31 = .ok (.iload_n 3, 1) := by decide +kernel
theorem dX12_namingsOf_32 : decode cX12_namingsOf 32 = .ok (.iload 7, 2) := by decide +kernel
theorem dX12_namingsOf_34 : decode cX12_namingsOf 34 = .ok (.iadd, 1) := by decide +kernel
theorem dX12_namingsOf_35 : decode cX12_namingsOf 35 = .ok (.iaload, 1) := by decide +kernel
theorem dX12_namingsOf_36 : decode cX12_namingsOf 36 = .ok (.aload_n 2, 1) := by decide +kernel
theorem dX12_namingsOf_37 : decode cX12_namingsOf 37 = .ok (.iload_n 3, 1) := by decide +kernel
theorem dX12_namingsOf_38 : decode cX12_namingsOf 38 = .ok (.iload 5, 2) := by decide +kernel
theorem dX12_namingsOf_40 : decode cX12_namingsOf 40 = .ok (.iadd, 1) := by decide +kernel
theorem dX12_namingsOf_41 : decode cX12_namingsOf 41 = .ok (.iaload, 1) := by decide +kernel
theorem dX12_namingsOf_42 : decode cX12_namingsOf 42 = .ok (.if_icmp .ne 7, 3) := by decide +kernel
theorem dX12_namingsOf_45 : decode cX12_namingsOf 45 = .ok (.iconst 1, 1) := by decide +kernel
theorem dX12_namingsOf_46 : decode cX12_namingsOf 46 = .ok (.goto 4, 3) := by decide +kernel
theorem dX12_namingsOf_49 : decode cX12_namingsOf 49 = .ok (.iconst 0, 1) := by decide +kernel
theorem dX12_namingsOf_50 : decode cX12_namingsOf 50 = .ok (.iadd, 1) := by decide +kernel
theorem dX12_namingsOf_51 : decode cX12_namingsOf 51 = .ok (.istore 6, 2) := by decide +kernel
theorem dX12_namingsOf_53 : decode cX12_namingsOf 53 = .ok (.iinc 7 1, 3) := by decide +kernel
theorem dX12_namingsOf_56 : decode cX12_namingsOf 56 = .ok (.goto (-35), 3) := by decide +kernel
theorem dX12_namingsOf_59 : decode cX12_namingsOf 59 = .ok (.iload 4, 2) := by decide +kernel
theorem dX12_namingsOf_61 : decode cX12_namingsOf 61 = .ok (.iload 6, 2) := by decide +kernel
theorem dX12_namingsOf_63 : decode cX12_namingsOf 63 = .ok (.imul, 1) := by decide +kernel
theorem dX12_namingsOf_64 : decode cX12_namingsOf 64 = .ok (.istore 4, 2) := by decide +kernel
theorem dX12_namingsOf_66 : decode cX12_namingsOf 66 = .ok (.aload_n 2, 1) := by decide +kernel
theorem dX12_namingsOf_67 : decode cX12_namingsOf 67 = .ok (.iload_n 3, 1) := by decide +kernel
theorem dX12_namingsOf_68 : decode cX12_namingsOf 68 = .ok (.iload 5, 2) := by decide +kernel
theorem dX12_namingsOf_70 : decode cX12_namingsOf 70 = .ok (.iadd, 1) := by decide +kernel
theorem dX12_namingsOf_71 : decode cX12_namingsOf 71 = .ok (.iaload, 1) := by decide +kernel
theorem dX12_namingsOf_72 : decode cX12_namingsOf 72 = .ok (.istore 7, 2) := by decide +kernel
theorem dX12_namingsOf_74 : decode cX12_namingsOf 74 = .ok (.iconst 0, 1) := by decide +kernel
theorem dX12_namingsOf_75 : decode cX12_namingsOf 75 = .ok (.istore 8, 2) := by decide +kernel
theorem dX12_namingsOf_77 : decode cX12_namingsOf 77 = .ok (.iload 8, 2) := by decide +kernel
theorem dX12_namingsOf_79 : decode cX12_namingsOf 79 = .ok (.aload_n 0, 1) := by decide +kernel
theorem dX12_namingsOf_80 : decode cX12_namingsOf 80 = .ok (.getfield 312, 3) := by decide +kernel
theorem dX12_namingsOf_83 : decode cX12_namingsOf 83 = .ok (.getfield 284, 3) := by decide +kernel
theorem dX12_namingsOf_86 : decode cX12_namingsOf 86 = .ok (.iload 7, 2) := by decide +kernel
theorem dX12_namingsOf_88 : decode cX12_namingsOf 88 = .ok (.iaload, 1) := by decide +kernel
theorem dX12_namingsOf_89 : decode cX12_namingsOf 89 = .ok (.if_icmp .ge 78, 3) := by decide +kernel
theorem dX12_namingsOf_92 : decode cX12_namingsOf 92 = .ok (.iconst 1, 1) := by decide +kernel
theorem dX12_namingsOf_93 : decode cX12_namingsOf 93 = .ok (.istore 9, 2) := by decide +kernel
theorem dX12_namingsOf_95 : decode cX12_namingsOf 95 = .ok (.iconst 0, 1) := by decide +kernel
theorem dX12_namingsOf_96 : decode cX12_namingsOf 96 = .ok (.istore 10, 2) := by decide +kernel
theorem dX12_namingsOf_98 : decode cX12_namingsOf 98 = .ok (.iload 10, 2) := by decide +kernel
theorem dX12_namingsOf_100 : decode cX12_namingsOf 100 = .ok (.iload 8, 2) := by decide +kernel
theorem dX12_namingsOf_102 : decode cX12_namingsOf 102 = .ok (.if_icmp .ge 52, 3) := by decide +kernel
theorem dX12_namingsOf_105 : decode cX12_namingsOf 105 = .ok (.iload 9, 2) := by decide +kernel
theorem dX12_namingsOf_107 : decode cX12_namingsOf 107 = .ok (.aload_n 0, 1) := by decide +kernel
theorem dX12_namingsOf_108 : decode cX12_namingsOf 108 = .ok (.getfield 312, 3) := by decide +kernel
theorem dX12_namingsOf_111 : decode cX12_namingsOf 111 = .ok (.getfield 281, 3) := by decide +kernel
theorem dX12_namingsOf_114 : decode cX12_namingsOf 114 = .ok (.iconst 4, 1) := by decide +kernel
theorem dX12_namingsOf_115 : decode cX12_namingsOf 115 = .ok (.iload 7, 2) := by decide +kernel
theorem dX12_namingsOf_117 : decode cX12_namingsOf 117 = .ok (.imul, 1) := by decide +kernel
theorem dX12_namingsOf_118 : decode cX12_namingsOf 118 = .ok (.iload 10, 2) := by decide +kernel
theorem dX12_namingsOf_120 : decode cX12_namingsOf 120 = .ok (.iadd, 1) := by decide +kernel
theorem dX12_namingsOf_121 : decode cX12_namingsOf 121 = .ok (.iaload, 1) := by decide +kernel
theorem dX12_namingsOf_122 : decode cX12_namingsOf 122 = .ok (.aload_n 0, 1) := by decide +kernel
theorem dX12_namingsOf_123 : decode cX12_namingsOf 123 = .ok (.getfield 312, 3) := by decide +kernel
theorem dX12_namingsOf_126 : decode cX12_namingsOf 126 = .ok (.getfield 281, 3) := by decide +kernel
theorem dX12_namingsOf_129 : decode cX12_namingsOf 129 = .ok (.iconst 4, 1) := by decide +kernel
theorem dX12_namingsOf_130 : decode cX12_namingsOf 130 = .ok (.iload 7, 2) := by decide +kernel
theorem dX12_namingsOf_132 : decode cX12_namingsOf 132 = .ok (.imul, 1) := by decide +kernel
theorem dX12_namingsOf_133 : decode cX12_namingsOf 133 = .ok (.iload 8, 2) := by decide +kernel
theorem dX12_namingsOf_135 : decode cX12_namingsOf 135 = .ok (.iadd, 1) := by decide +kernel
theorem dX12_namingsOf_136 : decode cX12_namingsOf 136 = .ok (.iaload, 1) := by decide +kernel
theorem dX12_namingsOf_137 : decode cX12_namingsOf 137 = .ok (.if_icmp .ne 7, 3) := by decide +kernel
theorem dX12_namingsOf_140 : decode cX12_namingsOf 140 = .ok (.iconst 1, 1) := by decide +kernel
theorem dX12_namingsOf_141 : decode cX12_namingsOf 141 = .ok (.goto 4, 3) := by decide +kernel
theorem dX12_namingsOf_144 : decode cX12_namingsOf 144 = .ok (.iconst 0, 1) := by decide +kernel
theorem dX12_namingsOf_145 : decode cX12_namingsOf 145 = .ok (.iadd, 1) := by decide +kernel
theorem dX12_namingsOf_146 : decode cX12_namingsOf 146 = .ok (.istore 9, 2) := by decide +kernel
theorem dX12_namingsOf_148 : decode cX12_namingsOf 148 = .ok (.iinc 10 1, 3) := by decide +kernel
theorem dX12_namingsOf_151 : decode cX12_namingsOf 151 = .ok (.goto (-53), 3) := by decide +kernel
theorem dX12_namingsOf_154 : decode cX12_namingsOf 154 = .ok (.iload 4, 2) := by decide +kernel
theorem dX12_namingsOf_156 : decode cX12_namingsOf 156 = .ok (.iload 9, 2) := by decide +kernel
theorem dX12_namingsOf_158 : decode cX12_namingsOf 158 = .ok (.imul, 1) := by decide +kernel
theorem dX12_namingsOf_159 : decode cX12_namingsOf 159 = .ok (.istore 4, 2) := by decide +kernel
theorem dX12_namingsOf_161 : decode cX12_namingsOf 161 = .ok (.iinc 8 1, 3) := by decide +kernel
theorem dX12_namingsOf_164 : decode cX12_namingsOf 164 = .ok (.goto (-87), 3) := by decide +kernel
theorem dX12_namingsOf_167 : decode cX12_namingsOf 167 = .ok (.iinc 5 1, 3) := by decide +kernel
theorem dX12_namingsOf_170 : decode cX12_namingsOf 170 = .ok (.goto (-164), 3) := by decide +kernel
theorem dX12_namingsOf_173 : decode cX12_namingsOf 173 = .ok (.iload 4, 2) := by decide +kernel
theorem dX12_namingsOf_175 : decode cX12_namingsOf 175 = .ok (.ireturn, 1) := by decide +kernel
theorem dX12_lists_0 : decode cX12_lists 0 = .ok (.iload_n 2, 1) := by decide +kernel
theorem dX12_lists_1 : decode cX12_lists 1 = .ok (.aload_n 1, 1) := by decide +kernel
theorem dX12_lists_2 : decode cX12_lists 2 = .ok (.getfield 339, 3) := by decide +kernel
theorem dX12_lists_5 : decode cX12_lists 5 = .ok (.if_icmp .ne 9, 3) := by decide +kernel
theorem dX12_lists_8 : decode cX12_lists 8 = .ok (.aload_n 0, 1) := by decide +kernel
theorem dX12_lists_9 : decode cX12_lists 9 = .ok (.aload_n 1, 1) := by decide +kernel
theorem dX12_lists_10 : decode cX12_lists 10 = .ok (.invokevirtual 385, 3) := by decide +kernel
theorem dX12_lists_13 : decode cX12_lists 13 = .ok (.ireturn, 1) := by decide +kernel
theorem dX12_lists_14 : decode cX12_lists 14 = .ok (.iload_n 3, 1) := by decide +kernel
theorem dX12_lists_15 : decode cX12_lists 15 = .ok (.istore 4, 2) := by decide +kernel
theorem dX12_lists_17 : decode cX12_lists 17 = .ok (.iload 4, 2) := by decide +kernel
theorem dX12_lists_19 : decode cX12_lists 19 = .ok (.aload_n 0, 1) := by decide +kernel
theorem dX12_lists_20 : decode cX12_lists 20 = .ok (.getfield 312, 3) := by decide +kernel
theorem dX12_lists_23 : decode cX12_lists 23 = .ok (.getfield 278, 3) := by decide +kernel
theorem dX12_lists_26 : decode cX12_lists 26 = .ok (.if_icmp .ge 32, 3) := by decide +kernel
theorem dX12_lists_29 : decode cX12_lists 29 = .ok (.aload_n 0, 1) := by decide +kernel
theorem dX12_lists_30 : decode cX12_lists 30 = .ok (.getfield 88, 3) := by decide +kernel
theorem dX12_lists_33 : decode cX12_lists 33 = .ok (.iload_n 2, 1) := by decide +kernel
theorem dX12_lists_34 : decode cX12_lists 34 = .ok (.iload 4, 2) := by decide +kernel
theorem dX12_lists_36 : decode cX12_lists 36 = .ok (.iastore, 1) := by decide +kernel
theorem dX12_lists_37 : decode cX12_lists 37 = .ok (.aload_n 0, 1) := by decide +kernel
theorem dX12_lists_38 : decode cX12_lists 38 = .ok (.aload_n 1, 1) := by decide +kernel
theorem dX12_lists_39 : decode cX12_lists 39 = .ok (.iload_n 2, 1) := by decide +kernel
theorem dX12_lists_40 : decode cX12_lists 40 = .ok (.iconst 1, 1) := by decide +kernel
theorem dX12_lists_41 : decode cX12_lists 41 = .ok (.iadd, 1) := by decide +kernel
theorem dX12_lists_42 : decode cX12_lists 42 = .ok (.iload 4, 2) := by decide +kernel
theorem dX12_lists_44 : decode cX12_lists 44 = .ok (.invokevirtual 389, 3) := by decide +kernel
theorem dX12_lists_47 : decode cX12_lists 47 = .ok (.ifCond .ne 5, 3) := by decide +kernel
theorem dX12_lists_50 : decode cX12_lists 50 = .ok (.iconst 0, 1) := by decide +kernel
theorem dX12_lists_51 : decode cX12_lists 51 = .ok (.ireturn, 1) := by decide +kernel
theorem dX12_lists_52 : decode cX12_lists 52 = .ok (.iinc 4 1, 3) := by decide +kernel
theorem dX12_lists_55 : decode cX12_lists 55 = .ok (.goto (-38), 3) := by decide +kernel
theorem dX12_lists_58 : decode cX12_lists 58 = .ok (.iconst 1, 1) := by decide +kernel
theorem dX12_lists_59 : decode cX12_lists 59 = .ok (.ireturn, 1) := by decide +kernel
theorem dX12_listsOf_0 : decode cX12_listsOf 0 = .ok (.aload_n 0, 1) := by decide +kernel
theorem dX12_listsOf_1 : decode cX12_listsOf 1 = .ok (.aload_n 1, 1) := by decide +kernel
theorem dX12_listsOf_2 : decode cX12_listsOf 2 = .ok (.aload_n 0, 1) := by decide +kernel
theorem dX12_listsOf_3 : decode cX12_listsOf 3 = .ok (.getfield 88, 3) := by decide +kernel
theorem dX12_listsOf_6 : decode cX12_listsOf 6 = .ok (.iconst 0, 1) := by decide +kernel
theorem dX12_listsOf_7 : decode cX12_listsOf 7 = .ok (.invokevirtual 393, 3) := by decide +kernel
theorem dX12_listsOf_10 : decode cX12_listsOf 10 = .ok (.ifCond .ne 5, 3) := by decide +kernel
theorem dX12_listsOf_13 : decode cX12_listsOf 13 = .ok (.iconst 1, 1) := by decide +kernel
theorem dX12_listsOf_14 : decode cX12_listsOf 14 = .ok (.ireturn, 1) := by decide +kernel
theorem dX12_listsOf_15 : decode cX12_listsOf 15 = .ok (.aload_n 0, 1) := by decide +kernel
theorem dX12_listsOf_16 : decode cX12_listsOf 16 = .ok (.invokevirtual 397, 3) := by decide +kernel
theorem dX12_listsOf_19 : decode cX12_listsOf 19 = .ok (.aload_n 0, 1) := by decide +kernel
theorem dX12_listsOf_20 : decode cX12_listsOf 20 = .ok (.aload_n 1, 1) := by decide +kernel
theorem dX12_listsOf_21 : decode cX12_listsOf 21 = .ok (.aload_n 0, 1) := by decide +kernel
theorem dX12_listsOf_22 : decode cX12_listsOf 22 = .ok (.getfield 88, 3) := by decide +kernel
theorem dX12_listsOf_25 : decode cX12_listsOf 25 = .ok (.iconst 0, 1) := by decide +kernel
theorem dX12_listsOf_26 : decode cX12_listsOf 26 = .ok (.invokevirtual 400, 3) := by decide +kernel
theorem dX12_listsOf_29 : decode cX12_listsOf 29 = .ok (.istore_n 2, 1) := by decide +kernel
theorem dX12_listsOf_30 : decode cX12_listsOf 30 = .ok (.iconst 0, 1) := by decide +kernel
theorem dX12_listsOf_31 : decode cX12_listsOf 31 = .ok (.istore_n 3, 1) := by decide +kernel
theorem dX12_listsOf_32 : decode cX12_listsOf 32 = .ok (.iload_n 3, 1) := by decide +kernel
theorem dX12_listsOf_33 : decode cX12_listsOf 33 = .ok (.aload_n 0, 1) := by decide +kernel
theorem dX12_listsOf_34 : decode cX12_listsOf 34 = .ok (.getfield 353, 3) := by decide +kernel
theorem dX12_listsOf_37 : decode cX12_listsOf 37 = .ok (.if_icmp .ge 144, 3) := by decide +kernel
theorem dX12_listsOf_40 : decode cX12_listsOf 40 = .ok (.aload_n 0, 1) := by decide +kernel
theorem dX12_listsOf_41 : decode cX12_listsOf 41 = .ok (.getfield 76, 3) := by decide +kernel
theorem dX12_listsOf_44 : decode cX12_listsOf 44 = .ok (.iload_n 3, 1) := by decide +kernel
theorem dX12_listsOf_45 : decode cX12_listsOf 45 = .ok (.iaload, 1) := by decide +kernel
theorem dX12_listsOf_46 : decode cX12_listsOf 46 = .ok (.iconst (-1), 1) := by decide +kernel
theorem dX12_listsOf_47 : decode cX12_listsOf 47 = .ok (.if_icmp .eq 6, 3) := by decide +kernel
theorem dX12_listsOf_50 : decode cX12_listsOf 50 = .ok (.goto 125, 3) := by decide +kernel
theorem dX12_listsOf_53 : decode cX12_listsOf 53 = .ok (.aload_n 1, 1) := by decide +kernel
theorem dX12_listsOf_54 : decode cX12_listsOf 54 = .ok (.getfield 404, 3) := by decide +kernel
theorem dX12_listsOf_57 : decode cX12_listsOf 57 = .ok (.sipush 200, 3) := by decide +kernel
theorem dX12_listsOf_60 : decode cX12_listsOf 60 = .ok (.if_icmp .ne 5, 3) := by decide +kernel
theorem dX12_listsOf_63 : decode cX12_listsOf 63 = .ok (.iconst 0, 1) := by decide +kernel
theorem dX12_listsOf_64 : decode cX12_listsOf 64 = .ok (.ireturn, 1) := by decide +kernel
theorem dX12_listsOf_65 : decode cX12_listsOf 65 = .ok (.aload_n 1, 1) := by decide +kernel
theorem dX12_listsOf_66 : decode cX12_listsOf 66 = .ok (.getfield 404, 3) := by decide +kernel
theorem dX12_listsOf_69 : decode cX12_listsOf 69 = .ok (.istore 4, 2) := by decide +kernel
theorem dX12_listsOf_71 : decode cX12_listsOf 71 = .ok (.aload_n 1, 1) := by decide +kernel
theorem dX12_listsOf_72 : decode cX12_listsOf 72 = .ok (.dup, 1) := by decide +kernel
theorem dX12_listsOf_73 : decode cX12_listsOf 73 = .ok (.getfield 404, 3) := by decide +kernel
theorem dX12_listsOf_76 : decode cX12_listsOf 76 = .ok (.iconst 1, 1) := by decide +kernel
theorem dX12_listsOf_77 : decode cX12_listsOf 77 = .ok (.iadd, 1) := by decide +kernel
theorem dX12_listsOf_78 : decode cX12_listsOf 78 = .ok (.putfield 404, 3) := by decide +kernel
theorem dX12_listsOf_81 : decode cX12_listsOf 81 = .ok (.iconst 0, 1) := by decide +kernel
theorem dX12_listsOf_82 : decode cX12_listsOf 82 = .ok (.istore 5, 2) := by decide +kernel
theorem dX12_listsOf_84 : decode cX12_listsOf 84 = .ok (.iload 5, 2) := by decide +kernel
theorem dX12_listsOf_86 : decode cX12_listsOf 86 = .ok (.aload_n 1, 1) := by decide +kernel
theorem dX12_listsOf_87 : decode cX12_listsOf 87 = .ok (.getfield 339, 3) := by decide +kernel
theorem dX12_listsOf_90 : decode cX12_listsOf 90 = .ok (.if_icmp .ge 28, 3) := by decide +kernel
theorem dX12_listsOf_93 : decode cX12_listsOf 93 = .ok (.aload_n 1, 1) := by decide +kernel
theorem dX12_listsOf_94 : decode cX12_listsOf 94 = .ok (.getfield 407, 3) := by decide +kernel
theorem dX12_listsOf_97 : decode cX12_listsOf 97 = .ok (.iconst 3, 1) := by decide +kernel
theorem dX12_listsOf_98 : decode cX12_listsOf 98 = .ok (.iload 4, 2) := by decide +kernel
theorem dX12_listsOf_100 : decode cX12_listsOf 100 = .ok (.imul, 1) := by decide +kernel
theorem dX12_listsOf_101 : decode cX12_listsOf 101 = .ok (.iload 5, 2) := by decide +kernel
theorem dX12_listsOf_103 : decode cX12_listsOf 103 = .ok (.iadd, 1) := by decide +kernel
theorem dX12_listsOf_104 : decode cX12_listsOf 104 = .ok (.aload_n 0, 1) := by decide +kernel
theorem dX12_listsOf_105 : decode cX12_listsOf 105 = .ok (.getfield 88, 3) := by decide +kernel
theorem dX12_listsOf_108 : decode cX12_listsOf 108 = .ok (.iload 5, 2) := by decide +kernel
theorem dX12_listsOf_110 : decode cX12_listsOf 110 = .ok (.iaload, 1) := by decide +kernel
theorem dX12_listsOf_111 : decode cX12_listsOf 111 = .ok (.iastore, 1) := by decide +kernel
theorem dX12_listsOf_112 : decode cX12_listsOf 112 = .ok (.iinc 5 1, 3) := by decide +kernel
theorem dX12_listsOf_115 : decode cX12_listsOf 115 = .ok (.goto (-31), 3) := by decide +kernel
theorem dX12_listsOf_118 : decode cX12_listsOf 118 = .ok (.aload_n 1, 1) := by decide +kernel
theorem dX12_listsOf_119 : decode cX12_listsOf 119 = .ok (.getfield 410, 3) := by decide +kernel
theorem dX12_listsOf_122 : decode cX12_listsOf 122 = .ok (.iload 4, 2) := by decide +kernel
theorem dX12_listsOf_124 : decode cX12_listsOf 124 = .ok (.aload_n 0, 1) := by decide +kernel
theorem dX12_listsOf_125 : decode cX12_listsOf 125 = .ok (.getfield 72, 3) := by decide +kernel
theorem dX12_listsOf_128 : decode cX12_listsOf 128 = .ok (.iload_n 3, 1) := by decide +kernel
theorem dX12_listsOf_129 : decode cX12_listsOf 129 = .ok (.laload, 1) := by decide +kernel
theorem dX12_listsOf_130 : decode cX12_listsOf 130 = .ok (.lastore, 1) := by decide +kernel
theorem dX12_listsOf_131 : decode cX12_listsOf 131 = .ok (.aload_n 1, 1) := by decide +kernel
theorem dX12_listsOf_132 : decode cX12_listsOf 132 = .ok (.getfield 413, 3) := by decide +kernel
theorem dX12_listsOf_135 : decode cX12_listsOf 135 = .ok (.iload 4, 2) := by decide +kernel
theorem dX12_listsOf_137 : decode cX12_listsOf 137 = .ok (.iload_n 2, 1) := by decide +kernel
theorem dX12_listsOf_138 : decode cX12_listsOf 138 = .ok (.iastore, 1) := by decide +kernel
theorem dX12_listsOf_139 : decode cX12_listsOf 139 = .ok (.aload_n 1, 1) := by decide +kernel
theorem dX12_listsOf_140 : decode cX12_listsOf 140 = .ok (.getfield 416, 3) := by decide +kernel
theorem dX12_listsOf_143 : decode cX12_listsOf 143 = .ok (.iload 4, 2) := by decide +kernel
theorem dX12_listsOf_145 : decode cX12_listsOf 145 = .ok (.aload_n 0, 1) := by decide +kernel
theorem dX12_listsOf_146 : decode cX12_listsOf 146 = .ok (.aload_n 1, 1) := by decide +kernel
theorem dX12_listsOf_147 : decode cX12_listsOf 147 = .ok (.aload_n 0, 1) := by decide +kernel
theorem dX12_listsOf_148 : decode cX12_listsOf 148 = .ok (.getfield 88, 3) := by decide +kernel
theorem dX12_listsOf_151 : decode cX12_listsOf 151 = .ok (.iconst 0, 1) := by decide +kernel
theorem dX12_listsOf_152 : decode cX12_listsOf 152 = .ok (.iload_n 3, 1) := by decide +kernel
theorem dX12_listsOf_153 : decode cX12_listsOf 153 = .ok (.iload 4, 2) := by decide +kernel
theorem dX12_listsOf_155 : decode cX12_listsOf 155 = .ok (.invokevirtual 419, 3) := by decide +kernel
theorem dX12_listsOf_158 : decode cX12_listsOf 158 = .ok (.iastore, 1) := by decide +kernel
theorem dX12_listsOf_159 : decode cX12_listsOf 159 = .ok (.aload_n 1, 1) := by decide +kernel
theorem dX12_listsOf_160 : decode cX12_listsOf 160 = .ok (.dup, 1) := by decide +kernel
theorem dX12_listsOf_161 : decode cX12_listsOf 161 = .ok (.getfield 423, 3) := by decide +kernel
theorem dX12_listsOf_164 : decode cX12_listsOf 164 = .ok (.aload_n 1, 1) := by decide +kernel
theorem dX12_listsOf_165 : decode cX12_listsOf 165 = .ok (.getfield 416, 3) := by decide +kernel
theorem dX12_listsOf_168 : decode cX12_listsOf 168 = .ok (.iload 4, 2) := by decide +kernel
theorem dX12_listsOf_170 : decode cX12_listsOf 170 = .ok (.iaload, 1) := by decide +kernel
theorem dX12_listsOf_171 : decode cX12_listsOf 171 = .ok (.iadd, 1) := by decide +kernel
theorem dX12_listsOf_172 : decode cX12_listsOf 172 = .ok (.putfield 423, 3) := by decide +kernel
theorem dX12_listsOf_175 : decode cX12_listsOf 175 = .ok (.iinc 3 1, 3) := by decide +kernel
theorem dX12_listsOf_178 : decode cX12_listsOf 178 = .ok (.goto (-146), 3) := by decide +kernel
theorem dX12_listsOf_181 : decode cX12_listsOf 181 = .ok (.iconst 1, 1) := by decide +kernel
theorem dX12_listsOf_182 : decode cX12_listsOf 182 = .ok (.ireturn, 1) := by decide +kernel
theorem dX12_fills_0 : decode cX12_fills 0 = .ok (.aload_n 1, 1) := by decide +kernel
theorem dX12_fills_1 : decode cX12_fills 1 = .ok (.iload_n 2, 1) := by decide +kernel
theorem dX12_fills_2 : decode cX12_fills 2 = .ok (.putfield 339, 3) := by decide +kernel
theorem dX12_fills_5 : decode cX12_fills 5 = .ok (.aload_n 1, 1) := by decide +kernel
theorem dX12_fills_6 : decode cX12_fills 6 = .ok (.iconst 0, 1) := by decide +kernel
theorem dX12_fills_7 : decode cX12_fills 7 = .ok (.putfield 404, 3) := by decide +kernel
theorem dX12_fills_10 : decode cX12_fills 10 = .ok (.aload_n 1, 1) := by decide +kernel
theorem dX12_fills_11 : decode cX12_fills 11 = .ok (.iconst 0, 1) := by decide +kernel
theorem dX12_fills_12 : decode cX12_fills 12 = .ok (.putfield 423, 3) := by decide +kernel
theorem dX12_fills_15 : decode cX12_fills 15 = .ok (.aload_n 0, 1) := by decide +kernel
theorem dX12_fills_16 : decode cX12_fills 16 = .ok (.aload_n 1, 1) := by decide +kernel
theorem dX12_fills_17 : decode cX12_fills 17 = .ok (.iconst 0, 1) := by decide +kernel
theorem dX12_fills_18 : decode cX12_fills 18 = .ok (.iconst 0, 1) := by decide +kernel
theorem dX12_fills_19 : decode cX12_fills 19 = .ok (.invokevirtual 389, 3) := by decide +kernel
theorem dX12_fills_22 : decode cX12_fills 22 = .ok (.ireturn, 1) := by decide +kernel
theorem dX12_copiesEnds_0 : decode cX12_copiesEnds 0 = .ok (.aload_n 1, 1) := by decide +kernel
theorem dX12_copiesEnds_1 : decode cX12_copiesEnds 1 = .ok (.aload_n 0, 1) := by decide +kernel
theorem dX12_copiesEnds_2 : decode cX12_copiesEnds 2 = .ok (.getfield 315, 3) := by decide +kernel
theorem dX12_copiesEnds_5 : decode cX12_copiesEnds 5 = .ok (.putfield 333, 3) := by decide +kernel
theorem dX12_copiesEnds_8 : decode cX12_copiesEnds 8 = .ok (.iconst 0, 1) := by decide +kernel
theorem dX12_copiesEnds_9 : decode cX12_copiesEnds 9 = .ok (.istore_n 2, 1) := by decide +kernel
theorem dX12_copiesEnds_10 : decode cX12_copiesEnds 10 = .ok (.iload_n 2, 1) := by decide +kernel
theorem dX12_copiesEnds_11 : decode cX12_copiesEnds 11 = .ok (.aload_n 0, 1) := by decide +kernel
theorem dX12_copiesEnds_12 : decode cX12_copiesEnds 12 = .ok (.getfield 315, 3) := by decide +kernel
theorem dX12_copiesEnds_15 : decode cX12_copiesEnds 15 = .ok (.if_icmp .ge 33, 3) := by decide +kernel
theorem dX12_copiesEnds_18 : decode cX12_copiesEnds 18 = .ok (.aload_n 1, 1) := by decide +kernel
theorem dX12_copiesEnds_19 : decode cX12_copiesEnds 19 = .ok (.getfield 334, 3) := by decide +kernel
theorem dX12_copiesEnds_22 : decode cX12_copiesEnds 22 = .ok (.iload_n 2, 1) := by decide +kernel
theorem dX12_copiesEnds_23 : decode cX12_copiesEnds 23 = .ok (.aload_n 0, 1) := by decide +kernel
theorem dX12_copiesEnds_24 : decode cX12_copiesEnds 24 = .ok (.getfield 34, 3) := by decide +kernel
theorem dX12_copiesEnds_27 : decode cX12_copiesEnds 27 = .ok (.iload_n 2, 1) := by decide +kernel
theorem dX12_copiesEnds_28 : decode cX12_copiesEnds 28 = .ok (.iaload, 1) := by decide +kernel
theorem dX12_copiesEnds_29 : decode cX12_copiesEnds 29 = .ok (.iastore, 1) := by decide +kernel
theorem dX12_copiesEnds_30 : decode cX12_copiesEnds 30 = .ok (.aload_n 1, 1) := by decide +kernel
theorem dX12_copiesEnds_31 : decode cX12_copiesEnds 31 = .ok (.getfield 426, 3) := by decide +kernel
theorem dX12_copiesEnds_34 : decode cX12_copiesEnds 34 = .ok (.iload_n 2, 1) := by decide +kernel
theorem dX12_copiesEnds_35 : decode cX12_copiesEnds 35 = .ok (.aload_n 0, 1) := by decide +kernel
theorem dX12_copiesEnds_36 : decode cX12_copiesEnds 36 = .ok (.getfield 38, 3) := by decide +kernel
theorem dX12_copiesEnds_39 : decode cX12_copiesEnds 39 = .ok (.iload_n 2, 1) := by decide +kernel
theorem dX12_copiesEnds_40 : decode cX12_copiesEnds 40 = .ok (.iaload, 1) := by decide +kernel
theorem dX12_copiesEnds_41 : decode cX12_copiesEnds 41 = .ok (.iastore, 1) := by decide +kernel
theorem dX12_copiesEnds_42 : decode cX12_copiesEnds 42 = .ok (.iinc 2 1, 3) := by decide +kernel
theorem dX12_copiesEnds_45 : decode cX12_copiesEnds 45 = .ok (.goto (-35), 3) := by decide +kernel
theorem dX12_copiesEnds_48 : decode cX12_copiesEnds 48 = .ok (.return_, 1) := by decide +kernel
theorem dX12_isDrawn_0 : decode cX12_isDrawn 0 = .ok (.iconst 0, 1) := by decide +kernel
theorem dX12_isDrawn_1 : decode cX12_isDrawn 1 = .ok (.istore_n 2, 1) := by decide +kernel
theorem dX12_isDrawn_2 : decode cX12_isDrawn 2 = .ok (.iconst 0, 1) := by decide +kernel
theorem dX12_isDrawn_3 : decode cX12_isDrawn 3 = .ok (.istore_n 3, 1) := by decide +kernel
theorem dX12_isDrawn_4 : decode cX12_isDrawn 4 = .ok (.iconst 0, 1) := by decide +kernel
theorem dX12_isDrawn_5 : decode cX12_isDrawn 5 = .ok (.istore 4, 2) := by decide +kernel
theorem dX12_isDrawn_7 : decode cX12_isDrawn 7 = .ok (.iload 4, 2) := by decide +kernel
theorem dX12_isDrawn_9 : decode cX12_isDrawn 9 = .ok (.aload_n 1, 1) := by decide +kernel
theorem dX12_isDrawn_10 : decode cX12_isDrawn 10 = .ok (.getfield 333, 3) := by decide +kernel
theorem dX12_isDrawn_13 : decode cX12_isDrawn 13 = .ok (.if_icmp .ge 54, 3) := by decide +kernel
theorem dX12_isDrawn_16 : decode cX12_isDrawn 16 = .ok (.iload_n 2, 1) := by decide +kernel
theorem dX12_isDrawn_17 : decode cX12_isDrawn 17 = .ok (.aload_n 0, 1) := by decide +kernel
theorem dX12_isDrawn_18 : decode cX12_isDrawn 18 = .ok (.getfield 312, 3) := by decide +kernel
theorem dX12_isDrawn_21 : decode cX12_isDrawn 21 = .ok (.getfield 255, 3) := by decide +kernel
theorem dX12_isDrawn_24 : decode cX12_isDrawn 24 = .ok (.aload_n 1, 1) := by decide +kernel
theorem dX12_isDrawn_25 : decode cX12_isDrawn 25 = .ok (.getfield 334, 3) := by decide +kernel
theorem dX12_isDrawn_28 : decode cX12_isDrawn 28 = .ok (.iload 4, 2) := by decide +kernel
theorem dX12_isDrawn_30 : decode cX12_isDrawn 30 = .ok (.iaload, 1) := by decide +kernel
theorem dX12_isDrawn_31 : decode cX12_isDrawn 31 = .ok (.iaload, 1) := by decide +kernel
theorem dX12_isDrawn_32 : decode cX12_isDrawn 32 = .ok (.iadd, 1) := by decide +kernel
theorem dX12_isDrawn_33 : decode cX12_isDrawn 33 = .ok (.istore_n 2, 1) := by decide +kernel
theorem dX12_isDrawn_34 : decode cX12_isDrawn 34 = .ok (.iload_n 3, 1) := by decide +kernel
theorem dX12_isDrawn_35 : decode cX12_isDrawn 35 = .ok (.aload_n 0, 1) := by decide +kernel
theorem dX12_isDrawn_36 : decode cX12_isDrawn 36 = .ok (.getfield 312, 3) := by decide +kernel
theorem dX12_isDrawn_39 : decode cX12_isDrawn 39 = .ok (.getfield 250, 3) := by decide +kernel
theorem dX12_isDrawn_42 : decode cX12_isDrawn 42 = .ok (.aload_n 1, 1) := by decide +kernel
theorem dX12_isDrawn_43 : decode cX12_isDrawn 43 = .ok (.getfield 334, 3) := by decide +kernel
theorem dX12_isDrawn_46 : decode cX12_isDrawn 46 = .ok (.iload 4, 2) := by decide +kernel
theorem dX12_isDrawn_48 : decode cX12_isDrawn 48 = .ok (.iaload, 1) := by decide +kernel
theorem dX12_isDrawn_49 : decode cX12_isDrawn 49 = .ok (.iaload, 1) := by decide +kernel
theorem dX12_isDrawn_50 : decode cX12_isDrawn 50 = .ok (.iconst 2, 1) := by decide +kernel
theorem dX12_isDrawn_51 : decode cX12_isDrawn 51 = .ok (.if_icmp .ne 7, 3) := by decide +kernel
theorem dX12_isDrawn_54 : decode cX12_isDrawn 54 = .ok (.iconst 1, 1) := by decide +kernel
theorem dX12_isDrawn_55 : decode cX12_isDrawn 55 = .ok (.goto 4, 3) := by decide +kernel
theorem dX12_isDrawn_58 : decode cX12_isDrawn 58 = .ok (.iconst 0, 1) := by decide +kernel
theorem dX12_isDrawn_59 : decode cX12_isDrawn 59 = .ok (.iadd, 1) := by decide +kernel
theorem dX12_isDrawn_60 : decode cX12_isDrawn 60 = .ok (.istore_n 3, 1) := by decide +kernel
theorem dX12_isDrawn_61 : decode cX12_isDrawn 61 = .ok (.iinc 4 1, 3) := by decide +kernel
theorem dX12_isDrawn_64 : decode cX12_isDrawn 64 = .ok (.goto (-57), 3) := by decide +kernel
theorem dX12_isDrawn_67 : decode cX12_isDrawn 67 = .ok (.iload_n 2, 1) := by decide +kernel
theorem dX12_isDrawn_68 : decode cX12_isDrawn 68 = .ok (.ifCond .ne 13, 3) := by decide +kernel
theorem dX12_isDrawn_71 : decode cX12_isDrawn 71 = .ok (.iload_n 3, 1) := by decide +kernel
theorem dX12_isDrawn_72 : decode cX12_isDrawn 72 = .ok (.iconst 2, 1) := by decide +kernel
theorem dX12_isDrawn_73 : decode cX12_isDrawn 73 = .ok (.irem, 1) := by decide +kernel
theorem dX12_isDrawn_74 : decode cX12_isDrawn 74 = .ok (.ifCond .ne 7, 3) := by decide +kernel
theorem dX12_isDrawn_77 : decode cX12_isDrawn 77 = .ok (.iconst 1, 1) := by decide +kernel
theorem dX12_isDrawn_78 : decode cX12_isDrawn 78 = .ok (.goto 4, 3) := by decide +kernel
theorem dX12_isDrawn_81 : decode cX12_isDrawn 81 = .ok (.iconst 0, 1) := by decide +kernel
theorem dX12_isDrawn_82 : decode cX12_isDrawn 82 = .ok (.ireturn, 1) := by decide +kernel
theorem dX12_drawings_0 : decode cX12_drawings 0 = .ok (.aload_n 0, 1) := by decide +kernel
theorem dX12_drawings_1 : decode cX12_drawings 1 = .ok (.iconst 0, 1) := by decide +kernel
theorem dX12_drawings_2 : decode cX12_drawings 2 = .ok (.putfield 147, 3) := by decide +kernel
theorem dX12_drawings_5 : decode cX12_drawings 5 = .ok (.aload_n 0, 1) := by decide +kernel
theorem dX12_drawings_6 : decode cX12_drawings 6 = .ok (.getfield 315, 3) := by decide +kernel
theorem dX12_drawings_9 : decode cX12_drawings 9 = .ok (.ifCond .ne 9, 3) := by decide +kernel
theorem dX12_drawings_12 : decode cX12_drawings 12 = .ok (.aload_n 0, 1) := by decide +kernel
theorem dX12_drawings_13 : decode cX12_drawings 13 = .ok (.iconst 1, 1) := by decide +kernel
theorem dX12_drawings_14 : decode cX12_drawings 14 = .ok (.invokevirtual 303, 3) := by decide +kernel
theorem dX12_drawings_17 : decode cX12_drawings 17 = .ok (.ireturn, 1) := by decide +kernel
theorem dX12_drawings_18 : decode cX12_drawings 18 = .ok (.iload_n 1, 1) := by decide +kernel
theorem dX12_drawings_19 : decode cX12_drawings 19 = .ok (.iconst 1, 1) := by decide +kernel
theorem dX12_drawings_20 : decode cX12_drawings 20 = .ok (.iconst 3, 1) := by decide +kernel
theorem dX12_drawings_21 : decode cX12_drawings 21 = .ok (.invokestatic 242, 3) := by decide +kernel
theorem dX12_drawings_24 : decode cX12_drawings 24 = .ok (.ifCond .ne 9, 3) := by decide +kernel
theorem dX12_drawings_27 : decode cX12_drawings 27 = .ok (.aload_n 0, 1) := by decide +kernel
theorem dX12_drawings_28 : decode cX12_drawings 28 = .ok (.iconst 2, 1) := by decide +kernel
theorem dX12_drawings_29 : decode cX12_drawings 29 = .ok (.invokevirtual 303, 3) := by decide +kernel
theorem dX12_drawings_32 : decode cX12_drawings 32 = .ok (.ireturn, 1) := by decide +kernel
theorem dX12_drawings_33 : decode cX12_drawings 33 = .ok (.aload_n 0, 1) := by decide +kernel
theorem dX12_drawings_34 : decode cX12_drawings 34 = .ok (.aload_n 0, 1) := by decide +kernel
theorem dX12_drawings_35 : decode cX12_drawings 35 = .ok (.getfield 51, 3) := by decide +kernel
theorem dX12_drawings_38 : decode cX12_drawings 38 = .ok (.invokevirtual 428, 3) := by decide +kernel
theorem dX12_drawings_41 : decode cX12_drawings 41 = .ok (.aload_n 0, 1) := by decide +kernel
theorem dX12_drawings_42 : decode cX12_drawings 42 = .ok (.aload_n 0, 1) := by decide +kernel
theorem dX12_drawings_43 : decode cX12_drawings 43 = .ok (.getfield 51, 3) := by decide +kernel
theorem dX12_drawings_46 : decode cX12_drawings 46 = .ok (.invokevirtual 432, 3) := by decide +kernel
theorem dX12_drawings_49 : decode cX12_drawings 49 = .ok (.ifCond .ne 10, 3) := by decide +kernel
theorem dX12_drawings_52 : decode cX12_drawings 52 = .ok (.aload_n 0, 1) := by decide +kernel
theorem dX12_drawings_53 : decode cX12_drawings 53 = .ok (.bipush 7, 2) := by decide +kernel
theorem dX12_drawings_55 : decode cX12_drawings 55 = .ok (.invokevirtual 303, 3) := by decide +kernel
theorem dX12_drawings_58 : decode cX12_drawings 58 = .ok (.ireturn, 1) := by decide +kernel
theorem dX12_drawings_59 : decode cX12_drawings 59 = .ok (.aload_n 0, 1) := by decide +kernel
theorem dX12_drawings_60 : decode cX12_drawings 60 = .ok (.aload_n 0, 1) := by decide +kernel
theorem dX12_drawings_61 : decode cX12_drawings 61 = .ok (.getfield 51, 3) := by decide +kernel
theorem dX12_drawings_64 : decode cX12_drawings 64 = .ok (.iload_n 1, 1) := by decide +kernel
theorem dX12_drawings_65 : decode cX12_drawings 65 = .ok (.invokevirtual 435, 3) := by decide +kernel
theorem dX12_drawings_68 : decode cX12_drawings 68 = .ok (.ifCond .ne 9, 3) := by decide +kernel
theorem dX12_drawings_71 : decode cX12_drawings 71 = .ok (.aload_n 0, 1) := by decide +kernel
theorem dX12_drawings_72 : decode cX12_drawings 72 = .ok (.iconst 3, 1) := by decide +kernel
theorem dX12_drawings_73 : decode cX12_drawings 73 = .ok (.invokevirtual 303, 3) := by decide +kernel
theorem dX12_drawings_76 : decode cX12_drawings 76 = .ok (.ireturn, 1) := by decide +kernel
theorem dX12_drawings_77 : decode cX12_drawings 77 = .ok (.aload_n 0, 1) := by decide +kernel
theorem dX12_drawings_78 : decode cX12_drawings 78 = .ok (.getfield 47, 3) := by decide +kernel
theorem dX12_drawings_81 : decode cX12_drawings 81 = .ok (.iload_n 1, 1) := by decide +kernel
theorem dX12_drawings_82 : decode cX12_drawings 82 = .ok (.putfield 339, 3) := by decide +kernel
theorem dX12_drawings_85 : decode cX12_drawings 85 = .ok (.aload_n 0, 1) := by decide +kernel
theorem dX12_drawings_86 : decode cX12_drawings 86 = .ok (.getfield 47, 3) := by decide +kernel
theorem dX12_drawings_89 : decode cX12_drawings 89 = .ok (.aload_n 0, 1) := by decide +kernel
theorem dX12_drawings_90 : decode cX12_drawings 90 = .ok (.getfield 51, 3) := by decide +kernel
theorem dX12_drawings_93 : decode cX12_drawings 93 = .ok (.getfield 404, 3) := by decide +kernel
theorem dX12_drawings_96 : decode cX12_drawings 96 = .ok (.putfield 404, 3) := by decide +kernel
theorem dX12_drawings_99 : decode cX12_drawings 99 = .ok (.aload_n 0, 1) := by decide +kernel
theorem dX12_drawings_100 : decode cX12_drawings 100 = .ok (.getfield 47, 3) := by decide +kernel
theorem dX12_drawings_103 : decode cX12_drawings 103 = .ok (.aload_n 0, 1) := by decide +kernel
theorem dX12_drawings_104 : decode cX12_drawings 104 = .ok (.getfield 51, 3) := by decide +kernel
theorem dX12_drawings_107 : decode cX12_drawings 107 = .ok (.getfield 423, 3) := by decide +kernel
theorem dX12_drawings_110 : decode cX12_drawings 110 = .ok (.putfield 423, 3) := by decide +kernel
theorem dX12_drawings_113 : decode cX12_drawings 113 = .ok (.aload_n 0, 1) := by decide +kernel
theorem dX12_drawings_114 : decode cX12_drawings 114 = .ok (.getfield 47, 3) := by decide +kernel
theorem dX12_drawings_117 : decode cX12_drawings 117 = .ok (.aload_n 0, 1) := by decide +kernel
theorem dX12_drawings_118 : decode cX12_drawings 118 = .ok (.getfield 315, 3) := by decide +kernel
theorem dX12_drawings_121 : decode cX12_drawings 121 = .ok (.putfield 333, 3) := by decide +kernel
theorem dX12_drawings_124 : decode cX12_drawings 124 = .ok (.iconst 0, 1) := by decide +kernel
theorem dX12_drawings_125 : decode cX12_drawings 125 = .ok (.istore_n 2, 1) := by decide +kernel
theorem dX12_drawings_126 : decode cX12_drawings 126 = .ok (.iload_n 2, 1) := by decide +kernel
theorem dX12_drawings_127 : decode cX12_drawings 127 = .ok (.bipush 6, 2) := by decide +kernel
theorem dX12_drawings_129 : decode cX12_drawings 129 = .ok (.if_icmp .ge 24, 3) := by decide +kernel
theorem dX12_drawings_132 : decode cX12_drawings 132 = .ok (.aload_n 0, 1) := by decide +kernel
theorem dX12_drawings_133 : decode cX12_drawings 133 = .ok (.getfield 47, 3) := by decide +kernel
theorem dX12_drawings_136 : decode cX12_drawings 136 = .ok (.getfield 334, 3) := by decide +kernel
theorem dX12_drawings_139 : decode cX12_drawings 139 = .ok (.iload_n 2, 1) := by decide +kernel
theorem dX12_drawings_140 : decode cX12_drawings 140 = .ok (.aload_n 0, 1) := by decide +kernel
theorem dX12_drawings_141 : decode cX12_drawings 141 = .ok (.getfield 34, 3) := by decide +kernel
theorem dX12_drawings_144 : decode cX12_drawings 144 = .ok (.iload_n 2, 1) := by decide +kernel
theorem dX12_drawings_145 : decode cX12_drawings 145 = .ok (.iaload, 1) := by decide +kernel
theorem dX12_drawings_146 : decode cX12_drawings 146 = .ok (.iastore, 1) := by decide +kernel
theorem dX12_drawings_147 : decode cX12_drawings 147 = .ok (.iinc 2 1, 3) := by decide +kernel
theorem dX12_drawings_150 : decode cX12_drawings 150 = .ok (.goto (-24), 3) := by decide +kernel
theorem dX12_drawings_153 : decode cX12_drawings 153 = .ok (.iconst 0, 1) := by decide +kernel
theorem dX12_drawings_154 : decode cX12_drawings 154 = .ok (.istore_n 2, 1) := by decide +kernel
theorem dX12_drawings_155 : decode cX12_drawings 155 = .ok (.iload_n 2, 1) := by decide +kernel
theorem dX12_drawings_156 : decode cX12_drawings 156 = .ok (.aload_n 0, 1) := by decide +kernel
theorem dX12_drawings_157 : decode cX12_drawings 157 = .ok (.getfield 51, 3) := by decide +kernel
theorem dX12_drawings_160 : decode cX12_drawings 160 = .ok (.getfield 404, 3) := by decide +kernel
theorem dX12_drawings_163 : decode cX12_drawings 163 = .ok (.if_icmp .ge 102, 3) := by decide +kernel
theorem dX12_drawings_166 : decode cX12_drawings 166 = .ok (.aload_n 0, 1) := by decide +kernel
theorem dX12_drawings_167 : decode cX12_drawings 167 = .ok (.getfield 47, 3) := by decide +kernel
theorem dX12_drawings_170 : decode cX12_drawings 170 = .ok (.getfield 410, 3) := by decide +kernel
theorem dX12_drawings_173 : decode cX12_drawings 173 = .ok (.iload_n 2, 1) := by decide +kernel
theorem dX12_drawings_174 : decode cX12_drawings 174 = .ok (.aload_n 0, 1) := by decide +kernel
theorem dX12_drawings_175 : decode cX12_drawings 175 = .ok (.getfield 51, 3) := by decide +kernel
theorem dX12_drawings_178 : decode cX12_drawings 178 = .ok (.getfield 410, 3) := by decide +kernel
theorem dX12_drawings_181 : decode cX12_drawings 181 = .ok (.iload_n 2, 1) := by decide +kernel
theorem dX12_drawings_182 : decode cX12_drawings 182 = .ok (.laload, 1) := by decide +kernel
theorem dX12_drawings_183 : decode cX12_drawings 183 = .ok (.lastore, 1) := by decide +kernel
theorem dX12_drawings_184 : decode cX12_drawings 184 = .ok (.aload_n 0, 1) := by decide +kernel
theorem dX12_drawings_185 : decode cX12_drawings 185 = .ok (.getfield 47, 3) := by decide +kernel
theorem dX12_drawings_188 : decode cX12_drawings 188 = .ok (.getfield 416, 3) := by decide +kernel
theorem dX12_drawings_191 : decode cX12_drawings 191 = .ok (.iload_n 2, 1) := by decide +kernel
theorem dX12_drawings_192 : decode cX12_drawings 192 = .ok (.aload_n 0, 1) := by decide +kernel
theorem dX12_drawings_193 : decode cX12_drawings 193 = .ok (.getfield 51, 3) := by decide +kernel
theorem dX12_drawings_196 : decode cX12_drawings 196 = .ok (.getfield 416, 3) := by decide +kernel
theorem dX12_drawings_199 : decode cX12_drawings 199 = .ok (.iload_n 2, 1) := by decide +kernel
theorem dX12_drawings_200 : decode cX12_drawings 200 = .ok (.iaload, 1) := by decide +kernel
theorem dX12_drawings_201 : decode cX12_drawings 201 = .ok (.iastore, 1) := by decide +kernel
theorem dX12_drawings_202 : decode cX12_drawings 202 = .ok (.aload_n 0, 1) := by decide +kernel
theorem dX12_drawings_203 : decode cX12_drawings 203 = .ok (.getfield 47, 3) := by decide +kernel
theorem dX12_drawings_206 : decode cX12_drawings 206 = .ok (.getfield 413, 3) := by decide +kernel
theorem dX12_drawings_209 : decode cX12_drawings 209 = .ok (.iload_n 2, 1) := by decide +kernel
theorem dX12_drawings_210 : decode cX12_drawings 210 = .ok (.aload_n 0, 1) := by decide +kernel
theorem dX12_drawings_211 : decode cX12_drawings 211 = .ok (.getfield 51, 3) := by decide +kernel
theorem dX12_drawings_214 : decode cX12_drawings 214 = .ok (.getfield 413, 3) := by decide +kernel
theorem dX12_drawings_217 : decode cX12_drawings 217 = .ok (.iload_n 2, 1) := by decide +kernel
theorem dX12_drawings_218 : decode cX12_drawings 218 = .ok (.iaload, 1) := by decide +kernel
theorem dX12_drawings_219 : decode cX12_drawings 219 = .ok (.iastore, 1) := by decide +kernel
theorem dX12_drawings_220 : decode cX12_drawings 220 = .ok (.iconst 0, 1) := by decide +kernel
theorem dX12_drawings_221 : decode cX12_drawings 221 = .ok (.istore_n 3, 1) := by decide +kernel
theorem dX12_drawings_222 : decode cX12_drawings 222 = .ok (.iload_n 3, 1) := by decide +kernel
theorem dX12_drawings_223 : decode cX12_drawings 223 = .ok (.iconst 3, 1) := by decide +kernel
theorem dX12_drawings_224 : decode cX12_drawings 224 = .ok (.if_icmp .ge 35, 3) := by decide +kernel
theorem dX12_drawings_227 : decode cX12_drawings 227 = .ok (.aload_n 0, 1) := by decide +kernel
theorem dX12_drawings_228 : decode cX12_drawings 228 = .ok (.getfield 47, 3) := by decide +kernel
theorem dX12_drawings_231 : decode cX12_drawings 231 = .ok (.getfield 407, 3) := by decide +kernel
theorem dX12_drawings_234 : decode cX12_drawings 234 = .ok (.iconst 3, 1) := by decide +kernel
theorem dX12_drawings_235 : decode cX12_drawings 235 = .ok (.iload_n 2, 1) := by decide +kernel
theorem dX12_drawings_236 : decode cX12_drawings 236 = .ok (.imul, 1) := by decide +kernel
theorem dX12_drawings_237 : decode cX12_drawings 237 = .ok (.iload_n 3, 1) := by decide +kernel
theorem dX12_drawings_238 : decode cX12_drawings 238 = .ok (.iadd, 1) := by decide +kernel
theorem dX12_drawings_239 : decode cX12_drawings 239 = .ok (.aload_n 0, 1) := by decide +kernel
theorem dX12_drawings_240 : decode cX12_drawings 240 = .ok (.getfield 51, 3) := by decide +kernel
theorem dX12_drawings_243 : decode cX12_drawings 243 = .ok (.getfield 407, 3) := by decide +kernel
theorem dX12_drawings_246 : decode cX12_drawings 246 = .ok (.iconst 3, 1) := by decide +kernel
theorem dX12_drawings_247 : decode cX12_drawings 247 = .ok (.iload_n 2, 1) := by decide +kernel
theorem dX12_drawings_248 : decode cX12_drawings 248 = .ok (.imul, 1) := by decide +kernel
theorem dX12_drawings_249 : decode cX12_drawings 249 = .ok (.iload_n 3, 1) := by decide +kernel
theorem dX12_drawings_250 : decode cX12_drawings 250 = .ok (.iadd, 1) := by decide +kernel
theorem dX12_drawings_251 : decode cX12_drawings 251 = .ok (.iaload, 1) := by decide +kernel
theorem dX12_drawings_252 : decode cX12_drawings 252 = .ok (.iastore, 1) := by decide +kernel
theorem dX12_drawings_253 : decode cX12_drawings 253 = .ok (.iinc 3 1, 3) := by decide +kernel
theorem dX12_drawings_256 : decode cX12_drawings 256 = .ok (.goto (-34), 3) := by decide +kernel
theorem dX12_drawings_259 : decode cX12_drawings 259 = .ok (.iinc 2 1, 3) := by decide +kernel
theorem dX12_drawings_262 : decode cX12_drawings 262 = .ok (.goto (-107), 3) := by decide +kernel
theorem dX12_drawings_265 : decode cX12_drawings 265 = .ok (.aload_n 0, 1) := by decide +kernel
theorem dX12_drawings_266 : decode cX12_drawings 266 = .ok (.iconst 1, 1) := by decide +kernel
theorem dX12_drawings_267 : decode cX12_drawings 267 = .ok (.putfield 318, 3) := by decide +kernel
theorem dX12_drawings_270 : decode cX12_drawings 270 = .ok (.aload_n 0, 1) := by decide +kernel
theorem dX12_drawings_271 : decode cX12_drawings 271 = .ok (.aload_n 0, 1) := by decide +kernel
theorem dX12_drawings_272 : decode cX12_drawings 272 = .ok (.getfield 47, 3) := by decide +kernel
theorem dX12_drawings_275 : decode cX12_drawings 275 = .ok (.getfield 404, 3) := by decide +kernel
theorem dX12_drawings_278 : decode cX12_drawings 278 = .ok (.invokevirtual 322, 3) := by decide +kernel
theorem dX12_drawings_281 : decode cX12_drawings 281 = .ok (.ireturn, 1) := by decide +kernel
theorem dX12_isDrawing_0 : decode cX12_isDrawing 0 = .ok (.aload_n 0, 1) := by decide +kernel
theorem dX12_isDrawing_1 : decode cX12_isDrawing 1 = .ok (.getfield 318, 3) := by decide +kernel
theorem dX12_isDrawing_4 : decode cX12_isDrawing 4 = .ok (.ifCond .eq 22, 3) := by decide +kernel
theorem dX12_isDrawing_7 : decode cX12_isDrawing 7 = .ok (.iload_n 1, 1) := by decide +kernel
theorem dX12_isDrawing_8 : decode cX12_isDrawing 8 = .ok (.ifCond .lt 18, 3) := by decide +kernel
theorem dX12_isDrawing_11 : decode cX12_isDrawing 11 = .ok (.iload_n 1, 1) := by decide +kernel
theorem dX12_isDrawing_12 : decode cX12_isDrawing 12 = .ok (.aload_n 0, 1) := by decide +kernel
theorem dX12_isDrawing_13 : decode cX12_isDrawing 13 = .ok (.getfield 47, 3) := by decide +kernel
theorem dX12_isDrawing_16 : decode cX12_isDrawing 16 = .ok (.getfield 404, 3) := by decide +kernel
theorem dX12_isDrawing_19 : decode cX12_isDrawing 19 = .ok (.if_icmp .ge 7, 3) := by decide +kernel
theorem dX12_isDrawing_22 : decode cX12_isDrawing 22 = .ok (.iconst 1, 1) := by decide +kernel
theorem dX12_isDrawing_23 : decode cX12_isDrawing 23 = .ok (.goto 4, 3) := by decide +kernel
theorem dX12_isDrawing_26 : decode cX12_isDrawing 26 = .ok (.iconst 0, 1) := by decide +kernel
theorem dX12_isDrawing_27 : decode cX12_isDrawing 27 = .ok (.ireturn, 1) := by decide +kernel
theorem dX12_shows_0 : decode cX12_shows 0 = .ok (.aload_n 0, 1) := by decide +kernel
theorem dX12_shows_1 : decode cX12_shows 1 = .ok (.aload_n 1, 1) := by decide +kernel
theorem dX12_shows_2 : decode cX12_shows 2 = .ok (.aload_n 1, 1) := by decide +kernel
theorem dX12_shows_3 : decode cX12_shows 3 = .ok (.getfield 407, 3) := by decide +kernel
theorem dX12_shows_6 : decode cX12_shows 6 = .ok (.iconst 3, 1) := by decide +kernel
theorem dX12_shows_7 : decode cX12_shows 7 = .ok (.iload_n 2, 1) := by decide +kernel
theorem dX12_shows_8 : decode cX12_shows 8 = .ok (.imul, 1) := by decide +kernel
theorem dX12_shows_9 : decode cX12_shows 9 = .ok (.invokevirtual 393, 3) := by decide +kernel
theorem dX12_shows_12 : decode cX12_shows 12 = .ok (.istore_n 3, 1) := by decide +kernel
theorem dX12_shows_13 : decode cX12_shows 13 = .ok (.aload_n 0, 1) := by decide +kernel
theorem dX12_shows_14 : decode cX12_shows 14 = .ok (.aload_n 1, 1) := by decide +kernel
theorem dX12_shows_15 : decode cX12_shows 15 = .ok (.getfield 410, 3) := by decide +kernel
theorem dX12_shows_18 : decode cX12_shows 18 = .ok (.iload_n 2, 1) := by decide +kernel
theorem dX12_shows_19 : decode cX12_shows 19 = .ok (.laload, 1) := by decide +kernel
theorem dX12_shows_20 : decode cX12_shows 20 = .ok (.invokevirtual 366, 3) := by decide +kernel
theorem dX12_shows_23 : decode cX12_shows 23 = .ok (.return_, 1) := by decide +kernel
theorem dX12_isInner_0 : decode cX12_isInner 0 = .ok (.aload_n 0, 1) := by decide +kernel
theorem dX12_isInner_1 : decode cX12_isInner 1 = .ok (.getfield 60, 3) := by decide +kernel
theorem dX12_isInner_4 : decode cX12_isInner 4 = .ok (.iload_n 1, 1) := by decide +kernel
theorem dX12_isInner_5 : decode cX12_isInner 5 = .ok (.iaload, 1) := by decide +kernel
theorem dX12_isInner_6 : decode cX12_isInner 6 = .ok (.aload_n 0, 1) := by decide +kernel
theorem dX12_isInner_7 : decode cX12_isInner 7 = .ok (.getfield 342, 3) := by decide +kernel
theorem dX12_isInner_10 : decode cX12_isInner 10 = .ok (.aload_n 0, 1) := by decide +kernel
theorem dX12_isInner_11 : decode cX12_isInner 11 = .ok (.getfield 439, 3) := by decide +kernel
theorem dX12_isInner_14 : decode cX12_isInner 14 = .ok (.isub, 1) := by decide +kernel
theorem dX12_isInner_15 : decode cX12_isInner 15 = .ok (.if_icmp .lt 40, 3) := by decide +kernel
theorem dX12_isInner_18 : decode cX12_isInner 18 = .ok (.aload_n 0, 1) := by decide +kernel
theorem dX12_isInner_19 : decode cX12_isInner 19 = .ok (.getfield 60, 3) := by decide +kernel
theorem dX12_isInner_22 : decode cX12_isInner 22 = .ok (.aload_n 0, 1) := by decide +kernel
theorem dX12_isInner_23 : decode cX12_isInner 23 = .ok (.getfield 63, 3) := by decide +kernel
theorem dX12_isInner_26 : decode cX12_isInner 26 = .ok (.iload_n 1, 1) := by decide +kernel
theorem dX12_isInner_27 : decode cX12_isInner 27 = .ok (.iaload, 1) := by decide +kernel
theorem dX12_isInner_28 : decode cX12_isInner 28 = .ok (.iaload, 1) := by decide +kernel
theorem dX12_isInner_29 : decode cX12_isInner 29 = .ok (.aload_n 0, 1) := by decide +kernel
theorem dX12_isInner_30 : decode cX12_isInner 30 = .ok (.getfield 342, 3) := by decide +kernel
theorem dX12_isInner_33 : decode cX12_isInner 33 = .ok (.aload_n 0, 1) := by decide +kernel
theorem dX12_isInner_34 : decode cX12_isInner 34 = .ok (.getfield 439, 3) := by decide +kernel
theorem dX12_isInner_37 : decode cX12_isInner 37 = .ok (.isub, 1) := by decide +kernel
theorem dX12_isInner_38 : decode cX12_isInner 38 = .ok (.if_icmp .lt 17, 3) := by decide +kernel
theorem dX12_isInner_41 : decode cX12_isInner 41 = .ok (.aload_n 0, 1) := by decide +kernel
theorem dX12_isInner_42 : decode cX12_isInner 42 = .ok (.getfield 63, 3) := by decide +kernel
theorem dX12_isInner_45 : decode cX12_isInner 45 = .ok (.iload_n 1, 1) := by decide +kernel
theorem dX12_isInner_46 : decode cX12_isInner 46 = .ok (.iaload, 1) := by decide +kernel
theorem dX12_isInner_47 : decode cX12_isInner 47 = .ok (.iload_n 1, 1) := by decide +kernel
theorem dX12_isInner_48 : decode cX12_isInner 48 = .ok (.if_icmp .le 7, 3) := by decide +kernel
theorem dX12_isInner_51 : decode cX12_isInner 51 = .ok (.iconst 1, 1) := by decide +kernel
theorem dX12_isInner_52 : decode cX12_isInner 52 = .ok (.goto 4, 3) := by decide +kernel
theorem dX12_isInner_55 : decode cX12_isInner 55 = .ok (.iconst 0, 1) := by decide +kernel
theorem dX12_isInner_56 : decode cX12_isInner 56 = .ok (.ireturn, 1) := by decide +kernel
theorem dX12_inners_0 : decode cX12_inners 0 = .ok (.iconst 0, 1) := by decide +kernel
theorem dX12_inners_1 : decode cX12_inners 1 = .ok (.istore_n 1, 1) := by decide +kernel
theorem dX12_inners_2 : decode cX12_inners 2 = .ok (.iconst 0, 1) := by decide +kernel
theorem dX12_inners_3 : decode cX12_inners 3 = .ok (.istore_n 2, 1) := by decide +kernel
theorem dX12_inners_4 : decode cX12_inners 4 = .ok (.iload_n 2, 1) := by decide +kernel
theorem dX12_inners_5 : decode cX12_inners 5 = .ok (.aload_n 0, 1) := by decide +kernel
theorem dX12_inners_6 : decode cX12_inners 6 = .ok (.getfield 331, 3) := by decide +kernel
theorem dX12_inners_9 : decode cX12_inners 9 = .ok (.if_icmp .ge 25, 3) := by decide +kernel
theorem dX12_inners_12 : decode cX12_inners 12 = .ok (.iload_n 1, 1) := by decide +kernel
theorem dX12_inners_13 : decode cX12_inners 13 = .ok (.aload_n 0, 1) := by decide +kernel
theorem dX12_inners_14 : decode cX12_inners 14 = .ok (.iload_n 2, 1) := by decide +kernel
theorem dX12_inners_15 : decode cX12_inners 15 = .ok (.invokevirtual 442, 3) := by decide +kernel
theorem dX12_inners_18 : decode cX12_inners 18 = .ok (.ifCond .eq 7, 3) := by decide +kernel
theorem dX12_inners_21 : decode cX12_inners 21 = .ok (.iconst 1, 1) := by decide +kernel
theorem dX12_inners_22 : decode cX12_inners 22 = .ok (.goto 4, 3) := by decide +kernel
theorem dX12_inners_25 : decode cX12_inners 25 = .ok (.iconst 0, 1) := by decide +kernel
theorem dX12_inners_26 : decode cX12_inners 26 = .ok (.iadd, 1) := by decide +kernel
theorem dX12_inners_27 : decode cX12_inners 27 = .ok (.istore_n 1, 1) := by decide +kernel
theorem dX12_inners_28 : decode cX12_inners 28 = .ok (.iinc 2 1, 3) := by decide +kernel
theorem dX12_inners_31 : decode cX12_inners 31 = .ok (.goto (-27), 3) := by decide +kernel
theorem dX12_inners_34 : decode cX12_inners 34 = .ok (.iload_n 1, 1) := by decide +kernel
theorem dX12_inners_35 : decode cX12_inners 35 = .ok (.ireturn, 1) := by decide +kernel
theorem dX12_sideOf_0 : decode cX12_sideOf 0 = .ok (.aload_n 0, 1) := by decide +kernel
theorem dX12_sideOf_1 : decode cX12_sideOf 1 = .ok (.iload_n 1, 1) := by decide +kernel
theorem dX12_sideOf_2 : decode cX12_sideOf 2 = .ok (.invokevirtual 442, 3) := by decide +kernel
theorem dX12_sideOf_5 : decode cX12_sideOf 5 = .ok (.ifCond .eq 12, 3) := by decide +kernel
theorem dX12_sideOf_8 : decode cX12_sideOf 8 = .ok (.aload_n 0, 1) := by decide +kernel
theorem dX12_sideOf_9 : decode cX12_sideOf 9 = .ok (.iload_n 1, 1) := by decide +kernel
theorem dX12_sideOf_10 : decode cX12_sideOf 10 = .ok (.invokevirtual 359, 3) := by decide +kernel
theorem dX12_sideOf_13 : decode cX12_sideOf 13 = .ok (.iconst 2, 1) := by decide +kernel
theorem dX12_sideOf_14 : decode cX12_sideOf 14 = .ok (.if_icmp .ge 5, 3) := by decide +kernel
theorem dX12_sideOf_17 : decode cX12_sideOf 17 = .ok (.iconst (-1), 1) := by decide +kernel
theorem dX12_sideOf_18 : decode cX12_sideOf 18 = .ok (.ireturn, 1) := by decide +kernel
theorem dX12_sideOf_19 : decode cX12_sideOf 19 = .ok (.iconst 0, 1) := by decide +kernel
theorem dX12_sideOf_20 : decode cX12_sideOf 20 = .ok (.istore_n 2, 1) := by decide +kernel
theorem dX12_sideOf_21 : decode cX12_sideOf 21 = .ok (.iconst 0, 1) := by decide +kernel
theorem dX12_sideOf_22 : decode cX12_sideOf 22 = .ok (.istore_n 3, 1) := by decide +kernel
theorem dX12_sideOf_23 : decode cX12_sideOf 23 = .ok (.iload_n 3, 1) := by decide +kernel
theorem dX12_sideOf_24 : decode cX12_sideOf 24 = .ok (.aload_n 0, 1) := by decide +kernel
theorem dX12_sideOf_25 : decode cX12_sideOf 25 = .ok (.getfield 342, 3) := by decide +kernel
theorem dX12_sideOf_28 : decode cX12_sideOf 28 = .ok (.aload_n 0, 1) := by decide +kernel
theorem dX12_sideOf_29 : decode cX12_sideOf 29 = .ok (.getfield 439, 3) := by decide +kernel
theorem dX12_sideOf_32 : decode cX12_sideOf 32 = .ok (.isub, 1) := by decide +kernel
theorem dX12_sideOf_33 : decode cX12_sideOf 33 = .ok (.if_icmp .ge 34, 3) := by decide +kernel
theorem dX12_sideOf_36 : decode cX12_sideOf 36 = .ok (.iload_n 2, 1) := by decide +kernel
theorem dX12_sideOf_37 : decode cX12_sideOf 37 = .ok (.aload_n 0, 1) := by decide +kernel
theorem dX12_sideOf_38 : decode cX12_sideOf 38 = .ok (.getfield 69, 3) := by decide +kernel
theorem dX12_sideOf_41 : decode cX12_sideOf 41 = .ok (.iload_n 3, 1) := by decide +kernel
theorem dX12_sideOf_42 : decode cX12_sideOf 42 = .ok (.iaload, 1) := by decide +kernel
theorem dX12_sideOf_43 : decode cX12_sideOf 43 = .ok (.aload_n 0, 1) := by decide +kernel
theorem dX12_sideOf_44 : decode cX12_sideOf 44 = .ok (.getfield 69, 3) := by decide +kernel
theorem dX12_sideOf_47 : decode cX12_sideOf 47 = .ok (.iconst 0, 1) := by decide +kernel
theorem dX12_sideOf_48 : decode cX12_sideOf 48 = .ok (.iaload, 1) := by decide +kernel
theorem dX12_sideOf_49 : decode cX12_sideOf 49 = .ok (.if_icmp .ne 9, 3) := by decide +kernel
theorem dX12_sideOf_52 : decode cX12_sideOf 52 = .ok (.iconst 1, 1) := by decide +kernel
theorem dX12_sideOf_53 : decode cX12_sideOf 53 = .ok (.iload_n 3, 1) := by decide +kernel
theorem dX12_sideOf_54 : decode cX12_sideOf 54 = .ok (.ishl, 1) := by decide +kernel
theorem dX12_sideOf_55 : decode cX12_sideOf 55 = .ok (.goto 4, 3) := by decide +kernel
theorem dX12_sideOf_58 : decode cX12_sideOf 58 = .ok (.iconst 0, 1) := by decide +kernel
theorem dX12_sideOf_59 : decode cX12_sideOf 59 = .ok (.ior, 1) := by decide +kernel
theorem dX12_sideOf_60 : decode cX12_sideOf 60 = .ok (.istore_n 2, 1) := by decide +kernel
theorem dX12_sideOf_61 : decode cX12_sideOf 61 = .ok (.iinc 3 1, 3) := by decide +kernel
theorem dX12_sideOf_64 : decode cX12_sideOf 64 = .ok (.goto (-41), 3) := by decide +kernel
theorem dX12_sideOf_67 : decode cX12_sideOf 67 = .ok (.iload_n 2, 1) := by decide +kernel
theorem dX12_sideOf_68 : decode cX12_sideOf 68 = .ok (.ireturn, 1) := by decide +kernel
theorem dX12_cuts_0 : decode cX12_cuts 0 = .ok (.iconst 0, 1) := by decide +kernel
theorem dX12_cuts_1 : decode cX12_cuts 1 = .ok (.istore_n 1, 1) := by decide +kernel
theorem dX12_cuts_2 : decode cX12_cuts 2 = .ok (.iconst 0, 1) := by decide +kernel
theorem dX12_cuts_3 : decode cX12_cuts 3 = .ok (.istore_n 2, 1) := by decide +kernel
theorem dX12_cuts_4 : decode cX12_cuts 4 = .ok (.iload_n 2, 1) := by decide +kernel
theorem dX12_cuts_5 : decode cX12_cuts 5 = .ok (.aload_n 0, 1) := by decide +kernel
theorem dX12_cuts_6 : decode cX12_cuts 6 = .ok (.getfield 331, 3) := by decide +kernel
theorem dX12_cuts_9 : decode cX12_cuts 9 = .ok (.if_icmp .ge 26, 3) := by decide +kernel
theorem dX12_cuts_12 : decode cX12_cuts 12 = .ok (.iload_n 1, 1) := by decide +kernel
theorem dX12_cuts_13 : decode cX12_cuts 13 = .ok (.aload_n 0, 1) := by decide +kernel
theorem dX12_cuts_14 : decode cX12_cuts 14 = .ok (.iload_n 2, 1) := by decide +kernel
theorem dX12_cuts_15 : decode cX12_cuts 15 = .ok (.invokevirtual 445, 3) := by decide +kernel
theorem dX12_cuts_18 : decode cX12_cuts 18 = .ok (.iconst (-1), 1) := by decide +kernel
theorem dX12_cuts_19 : decode cX12_cuts 19 = .ok (.if_icmp .eq 7, 3) := by decide +kernel
theorem dX12_cuts_22 : decode cX12_cuts 22 = .ok (.iconst 1, 1) := by decide +kernel
theorem dX12_cuts_23 : decode cX12_cuts 23 = .ok (.goto 4, 3) := by decide +kernel
theorem dX12_cuts_26 : decode cX12_cuts 26 = .ok (.iconst 0, 1) := by decide +kernel
theorem dX12_cuts_27 : decode cX12_cuts 27 = .ok (.iadd, 1) := by decide +kernel
theorem dX12_cuts_28 : decode cX12_cuts 28 = .ok (.istore_n 1, 1) := by decide +kernel
theorem dX12_cuts_29 : decode cX12_cuts 29 = .ok (.iinc 2 1, 3) := by decide +kernel
theorem dX12_cuts_32 : decode cX12_cuts 32 = .ok (.goto (-28), 3) := by decide +kernel
theorem dX12_cuts_35 : decode cX12_cuts 35 = .ok (.iload_n 1, 1) := by decide +kernel
theorem dX12_cuts_36 : decode cX12_cuts 36 = .ok (.ireturn, 1) := by decide +kernel
theorem dX12_isHalf_0 : decode cX12_isHalf 0 = .ok (.aload_n 0, 1) := by decide +kernel
theorem dX12_isHalf_1 : decode cX12_isHalf 1 = .ok (.getfield 312, 3) := by decide +kernel
theorem dX12_isHalf_4 : decode cX12_isHalf 4 = .ok (.getfield 250, 3) := by decide +kernel
theorem dX12_isHalf_7 : decode cX12_isHalf 7 = .ok (.aload_n 0, 1) := by decide +kernel
theorem dX12_isHalf_8 : decode cX12_isHalf 8 = .ok (.getfield 57, 3) := by decide +kernel
theorem dX12_isHalf_11 : decode cX12_isHalf 11 = .ok (.iload_n 1, 1) := by decide +kernel
theorem dX12_isHalf_12 : decode cX12_isHalf 12 = .ok (.iaload, 1) := by decide +kernel
theorem dX12_isHalf_13 : decode cX12_isHalf 13 = .ok (.iaload, 1) := by decide +kernel
theorem dX12_isHalf_14 : decode cX12_isHalf 14 = .ok (.iconst 2, 1) := by decide +kernel
theorem dX12_isHalf_15 : decode cX12_isHalf 15 = .ok (.if_icmp .ne 7, 3) := by decide +kernel
theorem dX12_isHalf_18 : decode cX12_isHalf 18 = .ok (.iconst 1, 1) := by decide +kernel
theorem dX12_isHalf_19 : decode cX12_isHalf 19 = .ok (.goto 4, 3) := by decide +kernel
theorem dX12_isHalf_22 : decode cX12_isHalf 22 = .ok (.iconst 0, 1) := by decide +kernel
theorem dX12_isHalf_23 : decode cX12_isHalf 23 = .ok (.ireturn, 1) := by decide +kernel
theorem dX12_signHere_0 : decode cX12_signHere 0 = .ok (.iconst 1, 1) := by decide +kernel
theorem dX12_signHere_1 : decode cX12_signHere 1 = .ok (.istore_n 1, 1) := by decide +kernel
theorem dX12_signHere_2 : decode cX12_signHere 2 = .ok (.iconst 0, 1) := by decide +kernel
theorem dX12_signHere_3 : decode cX12_signHere 3 = .ok (.istore_n 2, 1) := by decide +kernel
theorem dX12_signHere_4 : decode cX12_signHere 4 = .ok (.iload_n 2, 1) := by decide +kernel
theorem dX12_signHere_5 : decode cX12_signHere 5 = .ok (.aload_n 0, 1) := by decide +kernel
theorem dX12_signHere_6 : decode cX12_signHere 6 = .ok (.getfield 331, 3) := by decide +kernel
theorem dX12_signHere_9 : decode cX12_signHere 9 = .ok (.if_icmp .ge 96, 3) := by decide +kernel
theorem dX12_signHere_12 : decode cX12_signHere 12 = .ok (.aload_n 0, 1) := by decide +kernel
theorem dX12_signHere_13 : decode cX12_signHere 13 = .ok (.iload_n 2, 1) := by decide +kernel
theorem dX12_signHere_14 : decode cX12_signHere 14 = .ok (.invokevirtual 448, 3) := by decide +kernel
theorem dX12_signHere_17 : decode cX12_signHere 17 = .ok (.ifCond .eq 82, 3) := by decide +kernel
theorem dX12_signHere_20 : decode cX12_signHere 20 = .ok (.aload_n 0, 1) := by decide +kernel
theorem dX12_signHere_21 : decode cX12_signHere 21 = .ok (.getfield 63, 3) := by decide +kernel
theorem dX12_signHere_24 : decode cX12_signHere 24 = .ok (.iload_n 2, 1) := by decide +kernel
theorem dX12_signHere_25 : decode cX12_signHere 25 = .ok (.iaload, 1) := by decide +kernel
theorem dX12_signHere_26 : decode cX12_signHere 26 = .ok (.iload_n 2, 1) := by decide +kernel
theorem dX12_signHere_27 : decode cX12_signHere 27 = .ok (.if_icmp .ge 6, 3) := by decide +kernel
theorem dX12_signHere_30 : decode cX12_signHere 30 = .ok (.goto 69, 3) := by decide +kernel
theorem dX12_signHere_33 : decode cX12_signHere 33 = .ok (.aload_n 0, 1) := by decide +kernel
theorem dX12_signHere_34 : decode cX12_signHere 34 = .ok (.getfield 312, 3) := by decide +kernel
theorem dX12_signHere_37 : decode cX12_signHere 37 = .ok (.getfield 260, 3) := by decide +kernel
theorem dX12_signHere_40 : decode cX12_signHere 40 = .ok (.aload_n 0, 1) := by decide +kernel
theorem dX12_signHere_41 : decode cX12_signHere 41 = .ok (.getfield 57, 3) := by decide +kernel
theorem dX12_signHere_44 : decode cX12_signHere 44 = .ok (.iload_n 2, 1) := by decide +kernel
theorem dX12_signHere_45 : decode cX12_signHere 45 = .ok (.iaload, 1) := by decide +kernel
theorem dX12_signHere_46 : decode cX12_signHere 46 = .ok (.baload, 1) := by decide +kernel
theorem dX12_signHere_47 : decode cX12_signHere 47 = .ok (.ifCond .eq 6, 3) := by decide +kernel
theorem dX12_signHere_50 : decode cX12_signHere 50 = .ok (.iload_n 1, 1) := by decide +kernel
theorem dX12_signHere_51 : decode cX12_signHere 51 = .ok (.ineg, 1) := by decide +kernel
theorem dX12_signHere_52 : decode cX12_signHere 52 = .ok (.istore_n 1, 1) := by decide +kernel
theorem dX12_signHere_53 : decode cX12_signHere 53 = .ok (.iload_n 2, 1) := by decide +kernel
theorem dX12_signHere_54 : decode cX12_signHere 54 = .ok (.iconst 1, 1) := by decide +kernel
theorem dX12_signHere_55 : decode cX12_signHere 55 = .ok (.iadd, 1) := by decide +kernel
theorem dX12_signHere_56 : decode cX12_signHere 56 = .ok (.istore_n 3, 1) := by decide +kernel
theorem dX12_signHere_57 : decode cX12_signHere 57 = .ok (.iload_n 3, 1) := by decide +kernel
theorem dX12_signHere_58 : decode cX12_signHere 58 = .ok (.aload_n 0, 1) := by decide +kernel
theorem dX12_signHere_59 : decode cX12_signHere 59 = .ok (.getfield 63, 3) := by decide +kernel
theorem dX12_signHere_62 : decode cX12_signHere 62 = .ok (.iload_n 2, 1) := by decide +kernel
theorem dX12_signHere_63 : decode cX12_signHere 63 = .ok (.iaload, 1) := by decide +kernel
theorem dX12_signHere_64 : decode cX12_signHere 64 = .ok (.if_icmp .ge 35, 3) := by decide +kernel
theorem dX12_signHere_67 : decode cX12_signHere 67 = .ok (.aload_n 0, 1) := by decide +kernel
theorem dX12_signHere_68 : decode cX12_signHere 68 = .ok (.iload_n 3, 1) := by decide +kernel
theorem dX12_signHere_69 : decode cX12_signHere 69 = .ok (.invokevirtual 448, 3) := by decide +kernel
theorem dX12_signHere_72 : decode cX12_signHere 72 = .ok (.ifCond .eq 21, 3) := by decide +kernel
theorem dX12_signHere_75 : decode cX12_signHere 75 = .ok (.aload_n 0, 1) := by decide +kernel
theorem dX12_signHere_76 : decode cX12_signHere 76 = .ok (.getfield 63, 3) := by decide +kernel
theorem dX12_signHere_79 : decode cX12_signHere 79 = .ok (.iload_n 3, 1) := by decide +kernel
theorem dX12_signHere_80 : decode cX12_signHere 80 = .ok (.iaload, 1) := by decide +kernel
theorem dX12_signHere_81 : decode cX12_signHere 81 = .ok (.aload_n 0, 1) := by decide +kernel
theorem dX12_signHere_82 : decode cX12_signHere 82 = .ok (.getfield 63, 3) := by decide +kernel
theorem dX12_signHere_85 : decode cX12_signHere 85 = .ok (.iload_n 2, 1) := by decide +kernel
theorem dX12_signHere_86 : decode cX12_signHere 86 = .ok (.iaload, 1) := by decide +kernel
theorem dX12_signHere_87 : decode cX12_signHere 87 = .ok (.if_icmp .le 6, 3) := by decide +kernel
theorem dX12_signHere_90 : decode cX12_signHere 90 = .ok (.iload_n 1, 1) := by decide +kernel
theorem dX12_signHere_91 : decode cX12_signHere 91 = .ok (.ineg, 1) := by decide +kernel
theorem dX12_signHere_92 : decode cX12_signHere 92 = .ok (.istore_n 1, 1) := by decide +kernel
theorem dX12_signHere_93 : decode cX12_signHere 93 = .ok (.iinc 3 1, 3) := by decide +kernel
theorem dX12_signHere_96 : decode cX12_signHere 96 = .ok (.goto (-39), 3) := by decide +kernel
theorem dX12_signHere_99 : decode cX12_signHere 99 = .ok (.iinc 2 1, 3) := by decide +kernel
theorem dX12_signHere_102 : decode cX12_signHere 102 = .ok (.goto (-98), 3) := by decide +kernel
theorem dX12_signHere_105 : decode cX12_signHere 105 = .ok (.iload_n 1, 1) := by decide +kernel
theorem dX12_signHere_106 : decode cX12_signHere 106 = .ok (.ireturn, 1) := by decide +kernel
theorem dX12_common_0 : decode cX12_common 0 = .ok (.iload_n 0, 1) := by decide +kernel
theorem dX12_common_1 : decode cX12_common 1 = .ok (.istore_n 2, 1) := by decide +kernel
theorem dX12_common_2 : decode cX12_common 2 = .ok (.iload_n 1, 1) := by decide +kernel
theorem dX12_common_3 : decode cX12_common 3 = .ok (.istore_n 3, 1) := by decide +kernel
theorem dX12_common_4 : decode cX12_common 4 = .ok (.iload_n 2, 1) := by decide +kernel
theorem dX12_common_5 : decode cX12_common 5 = .ok (.ifCond .le 16, 3) := by decide +kernel
theorem dX12_common_8 : decode cX12_common 8 = .ok (.iload_n 3, 1) := by decide +kernel
theorem dX12_common_9 : decode cX12_common 9 = .ok (.iload_n 2, 1) := by decide +kernel
theorem dX12_common_10 : decode cX12_common 10 = .ok (.irem, 1) := by decide +kernel
theorem dX12_common_11 : decode cX12_common 11 = .ok (.istore 4, 2) := by decide +kernel
theorem dX12_common_13 : decode cX12_common 13 = .ok (.iload_n 2, 1) := by decide +kernel
theorem dX12_common_14 : decode cX12_common 14 = .ok (.istore_n 3, 1) := by decide +kernel
theorem dX12_common_15 : decode cX12_common 15 = .ok (.iload 4, 2) := by decide +kernel
theorem dX12_common_17 : decode cX12_common 17 = .ok (.istore_n 2, 1) := by decide +kernel
theorem dX12_common_18 : decode cX12_common 18 = .ok (.goto (-14), 3) := by decide +kernel
theorem dX12_common_21 : decode cX12_common 21 = .ok (.iload_n 3, 1) := by decide +kernel
theorem dX12_common_22 : decode cX12_common 22 = .ok (.ireturn, 1) := by decide +kernel
theorem dX12_drawing_0 : decode cX12_drawing 0 = .ok (.aload_n 0, 1) := by decide +kernel
theorem dX12_drawing_1 : decode cX12_drawing 1 = .ok (.iconst 0, 1) := by decide +kernel
theorem dX12_drawing_2 : decode cX12_drawing 2 = .ok (.putfield 147, 3) := by decide +kernel
theorem dX12_drawing_5 : decode cX12_drawing 5 = .ok (.aload_n 0, 1) := by decide +kernel
theorem dX12_drawing_6 : decode cX12_drawing 6 = .ok (.iload_n 1, 1) := by decide +kernel
theorem dX12_drawing_7 : decode cX12_drawing 7 = .ok (.invokevirtual 451, 3) := by decide +kernel
theorem dX12_drawing_10 : decode cX12_drawing 10 = .ok (.ifCond .ne 7, 3) := by decide +kernel
theorem dX12_drawing_13 : decode cX12_drawing 13 = .ok (.ldc_w 330, 3) := by decide +kernel
theorem dX12_drawing_16 : decode cX12_drawing 16 = .ok (.ireturn, 1) := by decide +kernel
theorem dX12_drawing_17 : decode cX12_drawing 17 = .ok (.aload_n 0, 1) := by decide +kernel
theorem dX12_drawing_18 : decode cX12_drawing 18 = .ok (.aload_n 0, 1) := by decide +kernel
theorem dX12_drawing_19 : decode cX12_drawing 19 = .ok (.getfield 47, 3) := by decide +kernel
theorem dX12_drawing_22 : decode cX12_drawing 22 = .ok (.getfield 339, 3) := by decide +kernel
theorem dX12_drawing_25 : decode cX12_drawing 25 = .ok (.putfield 439, 3) := by decide +kernel
theorem dX12_drawing_28 : decode cX12_drawing 28 = .ok (.aload_n 0, 1) := by decide +kernel
theorem dX12_drawing_29 : decode cX12_drawing 29 = .ok (.aload_n 0, 1) := by decide +kernel
theorem dX12_drawing_30 : decode cX12_drawing 30 = .ok (.getfield 47, 3) := by decide +kernel
theorem dX12_drawing_33 : decode cX12_drawing 33 = .ok (.iload_n 1, 1) := by decide +kernel
theorem dX12_drawing_34 : decode cX12_drawing 34 = .ok (.invokevirtual 454, 3) := by decide +kernel
theorem dX12_drawing_37 : decode cX12_drawing 37 = .ok (.aload_n 0, 1) := by decide +kernel
theorem dX12_drawing_38 : decode cX12_drawing 38 = .ok (.getfield 47, 3) := by decide +kernel
theorem dX12_drawing_41 : decode cX12_drawing 41 = .ok (.getfield 416, 3) := by decide +kernel
theorem dX12_drawing_44 : decode cX12_drawing 44 = .ok (.iload_n 1, 1) := by decide +kernel
theorem dX12_drawing_45 : decode cX12_drawing 45 = .ok (.iaload, 1) := by decide +kernel
theorem dX12_drawing_46 : decode cX12_drawing 46 = .ok (.aload_n 0, 1) := by decide +kernel
theorem dX12_drawing_47 : decode cX12_drawing 47 = .ok (.getfield 47, 3) := by decide +kernel
theorem dX12_drawing_50 : decode cX12_drawing 50 = .ok (.getfield 413, 3) := by decide +kernel
theorem dX12_drawing_53 : decode cX12_drawing 53 = .ok (.iload_n 1, 1) := by decide +kernel
theorem dX12_drawing_54 : decode cX12_drawing 54 = .ok (.iaload, 1) := by decide +kernel
theorem dX12_drawing_55 : decode cX12_drawing 55 = .ok (.invokestatic 458, 3) := by decide +kernel
theorem dX12_drawing_58 : decode cX12_drawing 58 = .ok (.istore_n 3, 1) := by decide +kernel
theorem dX12_drawing_59 : decode cX12_drawing 59 = .ok (.iload_n 2, 1) := by decide +kernel
theorem dX12_drawing_60 : decode cX12_drawing 60 = .ok (.tableswitch 108 0 6 #[44, 56, 68, 73, 88, 93, 103], 44) := by decide +kernel
theorem dX12_drawing_104 : decode cX12_drawing 104 = .ok (.aload_n 0, 1) := by decide +kernel
theorem dX12_drawing_105 : decode cX12_drawing 105 = .ok (.getfield 47, 3) := by decide +kernel
theorem dX12_drawing_108 : decode cX12_drawing 108 = .ok (.getfield 416, 3) := by decide +kernel
theorem dX12_drawing_111 : decode cX12_drawing 111 = .ok (.iload_n 1, 1) := by decide +kernel
theorem dX12_drawing_112 : decode cX12_drawing 112 = .ok (.iaload, 1) := by decide +kernel
theorem dX12_drawing_113 : decode cX12_drawing 113 = .ok (.iload_n 3, 1) := by decide +kernel
theorem dX12_drawing_114 : decode cX12_drawing 114 = .ok (.idiv, 1) := by decide +kernel
theorem dX12_drawing_115 : decode cX12_drawing 115 = .ok (.ireturn, 1) := by decide +kernel
theorem dX12_drawing_116 : decode cX12_drawing 116 = .ok (.aload_n 0, 1) := by decide +kernel
theorem dX12_drawing_117 : decode cX12_drawing 117 = .ok (.getfield 47, 3) := by decide +kernel
theorem dX12_drawing_120 : decode cX12_drawing 120 = .ok (.getfield 413, 3) := by decide +kernel
theorem dX12_drawing_123 : decode cX12_drawing 123 = .ok (.iload_n 1, 1) := by decide +kernel
theorem dX12_drawing_124 : decode cX12_drawing 124 = .ok (.iaload, 1) := by decide +kernel
theorem dX12_drawing_125 : decode cX12_drawing 125 = .ok (.iload_n 3, 1) := by decide +kernel
theorem dX12_drawing_126 : decode cX12_drawing 126 = .ok (.idiv, 1) := by decide +kernel
theorem dX12_drawing_127 : decode cX12_drawing 127 = .ok (.ireturn, 1) := by decide +kernel
theorem dX12_drawing_128 : decode cX12_drawing 128 = .ok (.aload_n 0, 1) := by decide +kernel
theorem dX12_drawing_129 : decode cX12_drawing 129 = .ok (.invokevirtual 461, 3) := by decide +kernel
theorem dX12_drawing_132 : decode cX12_drawing 132 = .ok (.ireturn, 1) := by decide +kernel
theorem dX12_drawing_133 : decode cX12_drawing 133 = .ok (.aload_n 0, 1) := by decide +kernel
theorem dX12_drawing_134 : decode cX12_drawing 134 = .ok (.invokevirtual 464, 3) := by decide +kernel
theorem dX12_drawing_137 : decode cX12_drawing 137 = .ok (.aload_n 0, 1) := by decide +kernel
theorem dX12_drawing_138 : decode cX12_drawing 138 = .ok (.getfield 47, 3) := by decide +kernel
theorem dX12_drawing_141 : decode cX12_drawing 141 = .ok (.getfield 339, 3) := by decide +kernel
theorem dX12_drawing_144 : decode cX12_drawing 144 = .ok (.isub, 1) := by decide +kernel
theorem dX12_drawing_145 : decode cX12_drawing 145 = .ok (.iconst 1, 1) := by decide +kernel
theorem dX12_drawing_146 : decode cX12_drawing 146 = .ok (.iadd, 1) := by decide +kernel
theorem dX12_drawing_147 : decode cX12_drawing 147 = .ok (.ireturn, 1) := by decide +kernel
theorem dX12_drawing_148 : decode cX12_drawing 148 = .ok (.aload_n 0, 1) := by decide +kernel
theorem dX12_drawing_149 : decode cX12_drawing 149 = .ok (.invokevirtual 467, 3) := by decide +kernel
theorem dX12_drawing_152 : decode cX12_drawing 152 = .ok (.ireturn, 1) := by decide +kernel
theorem dX12_drawing_153 : decode cX12_drawing 153 = .ok (.aload_n 0, 1) := by decide +kernel
theorem dX12_drawing_154 : decode cX12_drawing 154 = .ok (.getfield 47, 3) := by decide +kernel
theorem dX12_drawing_157 : decode cX12_drawing 157 = .ok (.getfield 416, 3) := by decide +kernel
theorem dX12_drawing_160 : decode cX12_drawing 160 = .ok (.iload_n 1, 1) := by decide +kernel
theorem dX12_drawing_161 : decode cX12_drawing 161 = .ok (.iaload, 1) := by decide +kernel
theorem dX12_drawing_162 : decode cX12_drawing 162 = .ok (.ireturn, 1) := by decide +kernel
theorem dX12_drawing_163 : decode cX12_drawing 163 = .ok (.aload_n 0, 1) := by decide +kernel
theorem dX12_drawing_164 : decode cX12_drawing 164 = .ok (.invokevirtual 464, 3) := by decide +kernel
theorem dX12_drawing_167 : decode cX12_drawing 167 = .ok (.ireturn, 1) := by decide +kernel
theorem dX12_drawing_168 : decode cX12_drawing 168 = .ok (.ldc_w 330, 3) := by decide +kernel
theorem dX12_drawing_171 : decode cX12_drawing 171 = .ok (.ireturn, 1) := by decide +kernel
theorem dX12_point_0 : decode cX12_point 0 = .ok (.aload_n 0, 1) := by decide +kernel
theorem dX12_point_1 : decode cX12_point 1 = .ok (.iconst 0, 1) := by decide +kernel
theorem dX12_point_2 : decode cX12_point 2 = .ok (.putfield 147, 3) := by decide +kernel
theorem dX12_point_5 : decode cX12_point 5 = .ok (.aload_n 0, 1) := by decide +kernel
theorem dX12_point_6 : decode cX12_point 6 = .ok (.iload_n 1, 1) := by decide +kernel
theorem dX12_point_7 : decode cX12_point 7 = .ok (.invokevirtual 451, 3) := by decide +kernel
theorem dX12_point_10 : decode cX12_point 10 = .ok (.ifCond .eq 36, 3) := by decide +kernel
theorem dX12_point_13 : decode cX12_point 13 = .ok (.iload_n 2, 1) := by decide +kernel
theorem dX12_point_14 : decode cX12_point 14 = .ok (.iconst 0, 1) := by decide +kernel
theorem dX12_point_15 : decode cX12_point 15 = .ok (.aload_n 0, 1) := by decide +kernel
theorem dX12_point_16 : decode cX12_point 16 = .ok (.getfield 47, 3) := by decide +kernel
theorem dX12_point_19 : decode cX12_point 19 = .ok (.getfield 339, 3) := by decide +kernel
theorem dX12_point_22 : decode cX12_point 22 = .ok (.iconst 1, 1) := by decide +kernel
theorem dX12_point_23 : decode cX12_point 23 = .ok (.isub, 1) := by decide +kernel
theorem dX12_point_24 : decode cX12_point 24 = .ok (.invokestatic 242, 3) := by decide +kernel
theorem dX12_point_27 : decode cX12_point 27 = .ok (.ifCond .eq 19, 3) := by decide +kernel
theorem dX12_point_30 : decode cX12_point 30 = .ok (.aload_n 0, 1) := by decide +kernel
theorem dX12_point_31 : decode cX12_point 31 = .ok (.getfield 47, 3) := by decide +kernel
theorem dX12_point_34 : decode cX12_point 34 = .ok (.getfield 407, 3) := by decide +kernel
theorem dX12_point_37 : decode cX12_point 37 = .ok (.iconst 3, 1) := by decide +kernel
theorem dX12_point_38 : decode cX12_point 38 = .ok (.iload_n 1, 1) := by decide +kernel
theorem dX12_point_39 : decode cX12_point 39 = .ok (.imul, 1) := by decide +kernel
theorem dX12_point_40 : decode cX12_point 40 = .ok (.iload_n 2, 1) := by decide +kernel
theorem dX12_point_41 : decode cX12_point 41 = .ok (.iadd, 1) := by decide +kernel
theorem dX12_point_42 : decode cX12_point 42 = .ok (.iaload, 1) := by decide +kernel
theorem dX12_point_43 : decode cX12_point 43 = .ok (.goto 4, 3) := by decide +kernel
theorem dX12_point_46 : decode cX12_point 46 = .ok (.iconst (-1), 1) := by decide +kernel
theorem dX12_point_47 : decode cX12_point 47 = .ok (.ireturn, 1) := by decide +kernel
theorem dX12_joined_0 : decode cX12_joined 0 = .ok (.aload_n 0, 1) := by decide +kernel
theorem dX12_joined_1 : decode cX12_joined 1 = .ok (.iconst 0, 1) := by decide +kernel
theorem dX12_joined_2 : decode cX12_joined 2 = .ok (.putfield 147, 3) := by decide +kernel
theorem dX12_joined_5 : decode cX12_joined 5 = .ok (.aload_n 0, 1) := by decide +kernel
theorem dX12_joined_6 : decode cX12_joined 6 = .ok (.iload_n 1, 1) := by decide +kernel
theorem dX12_joined_7 : decode cX12_joined 7 = .ok (.invokevirtual 451, 3) := by decide +kernel
theorem dX12_joined_10 : decode cX12_joined 10 = .ok (.ifCond .ne 5, 3) := by decide +kernel
theorem dX12_joined_13 : decode cX12_joined 13 = .ok (.iconst (-1), 1) := by decide +kernel
theorem dX12_joined_14 : decode cX12_joined 14 = .ok (.ireturn, 1) := by decide +kernel
theorem dX12_joined_15 : decode cX12_joined 15 = .ok (.aload_n 0, 1) := by decide +kernel
theorem dX12_joined_16 : decode cX12_joined 16 = .ok (.aload_n 0, 1) := by decide +kernel
theorem dX12_joined_17 : decode cX12_joined 17 = .ok (.getfield 47, 3) := by decide +kernel
theorem dX12_joined_20 : decode cX12_joined 20 = .ok (.iload_n 1, 1) := by decide +kernel
theorem dX12_joined_21 : decode cX12_joined 21 = .ok (.invokevirtual 454, 3) := by decide +kernel
theorem dX12_joined_24 : decode cX12_joined 24 = .ok (.iload_n 2, 1) := by decide +kernel
theorem dX12_joined_25 : decode cX12_joined 25 = .ok (.iconst 0, 1) := by decide +kernel
theorem dX12_joined_26 : decode cX12_joined 26 = .ok (.aload_n 0, 1) := by decide +kernel
theorem dX12_joined_27 : decode cX12_joined 27 = .ok (.getfield 331, 3) := by decide +kernel
theorem dX12_joined_30 : decode cX12_joined 30 = .ok (.iconst 1, 1) := by decide +kernel
theorem dX12_joined_31 : decode cX12_joined 31 = .ok (.isub, 1) := by decide +kernel
theorem dX12_joined_32 : decode cX12_joined 32 = .ok (.invokestatic 242, 3) := by decide +kernel
theorem dX12_joined_35 : decode cX12_joined 35 = .ok (.ifCond .eq 12, 3) := by decide +kernel
theorem dX12_joined_38 : decode cX12_joined 38 = .ok (.aload_n 0, 1) := by decide +kernel
theorem dX12_joined_39 : decode cX12_joined 39 = .ok (.getfield 63, 3) := by decide +kernel
theorem dX12_joined_42 : decode cX12_joined 42 = .ok (.iload_n 2, 1) := by decide +kernel
theorem dX12_joined_43 : decode cX12_joined 43 = .ok (.iaload, 1) := by decide +kernel
theorem dX12_joined_44 : decode cX12_joined 44 = .ok (.goto 4, 3) := by decide +kernel
theorem dX12_joined_47 : decode cX12_joined 47 = .ok (.iconst (-1), 1) := by decide +kernel
theorem dX12_joined_48 : decode cX12_joined 48 = .ok (.ireturn, 1) := by decide +kernel
theorem dX12_side_0 : decode cX12_side 0 = .ok (.aload_n 0, 1) := by decide +kernel
theorem dX12_side_1 : decode cX12_side 1 = .ok (.iconst 1, 1) := by decide +kernel
theorem dX12_side_2 : decode cX12_side 2 = .ok (.putfield 147, 3) := by decide +kernel
theorem dX12_side_5 : decode cX12_side 5 = .ok (.aload_n 0, 1) := by decide +kernel
theorem dX12_side_6 : decode cX12_side 6 = .ok (.iload_n 1, 1) := by decide +kernel
theorem dX12_side_7 : decode cX12_side 7 = .ok (.invokevirtual 451, 3) := by decide +kernel
theorem dX12_side_10 : decode cX12_side 10 = .ok (.ifCond .ne 5, 3) := by decide +kernel
theorem dX12_side_13 : decode cX12_side 13 = .ok (.iconst 0, 1) := by decide +kernel
theorem dX12_side_14 : decode cX12_side 14 = .ok (.ireturn, 1) := by decide +kernel
theorem dX12_side_15 : decode cX12_side 15 = .ok (.aload_n 0, 1) := by decide +kernel
theorem dX12_side_16 : decode cX12_side 16 = .ok (.aload_n 0, 1) := by decide +kernel
theorem dX12_side_17 : decode cX12_side 17 = .ok (.getfield 47, 3) := by decide +kernel
theorem dX12_side_20 : decode cX12_side 20 = .ok (.getfield 339, 3) := by decide +kernel
theorem dX12_side_23 : decode cX12_side 23 = .ok (.putfield 439, 3) := by decide +kernel
theorem dX12_side_26 : decode cX12_side 26 = .ok (.aload_n 0, 1) := by decide +kernel
theorem dX12_side_27 : decode cX12_side 27 = .ok (.aload_n 0, 1) := by decide +kernel
theorem dX12_side_28 : decode cX12_side 28 = .ok (.getfield 47, 3) := by decide +kernel
theorem dX12_side_31 : decode cX12_side 31 = .ok (.iload_n 1, 1) := by decide +kernel
theorem dX12_side_32 : decode cX12_side 32 = .ok (.invokevirtual 454, 3) := by decide +kernel
theorem dX12_side_35 : decode cX12_side 35 = .ok (.iload_n 2, 1) := by decide +kernel
theorem dX12_side_36 : decode cX12_side 36 = .ok (.istore_n 3, 1) := by decide +kernel
theorem dX12_side_37 : decode cX12_side 37 = .ok (.iconst 0, 1) := by decide +kernel
theorem dX12_side_38 : decode cX12_side 38 = .ok (.istore 4, 2) := by decide +kernel
theorem dX12_side_40 : decode cX12_side 40 = .ok (.iload 4, 2) := by decide +kernel
theorem dX12_side_42 : decode cX12_side 42 = .ok (.aload_n 0, 1) := by decide +kernel
theorem dX12_side_43 : decode cX12_side 43 = .ok (.getfield 331, 3) := by decide +kernel

