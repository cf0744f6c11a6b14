theorem dL_law_0 : decode cL_law 0 = .ok (.new 9, 3) := by decide +kernel
theorem dL_law_3 : decode cL_law 3 = .ok (.dup, 1) := by decide +kernel
theorem dL_law_4 : decode cL_law 4 = .ok (.invokespecial 49, 3) := by decide +kernel
theorem dL_law_7 : decode cL_law 7 = .ok (.astore_n 1, 1) := by decide +kernel
theorem dL_law_8 : decode cL_law 8 = .ok (.bipush 40, 2) := by decide +kernel
theorem dL_law_10 : decode cL_law 10 = .ok (.newarray .int, 2) := by decide +kernel
theorem dL_law_12 : decode cL_law 12 = .ok (.astore_n 2, 1) := by decide +kernel
theorem dL_law_13 : decode cL_law 13 = .ok (.bipush 40, 2) := by decide +kernel
theorem dL_law_15 : decode cL_law 15 = .ok (.newarray .int, 2) := by decide +kernel
theorem dL_law_17 : decode cL_law 17 = .ok (.astore_n 3, 1) := by decide +kernel
theorem dL_law_18 : decode cL_law 18 = .ok (.bipush 40, 2) := by decide +kernel
theorem dL_law_20 : decode cL_law 20 = .ok (.newarray .int, 2) := by decide +kernel
theorem dL_law_22 : decode cL_law 22 = .ok (.astore 4, 2) := by decide +kernel
theorem dL_law_24 : decode cL_law 24 = .ok (.bipush 40, 2) := by decide +kernel
theorem dL_law_26 : decode cL_law 26 = .ok (.newarray .int, 2) := by decide +kernel
theorem dL_law_28 : decode cL_law 28 = .ok (.astore 5, 2) := by decide +kernel
theorem dL_law_30 : decode cL_law 30 = .ok (.iconst 0, 1) := by decide +kernel
theorem dL_law_31 : decode cL_law 31 = .ok (.istore 6, 2) := by decide +kernel
theorem dL_law_33 : decode cL_law 33 = .ok (.iload 6, 2) := by decide +kernel
theorem dL_law_35 : decode cL_law 35 = .ok (.sipush 130, 3) := by decide +kernel
theorem dL_law_38 : decode cL_law 38 = .ok (.if_icmp .ge 568, 3) := by decide +kernel
theorem dL_law_41 : decode cL_law 41 = .ok (.aload_n 0, 1) := by decide +kernel
theorem dL_law_42 : decode cL_law 42 = .ok (.iconst 2, 1) := by decide +kernel
theorem dL_law_43 : decode cL_law 43 = .ok (.iload 6, 2) := by decide +kernel
theorem dL_law_45 : decode cL_law 45 = .ok (.imul, 1) := by decide +kernel
theorem dL_law_46 : decode cL_law 46 = .ok (.invokestatic 50, 3) := by decide +kernel
theorem dL_law_49 : decode cL_law 49 = .ok (.istore 7, 2) := by decide +kernel
theorem dL_law_51 : decode cL_law 51 = .ok (.aload_n 0, 1) := by decide +kernel
theorem dL_law_52 : decode cL_law 52 = .ok (.iconst 2, 1) := by decide +kernel
theorem dL_law_53 : decode cL_law 53 = .ok (.iload 6, 2) := by decide +kernel
theorem dL_law_55 : decode cL_law 55 = .ok (.imul, 1) := by decide +kernel
theorem dL_law_56 : decode cL_law 56 = .ok (.iconst 1, 1) := by decide +kernel
theorem dL_law_57 : decode cL_law 57 = .ok (.iadd, 1) := by decide +kernel
theorem dL_law_58 : decode cL_law 58 = .ok (.invokestatic 50, 3) := by decide +kernel
theorem dL_law_61 : decode cL_law 61 = .ok (.istore 8, 2) := by decide +kernel
theorem dL_law_63 : decode cL_law 63 = .ok (.iload 7, 2) := by decide +kernel
theorem dL_law_65 : decode cL_law 65 = .ok (.bipush 16, 2) := by decide +kernel
theorem dL_law_67 : decode cL_law 67 = .ok (.invokestatic 56, 3) := by decide +kernel
theorem dL_law_70 : decode cL_law 70 = .ok (.istore 9, 2) := by decide +kernel
theorem dL_law_72 : decode cL_law 72 = .ok (.aload_n 1, 1) := by decide +kernel
theorem dL_law_73 : decode cL_law 73 = .ok (.invokevirtual 36, 3) := by decide +kernel
theorem dL_law_76 : decode cL_law 76 = .ok (.istore 10, 2) := by decide +kernel
theorem dL_law_78 : decode cL_law 78 = .ok (.iload 10, 2) := by decide +kernel
theorem dL_law_80 : decode cL_law 80 = .ok (.ifCond .eq 16, 3) := by decide +kernel
theorem dL_law_83 : decode cL_law 83 = .ok (.iload 9, 2) := by decide +kernel
theorem dL_law_85 : decode cL_law 85 = .ok (.iconst 2, 1) := by decide +kernel
theorem dL_law_86 : decode cL_law 86 = .ok (.if_icmp .ge 198, 3) := by decide +kernel
theorem dL_law_89 : decode cL_law 89 = .ok (.iload 10, 2) := by decide +kernel
theorem dL_law_91 : decode cL_law 91 = .ok (.bipush 40, 2) := by decide +kernel
theorem dL_law_93 : decode cL_law 93 = .ok (.if_icmp .ge 191, 3) := by decide +kernel
theorem dL_law_96 : decode cL_law 96 = .ok (.iload 10, 2) := by decide +kernel
theorem dL_law_98 : decode cL_law 98 = .ok (.ifCond .eq 12, 3) := by decide +kernel
theorem dL_law_101 : decode cL_law 101 = .ok (.iload 8, 2) := by decide +kernel
theorem dL_law_103 : decode cL_law 103 = .ok (.iconst 2, 1) := by decide +kernel
theorem dL_law_104 : decode cL_law 104 = .ok (.invokestatic 56, 3) := by decide +kernel
theorem dL_law_107 : decode cL_law 107 = .ok (.ifCond .ne 7, 3) := by decide +kernel
theorem dL_law_110 : decode cL_law 110 = .ok (.iconst (-1), 1) := by decide +kernel
theorem dL_law_111 : decode cL_law 111 = .ok (.goto 12, 3) := by decide +kernel
theorem dL_law_114 : decode cL_law 114 = .ok (.iload 8, 2) := by decide +kernel
theorem dL_law_116 : decode cL_law 116 = .ok (.iconst 1, 1) := by decide +kernel
theorem dL_law_117 : decode cL_law 117 = .ok (.ishr, 1) := by decide +kernel
theorem dL_law_118 : decode cL_law 118 = .ok (.iload 10, 2) := by decide +kernel
theorem dL_law_120 : decode cL_law 120 = .ok (.invokestatic 56, 3) := by decide +kernel
theorem dL_law_123 : decode cL_law 123 = .ok (.istore 11, 2) := by decide +kernel
theorem dL_law_125 : decode cL_law 125 = .ok (.iload 11, 2) := by decide +kernel
theorem dL_law_127 : decode cL_law 127 = .ok (.ifCond .lt 18, 3) := by decide +kernel
theorem dL_law_130 : decode cL_law 130 = .ok (.aload_n 1, 1) := by decide +kernel
theorem dL_law_131 : decode cL_law 131 = .ok (.iload 11, 2) := by decide +kernel
theorem dL_law_133 : decode cL_law 133 = .ok (.invokevirtual 8, 3) := by decide +kernel
theorem dL_law_136 : decode cL_law 136 = .ok (.iconst (-1), 1) := by decide +kernel
theorem dL_law_137 : decode cL_law 137 = .ok (.if_icmp .ne 8, 3) := by decide +kernel
theorem dL_law_140 : decode cL_law 140 = .ok (.iload 11, 2) := by decide +kernel
theorem dL_law_142 : decode cL_law 142 = .ok (.goto 4, 3) := by decide +kernel
theorem dL_law_145 : decode cL_law 145 = .ok (.iconst (-1), 1) := by decide +kernel
theorem dL_law_146 : decode cL_law 146 = .ok (.istore 11, 2) := by decide +kernel
theorem dL_law_148 : decode cL_law 148 = .ok (.aload_n 2, 1) := by decide +kernel
theorem dL_law_149 : decode cL_law 149 = .ok (.iload 10, 2) := by decide +kernel
theorem dL_law_151 : decode cL_law 151 = .ok (.iload 7, 2) := by decide +kernel
theorem dL_law_153 : decode cL_law 153 = .ok (.iconst 4, 1) := by decide +kernel
theorem dL_law_154 : decode cL_law 154 = .ok (.ishr, 1) := by decide +kernel
theorem dL_law_155 : decode cL_law 155 = .ok (.iconst 5, 1) := by decide +kernel
theorem dL_law_156 : decode cL_law 156 = .ok (.invokestatic 56, 3) := by decide +kernel
theorem dL_law_159 : decode cL_law 159 = .ok (.ifCond .ne 7, 3) := by decide +kernel
theorem dL_law_162 : decode cL_law 162 = .ok (.iconst 2, 1) := by decide +kernel
theorem dL_law_163 : decode cL_law 163 = .ok (.goto 29, 3) := by decide +kernel
theorem dL_law_166 : decode cL_law 166 = .ok (.iload 7, 2) := by decide +kernel
theorem dL_law_168 : decode cL_law 168 = .ok (.iconst 4, 1) := by decide +kernel
theorem dL_law_169 : decode cL_law 169 = .ok (.ishr, 1) := by decide +kernel
theorem dL_law_170 : decode cL_law 170 = .ok (.iconst 5, 1) := by decide +kernel
theorem dL_law_171 : decode cL_law 171 = .ok (.invokestatic 56, 3) := by decide +kernel
theorem dL_law_174 : decode cL_law 174 = .ok (.iconst 2, 1) := by decide +kernel
theorem dL_law_175 : decode cL_law 175 = .ok (.if_icmp .le 7, 3) := by decide +kernel
theorem dL_law_178 : decode cL_law 178 = .ok (.iconst 3, 1) := by decide +kernel
theorem dL_law_179 : decode cL_law 179 = .ok (.goto 13, 3) := by decide +kernel
theorem dL_law_182 : decode cL_law 182 = .ok (.iload 7, 2) := by decide +kernel
theorem dL_law_184 : decode cL_law 184 = .ok (.iconst 4, 1) := by decide +kernel
theorem dL_law_185 : decode cL_law 185 = .ok (.ishr, 1) := by decide +kernel
theorem dL_law_186 : decode cL_law 186 = .ok (.iconst 5, 1) := by decide +kernel
theorem dL_law_187 : decode cL_law 187 = .ok (.invokestatic 56, 3) := by decide +kernel
theorem dL_law_190 : decode cL_law 190 = .ok (.iconst 1, 1) := by decide +kernel
theorem dL_law_191 : decode cL_law 191 = .ok (.isub, 1) := by decide +kernel
theorem dL_law_192 : decode cL_law 192 = .ok (.iastore, 1) := by decide +kernel
theorem dL_law_193 : decode cL_law 193 = .ok (.aload_n 3, 1) := by decide +kernel
theorem dL_law_194 : decode cL_law 194 = .ok (.iload 10, 2) := by decide +kernel
theorem dL_law_196 : decode cL_law 196 = .ok (.aload_n 2, 1) := by decide +kernel
theorem dL_law_197 : decode cL_law 197 = .ok (.iload 10, 2) := by decide +kernel
theorem dL_law_199 : decode cL_law 199 = .ok (.iaload, 1) := by decide +kernel
theorem dL_law_200 : decode cL_law 200 = .ok (.iconst 3, 1) := by decide +kernel
theorem dL_law_201 : decode cL_law 201 = .ok (.if_icmp .ne 18, 3) := by decide +kernel
theorem dL_law_204 : decode cL_law 204 = .ok (.iload 8, 2) := by decide +kernel
theorem dL_law_206 : decode cL_law 206 = .ok (.bipush 7, 2) := by decide +kernel
theorem dL_law_208 : decode cL_law 208 = .ok (.ishr, 1) := by decide +kernel
theorem dL_law_209 : decode cL_law 209 = .ok (.bipush 7, 2) := by decide +kernel
theorem dL_law_211 : decode cL_law 211 = .ok (.invokestatic 56, 3) := by decide +kernel
theorem dL_law_214 : decode cL_law 214 = .ok (.iconst 1, 1) := by decide +kernel
theorem dL_law_215 : decode cL_law 215 = .ok (.isub, 1) := by decide +kernel
theorem dL_law_216 : decode cL_law 216 = .ok (.goto 18, 3) := by decide +kernel
theorem dL_law_219 : decode cL_law 219 = .ok (.iload 8, 2) := by decide +kernel
theorem dL_law_221 : decode cL_law 221 = .ok (.bipush 7, 2) := by decide +kernel
theorem dL_law_223 : decode cL_law 223 = .ok (.ishr, 1) := by decide +kernel
theorem dL_law_224 : decode cL_law 224 = .ok (.sipush 2001, 3) := by decide +kernel
theorem dL_law_227 : decode cL_law 227 = .ok (.invokestatic 56, 3) := by decide +kernel
theorem dL_law_230 : decode cL_law 230 = .ok (.sipush 1000, 3) := by decide +kernel
theorem dL_law_233 : decode cL_law 233 = .ok (.isub, 1) := by decide +kernel
theorem dL_law_234 : decode cL_law 234 = .ok (.iastore, 1) := by decide +kernel
theorem dL_law_235 : decode cL_law 235 = .ok (.aload 4, 2) := by decide +kernel
theorem dL_law_237 : decode cL_law 237 = .ok (.iload 10, 2) := by decide +kernel
theorem dL_law_239 : decode cL_law 239 = .ok (.iload 11, 2) := by decide +kernel
theorem dL_law_241 : decode cL_law 241 = .ok (.iastore, 1) := by decide +kernel
theorem dL_law_242 : decode cL_law 242 = .ok (.aload 5, 2) := by decide +kernel
theorem dL_law_244 : decode cL_law 244 = .ok (.iload 10, 2) := by decide +kernel
theorem dL_law_246 : decode cL_law 246 = .ok (.iconst (-1), 1) := by decide +kernel
theorem dL_law_247 : decode cL_law 247 = .ok (.iastore, 1) := by decide +kernel
theorem dL_law_248 : decode cL_law 248 = .ok (.aload_n 1, 1) := by decide +kernel
theorem dL_law_249 : decode cL_law 249 = .ok (.aload_n 2, 1) := by decide +kernel
theorem dL_law_250 : decode cL_law 250 = .ok (.iload 10, 2) := by decide +kernel
theorem dL_law_252 : decode cL_law 252 = .ok (.iaload, 1) := by decide +kernel
theorem dL_law_253 : decode cL_law 253 = .ok (.aload_n 3, 1) := by decide +kernel
theorem dL_law_254 : decode cL_law 254 = .ok (.iload 10, 2) := by decide +kernel
theorem dL_law_256 : decode cL_law 256 = .ok (.iaload, 1) := by decide +kernel
theorem dL_law_257 : decode cL_law 257 = .ok (.iconst 1, 1) := by decide +kernel
theorem dL_law_258 : decode cL_law 258 = .ok (.iload 8, 2) := by decide +kernel
theorem dL_law_260 : decode cL_law 260 = .ok (.bipush 17, 2) := by decide +kernel
theorem dL_law_262 : decode cL_law 262 = .ok (.ishr, 1) := by decide +kernel
theorem dL_law_263 : decode cL_law 263 = .ok (.bipush 60, 2) := by decide +kernel
theorem dL_law_265 : decode cL_law 265 = .ok (.invokestatic 56, 3) := by decide +kernel
theorem dL_law_268 : decode cL_law 268 = .ok (.iadd, 1) := by decide +kernel
theorem dL_law_269 : decode cL_law 269 = .ok (.iload 11, 2) := by decide +kernel
theorem dL_law_271 : decode cL_law 271 = .ok (.invokevirtual 59, 3) := by decide +kernel
theorem dL_law_274 : decode cL_law 274 = .ok (.iload 10, 2) := by decide +kernel
theorem dL_law_276 : decode cL_law 276 = .ok (.if_icmp .eq 5, 3) := by decide +kernel
theorem dL_law_279 : decode cL_law 279 = .ok (.iconst 0, 1) := by decide +kernel
theorem dL_law_280 : decode cL_law 280 = .ok (.ireturn, 1) := by decide +kernel
theorem dL_law_281 : decode cL_law 281 = .ok (.goto 254, 3) := by decide +kernel
theorem dL_law_284 : decode cL_law 284 = .ok (.iload 9, 2) := by decide +kernel
theorem dL_law_286 : decode cL_law 286 = .ok (.bipush 7, 2) := by decide +kernel
theorem dL_law_288 : decode cL_law 288 = .ok (.if_icmp .ge 39, 3) := by decide +kernel
theorem dL_law_291 : decode cL_law 291 = .ok (.aload_n 1, 1) := by decide +kernel
theorem dL_law_292 : decode cL_law 292 = .ok (.iconst 0, 1) := by decide +kernel
theorem dL_law_293 : decode cL_law 293 = .ok (.invokevirtual 63, 3) := by decide +kernel
theorem dL_law_296 : decode cL_law 296 = .ok (.ifCond .le 31, 3) := by decide +kernel
theorem dL_law_299 : decode cL_law 299 = .ok (.iload 8, 2) := by decide +kernel
theorem dL_law_301 : decode cL_law 301 = .ok (.bipush 7, 2) := by decide +kernel
theorem dL_law_303 : decode cL_law 303 = .ok (.invokestatic 56, 3) := by decide +kernel
theorem dL_law_306 : decode cL_law 306 = .ok (.ifCond .ne 12, 3) := by decide +kernel
theorem dL_law_309 : decode cL_law 309 = .ok (.aload_n 1, 1) := by decide +kernel
theorem dL_law_310 : decode cL_law 310 = .ok (.iconst 0, 1) := by decide +kernel
theorem dL_law_311 : decode cL_law 311 = .ok (.invokevirtual 66, 3) := by decide +kernel
theorem dL_law_314 : decode cL_law 314 = .ok (.pop, 1) := by decide +kernel
theorem dL_law_315 : decode cL_law 315 = .ok (.goto 220, 3) := by decide +kernel
theorem dL_law_318 : decode cL_law 318 = .ok (.aload_n 1, 1) := by decide +kernel
theorem dL_law_319 : decode cL_law 319 = .ok (.iconst 0, 1) := by decide +kernel
theorem dL_law_320 : decode cL_law 320 = .ok (.invokevirtual 69, 3) := by decide +kernel
theorem dL_law_323 : decode cL_law 323 = .ok (.pop, 1) := by decide +kernel
theorem dL_law_324 : decode cL_law 324 = .ok (.goto 211, 3) := by decide +kernel
theorem dL_law_327 : decode cL_law 327 = .ok (.iload 9, 2) := by decide +kernel
theorem dL_law_329 : decode cL_law 329 = .ok (.bipush 11, 2) := by decide +kernel
theorem dL_law_331 : decode cL_law 331 = .ok (.if_icmp .ge 39, 3) := by decide +kernel
theorem dL_law_334 : decode cL_law 334 = .ok (.aload_n 1, 1) := by decide +kernel
theorem dL_law_335 : decode cL_law 335 = .ok (.iconst 1, 1) := by decide +kernel
theorem dL_law_336 : decode cL_law 336 = .ok (.invokevirtual 63, 3) := by decide +kernel
theorem dL_law_339 : decode cL_law 339 = .ok (.ifCond .le 31, 3) := by decide +kernel
theorem dL_law_342 : decode cL_law 342 = .ok (.iload 8, 2) := by decide +kernel
theorem dL_law_344 : decode cL_law 344 = .ok (.bipush 9, 2) := by decide +kernel
theorem dL_law_346 : decode cL_law 346 = .ok (.invokestatic 56, 3) := by decide +kernel
theorem dL_law_349 : decode cL_law 349 = .ok (.ifCond .ne 12, 3) := by decide +kernel
theorem dL_law_352 : decode cL_law 352 = .ok (.aload_n 1, 1) := by decide +kernel
theorem dL_law_353 : decode cL_law 353 = .ok (.iconst 1, 1) := by decide +kernel
theorem dL_law_354 : decode cL_law 354 = .ok (.invokevirtual 66, 3) := by decide +kernel
theorem dL_law_357 : decode cL_law 357 = .ok (.pop, 1) := by decide +kernel
theorem dL_law_358 : decode cL_law 358 = .ok (.goto 177, 3) := by decide +kernel
theorem dL_law_361 : decode cL_law 361 = .ok (.aload_n 1, 1) := by decide +kernel
theorem dL_law_362 : decode cL_law 362 = .ok (.iconst 1, 1) := by decide +kernel
theorem dL_law_363 : decode cL_law 363 = .ok (.invokevirtual 69, 3) := by decide +kernel
theorem dL_law_366 : decode cL_law 366 = .ok (.pop, 1) := by decide +kernel
theorem dL_law_367 : decode cL_law 367 = .ok (.goto 168, 3) := by decide +kernel
theorem dL_law_370 : decode cL_law 370 = .ok (.iload 9, 2) := by decide +kernel
theorem dL_law_372 : decode cL_law 372 = .ok (.bipush 11, 2) := by decide +kernel
theorem dL_law_374 : decode cL_law 374 = .ok (.if_icmp .ne 20, 3) := by decide +kernel
theorem dL_law_377 : decode cL_law 377 = .ok (.aload_n 1, 1) := by decide +kernel
theorem dL_law_378 : decode cL_law 378 = .ok (.iconst 1, 1) := by decide +kernel
theorem dL_law_379 : decode cL_law 379 = .ok (.iload 8, 2) := by decide +kernel
theorem dL_law_381 : decode cL_law 381 = .ok (.bipush 9, 2) := by decide +kernel
theorem dL_law_383 : decode cL_law 383 = .ok (.invokestatic 56, 3) := by decide +kernel
theorem dL_law_386 : decode cL_law 386 = .ok (.iadd, 1) := by decide +kernel
theorem dL_law_387 : decode cL_law 387 = .ok (.invokevirtual 72, 3) := by decide +kernel
theorem dL_law_390 : decode cL_law 390 = .ok (.pop, 1) := by decide +kernel
theorem dL_law_391 : decode cL_law 391 = .ok (.goto 144, 3) := by decide +kernel
theorem dL_law_394 : decode cL_law 394 = .ok (.iload 9, 2) := by decide +kernel
theorem dL_law_396 : decode cL_law 396 = .ok (.bipush 12, 2) := by decide +kernel
theorem dL_law_398 : decode cL_law 398 = .ok (.if_icmp .ne 82, 3) := by decide +kernel
theorem dL_law_401 : decode cL_law 401 = .ok (.iload 8, 2) := by decide +kernel
theorem dL_law_403 : decode cL_law 403 = .ok (.iload 10, 2) := by decide +kernel
theorem dL_law_405 : decode cL_law 405 = .ok (.invokestatic 56, 3) := by decide +kernel
theorem dL_law_408 : decode cL_law 408 = .ok (.istore 11, 2) := by decide +kernel
theorem dL_law_410 : decode cL_law 410 = .ok (.aload_n 1, 1) := by decide +kernel
theorem dL_law_411 : decode cL_law 411 = .ok (.iload 11, 2) := by decide +kernel
theorem dL_law_413 : decode cL_law 413 = .ok (.invokevirtual 8, 3) := by decide +kernel
theorem dL_law_416 : decode cL_law 416 = .ok (.iconst (-1), 1) := by decide +kernel
theorem dL_law_417 : decode cL_law 417 = .ok (.if_icmp .ne 25, 3) := by decide +kernel
theorem dL_law_420 : decode cL_law 420 = .ok (.iload 8, 2) := by decide +kernel
theorem dL_law_422 : decode cL_law 422 = .ok (.bipush 6, 2) := by decide +kernel
theorem dL_law_424 : decode cL_law 424 = .ok (.ishr, 1) := by decide +kernel
theorem dL_law_425 : decode cL_law 425 = .ok (.iconst 3, 1) := by decide +kernel
theorem dL_law_426 : decode cL_law 426 = .ok (.invokestatic 56, 3) := by decide +kernel
theorem dL_law_429 : decode cL_law 429 = .ok (.ifCond .ne 13, 3) := by decide +kernel
theorem dL_law_432 : decode cL_law 432 = .ok (.aload_n 1, 1) := by decide +kernel
theorem dL_law_433 : decode cL_law 433 = .ok (.iload 11, 2) := by decide +kernel
theorem dL_law_435 : decode cL_law 435 = .ok (.invokevirtual 75, 3) := by decide +kernel
theorem dL_law_438 : decode cL_law 438 = .ok (.pop, 1) := by decide +kernel
theorem dL_law_439 : decode cL_law 439 = .ok (.goto 38, 3) := by decide +kernel
theorem dL_law_442 : decode cL_law 442 = .ok (.aload_n 1, 1) := by decide +kernel
theorem dL_law_443 : decode cL_law 443 = .ok (.iload 11, 2) := by decide +kernel
theorem dL_law_445 : decode cL_law 445 = .ok (.invokevirtual 8, 3) := by decide +kernel
theorem dL_law_448 : decode cL_law 448 = .ok (.iconst (-1), 1) := by decide +kernel
theorem dL_law_449 : decode cL_law 449 = .ok (.if_icmp .ne 28, 3) := by decide +kernel
theorem dL_law_452 : decode cL_law 452 = .ok (.aload_n 2, 1) := by decide +kernel
theorem dL_law_453 : decode cL_law 453 = .ok (.iload 11, 2) := by decide +kernel
theorem dL_law_455 : decode cL_law 455 = .ok (.iaload, 1) := by decide +kernel
theorem dL_law_456 : decode cL_law 456 = .ok (.iconst 3, 1) := by decide +kernel
theorem dL_law_457 : decode cL_law 457 = .ok (.if_icmp .ne 20, 3) := by decide +kernel
theorem dL_law_460 : decode cL_law 460 = .ok (.aload_n 1, 1) := by decide +kernel
theorem dL_law_461 : decode cL_law 461 = .ok (.iload 11, 2) := by decide +kernel
theorem dL_law_463 : decode cL_law 463 = .ok (.iconst 1, 1) := by decide +kernel
theorem dL_law_464 : decode cL_law 464 = .ok (.iload 8, 2) := by decide +kernel
theorem dL_law_466 : decode cL_law 466 = .ok (.bipush 8, 2) := by decide +kernel
theorem dL_law_468 : decode cL_law 468 = .ok (.ishr, 1) := by decide +kernel
theorem dL_law_469 : decode cL_law 469 = .ok (.iconst 4, 1) := by decide +kernel
theorem dL_law_470 : decode cL_law 470 = .ok (.invokestatic 56, 3) := by decide +kernel
theorem dL_law_473 : decode cL_law 473 = .ok (.iadd, 1) := by decide +kernel
theorem dL_law_474 : decode cL_law 474 = .ok (.invokevirtual 78, 3) := by decide +kernel
theorem dL_law_477 : decode cL_law 477 = .ok (.goto 58, 3) := by decide +kernel
theorem dL_law_480 : decode cL_law 480 = .ok (.iload 8, 2) := by decide +kernel
theorem dL_law_482 : decode cL_law 482 = .ok (.iload 10, 2) := by decide +kernel
theorem dL_law_484 : decode cL_law 484 = .ok (.invokestatic 56, 3) := by decide +kernel
theorem dL_law_487 : decode cL_law 487 = .ok (.istore 11, 2) := by decide +kernel
theorem dL_law_489 : decode cL_law 489 = .ok (.aload_n 2, 1) := by decide +kernel
theorem dL_law_490 : decode cL_law 490 = .ok (.iload 11, 2) := by decide +kernel
theorem dL_law_492 : decode cL_law 492 = .ok (.iaload, 1) := by decide +kernel
theorem dL_law_493 : decode cL_law 493 = .ok (.iconst 3, 1) := by decide +kernel
theorem dL_law_494 : decode cL_law 494 = .ok (.if_icmp .ne 16, 3) := by decide +kernel
theorem dL_law_497 : decode cL_law 497 = .ok (.aload_n 1, 1) := by decide +kernel
theorem dL_law_498 : decode cL_law 498 = .ok (.iload 11, 2) := by decide +kernel
theorem dL_law_500 : decode cL_law 500 = .ok (.invokevirtual 82, 3) := by decide +kernel
theorem dL_law_503 : decode cL_law 503 = .ok (.ifCond .ne 7, 3) := by decide +kernel
theorem dL_law_506 : decode cL_law 506 = .ok (.iconst 1, 1) := by decide +kernel
theorem dL_law_507 : decode cL_law 507 = .ok (.goto 4, 3) := by decide +kernel
theorem dL_law_510 : decode cL_law 510 = .ok (.iconst 0, 1) := by decide +kernel
theorem dL_law_511 : decode cL_law 511 = .ok (.istore 12, 2) := by decide +kernel
theorem dL_law_513 : decode cL_law 513 = .ok (.aload_n 1, 1) := by decide +kernel
theorem dL_law_514 : decode cL_law 514 = .ok (.iload 11, 2) := by decide +kernel
theorem dL_law_516 : decode cL_law 516 = .ok (.invokevirtual 24, 3) := by decide +kernel
theorem dL_law_519 : decode cL_law 519 = .ok (.iconst 1, 1) := by decide +kernel
theorem dL_law_520 : decode cL_law 520 = .ok (.if_icmp .ne 15, 3) := by decide +kernel
theorem dL_law_523 : decode cL_law 523 = .ok (.iload 12, 2) := by decide +kernel
theorem dL_law_525 : decode cL_law 525 = .ok (.ifCond .ne 10, 3) := by decide +kernel
theorem dL_law_528 : decode cL_law 528 = .ok (.aload_n 1, 1) := by decide +kernel
theorem dL_law_529 : decode cL_law 529 = .ok (.iload 11, 2) := by decide +kernel
theorem dL_law_531 : decode cL_law 531 = .ok (.invokevirtual 85, 3) := by decide +kernel
theorem dL_law_534 : decode cL_law 534 = .ok (.pop, 1) := by decide +kernel
theorem dL_law_535 : decode cL_law 535 = .ok (.iload 6, 2) := by decide +kernel
theorem dL_law_537 : decode cL_law 537 = .ok (.iconst 3, 1) := by decide +kernel
theorem dL_law_538 : decode cL_law 538 = .ok (.irem, 1) := by decide +kernel
theorem dL_law_539 : decode cL_law 539 = .ok (.iconst 2, 1) := by decide +kernel
theorem dL_law_540 : decode cL_law 540 = .ok (.if_icmp .ne 60, 3) := by decide +kernel
theorem dL_law_543 : decode cL_law 543 = .ok (.iconst 0, 1) := by decide +kernel
theorem dL_law_544 : decode cL_law 544 = .ok (.istore 11, 2) := by decide +kernel
theorem dL_law_546 : decode cL_law 546 = .ok (.iload 11, 2) := by decide +kernel
theorem dL_law_548 : decode cL_law 548 = .ok (.aload_n 1, 1) := by decide +kernel
theorem dL_law_549 : decode cL_law 549 = .ok (.invokevirtual 36, 3) := by decide +kernel
theorem dL_law_552 : decode cL_law 552 = .ok (.if_icmp .ge 37, 3) := by decide +kernel
theorem dL_law_555 : decode cL_law 555 = .ok (.aload_n 1, 1) := by decide +kernel
theorem dL_law_556 : decode cL_law 556 = .ok (.aload_n 2, 1) := by decide +kernel
theorem dL_law_557 : decode cL_law 557 = .ok (.aload_n 3, 1) := by decide +kernel
theorem dL_law_558 : decode cL_law 558 = .ok (.aload 4, 2) := by decide +kernel
theorem dL_law_560 : decode cL_law 560 = .ok (.aload 5, 2) := by decide +kernel
theorem dL_law_562 : decode cL_law 562 = .ok (.iload 11, 2) := by decide +kernel
theorem dL_law_564 : decode cL_law 564 = .ok (.invokestatic 88, 3) := by decide +kernel
theorem dL_law_567 : decode cL_law 567 = .ok (.ifCond .ne 5, 3) := by decide +kernel
theorem dL_law_570 : decode cL_law 570 = .ok (.iconst 0, 1) := by decide +kernel
theorem dL_law_571 : decode cL_law 571 = .ok (.ireturn, 1) := by decide +kernel
theorem dL_law_572 : decode cL_law 572 = .ok (.aload 5, 2) := by decide +kernel
theorem dL_law_574 : decode cL_law 574 = .ok (.iload 11, 2) := by decide +kernel
theorem dL_law_576 : decode cL_law 576 = .ok (.aload_n 1, 1) := by decide +kernel
theorem dL_law_577 : decode cL_law 577 = .ok (.iload 11, 2) := by decide +kernel
theorem dL_law_579 : decode cL_law 579 = .ok (.invokevirtual 8, 3) := by decide +kernel
theorem dL_law_582 : decode cL_law 582 = .ok (.iastore, 1) := by decide +kernel
theorem dL_law_583 : decode cL_law 583 = .ok (.iinc 11 1, 3) := by decide +kernel
theorem dL_law_586 : decode cL_law 586 = .ok (.goto (-40), 3) := by decide +kernel
theorem dL_law_589 : decode cL_law 589 = .ok (.aload_n 1, 1) := by decide +kernel
theorem dL_law_590 : decode cL_law 590 = .ok (.aload_n 2, 1) := by decide +kernel
theorem dL_law_591 : decode cL_law 591 = .ok (.aload_n 3, 1) := by decide +kernel
theorem dL_law_592 : decode cL_law 592 = .ok (.invokestatic 92, 3) := by decide +kernel
theorem dL_law_595 : decode cL_law 595 = .ok (.ifCond .ne 5, 3) := by decide +kernel
theorem dL_law_598 : decode cL_law 598 = .ok (.iconst 0, 1) := by decide +kernel
theorem dL_law_599 : decode cL_law 599 = .ok (.ireturn, 1) := by decide +kernel
theorem dL_law_600 : decode cL_law 600 = .ok (.iinc 6 1, 3) := by decide +kernel
theorem dL_law_603 : decode cL_law 603 = .ok (.goto (-570), 3) := by decide +kernel
theorem dL_law_606 : decode cL_law 606 = .ok (.iconst 1, 1) := by decide +kernel
theorem dL_law_607 : decode cL_law 607 = .ok (.ireturn, 1) := by decide +kernel
