/-! the law's body -/
theorem dL_law_0 : decode cL_law 0 = .ok (.iconst 0, 1) := by decide +kernel
theorem dL_law_1 : decode cL_law 1 = .ok (.istore_n 1, 1) := by decide +kernel
theorem dL_law_2 : decode cL_law 2 = .ok (.iload_n 1, 1) := by decide +kernel
theorem dL_law_3 : decode cL_law 3 = .ok (.iconst 2, 1) := by decide +kernel
theorem dL_law_4 : decode cL_law 4 = .ok (.if_icmp .ge 812, 3) := by decide +kernel
theorem dL_law_7 : decode cL_law 7 = .ok (.new 9, 3) := by decide +kernel
theorem dL_law_10 : decode cL_law 10 = .ok (.dup, 1) := by decide +kernel
theorem dL_law_11 : decode cL_law 11 = .ok (.aload_n 0, 1) := by decide +kernel
theorem dL_law_12 : decode cL_law 12 = .ok (.bipush 29, 2) := by decide +kernel
theorem dL_law_14 : decode cL_law 14 = .ok (.iload_n 1, 1) := by decide +kernel
theorem dL_law_15 : decode cL_law 15 = .ok (.imul, 1) := by decide +kernel
theorem dL_law_16 : decode cL_law 16 = .ok (.bipush 7, 2) := by decide +kernel
theorem dL_law_18 : decode cL_law 18 = .ok (.iadd, 1) := by decide +kernel
theorem dL_law_19 : decode cL_law 19 = .ok (.invokespecial 11, 3) := by decide +kernel
theorem dL_law_22 : decode cL_law 22 = .ok (.astore_n 2, 1) := by decide +kernel
theorem dL_law_23 : decode cL_law 23 = .ok (.aload_n 2, 1) := by decide +kernel
theorem dL_law_24 : decode cL_law 24 = .ok (.getfield 14, 3) := by decide +kernel
theorem dL_law_27 : decode cL_law 27 = .ok (.astore_n 3, 1) := by decide +kernel
theorem dL_law_28 : decode cL_law 28 = .ok (.aload_n 2, 1) := by decide +kernel
theorem dL_law_29 : decode cL_law 29 = .ok (.iconst 3, 1) := by decide +kernel
theorem dL_law_30 : decode cL_law 30 = .ok (.aload_n 2, 1) := by decide +kernel
theorem dL_law_31 : decode cL_law 31 = .ok (.bipush 8, 2) := by decide +kernel
theorem dL_law_33 : decode cL_law 33 = .ok (.invokevirtual 18, 3) := by decide +kernel
theorem dL_law_36 : decode cL_law 36 = .ok (.iadd, 1) := by decide +kernel
theorem dL_law_37 : decode cL_law 37 = .ok (.iconst 1, 1) := by decide +kernel
theorem dL_law_38 : decode cL_law 38 = .ok (.aload_n 2, 1) := by decide +kernel
theorem dL_law_39 : decode cL_law 39 = .ok (.bipush 7, 2) := by decide +kernel
theorem dL_law_41 : decode cL_law 41 = .ok (.invokevirtual 18, 3) := by decide +kernel
theorem dL_law_44 : decode cL_law 44 = .ok (.iadd, 1) := by decide +kernel
theorem dL_law_45 : decode cL_law 45 = .ok (.invokevirtual 22, 3) := by decide +kernel
theorem dL_law_48 : decode cL_law 48 = .ok (.ifCond .ne 5, 3) := by decide +kernel
theorem dL_law_51 : decode cL_law 51 = .ok (.iconst 0, 1) := by decide +kernel
theorem dL_law_52 : decode cL_law 52 = .ok (.ireturn, 1) := by decide +kernel
theorem dL_law_53 : decode cL_law 53 = .ok (.iconst 0, 1) := by decide +kernel
theorem dL_law_54 : decode cL_law 54 = .ok (.istore 4, 2) := by decide +kernel
theorem dL_law_56 : decode cL_law 56 = .ok (.iload 4, 2) := by decide +kernel
theorem dL_law_58 : decode cL_law 58 = .ok (.iconst 4, 1) := by decide +kernel
theorem dL_law_59 : decode cL_law 59 = .ok (.if_icmp .ge 751, 3) := by decide +kernel
theorem dL_law_62 : decode cL_law 62 = .ok (.aload_n 2, 1) := by decide +kernel
theorem dL_law_63 : decode cL_law 63 = .ok (.iconst 3, 1) := by decide +kernel
theorem dL_law_64 : decode cL_law 64 = .ok (.invokevirtual 18, 3) := by decide +kernel
theorem dL_law_67 : decode cL_law 67 = .ok (.istore 5, 2) := by decide +kernel
theorem dL_law_69 : decode cL_law 69 = .ok (.iload 5, 2) := by decide +kernel
theorem dL_law_71 : decode cL_law 71 = .ok (.ifCond .lt 18, 3) := by decide +kernel
theorem dL_law_74 : decode cL_law 74 = .ok (.aload_n 2, 1) := by decide +kernel
theorem dL_law_75 : decode cL_law 75 = .ok (.invokevirtual 26, 3) := by decide +kernel
theorem dL_law_78 : decode cL_law 78 = .ok (.ifCond .ne 5, 3) := by decide +kernel
theorem dL_law_81 : decode cL_law 81 = .ok (.iconst 0, 1) := by decide +kernel
theorem dL_law_82 : decode cL_law 82 = .ok (.ireturn, 1) := by decide +kernel
theorem dL_law_83 : decode cL_law 83 = .ok (.iinc 5 (-1), 3) := by decide +kernel
theorem dL_law_86 : decode cL_law 86 = .ok (.goto (-17), 3) := by decide +kernel
theorem dL_law_89 : decode cL_law 89 = .ok (.aload_n 3, 1) := by decide +kernel
theorem dL_law_90 : decode cL_law 90 = .ok (.invokevirtual 30, 3) := by decide +kernel
theorem dL_law_93 : decode cL_law 93 = .ok (.bipush 15, 2) := by decide +kernel
theorem dL_law_95 : decode cL_law 95 = .ok (.if_icmp .gt 17, 3) := by decide +kernel
theorem dL_law_98 : decode cL_law 98 = .ok (.aload_n 3, 1) := by decide +kernel
theorem dL_law_99 : decode cL_law 99 = .ok (.invokevirtual 36, 3) := by decide +kernel
theorem dL_law_102 : decode cL_law 102 = .ok (.ifCond .ne 10, 3) := by decide +kernel
theorem dL_law_105 : decode cL_law 105 = .ok (.aload_n 3, 1) := by decide +kernel
theorem dL_law_106 : decode cL_law 106 = .ok (.invokevirtual 30, 3) := by decide +kernel
theorem dL_law_109 : decode cL_law 109 = .ok (.ifCond .eq 5, 3) := by decide +kernel
theorem dL_law_112 : decode cL_law 112 = .ok (.iconst 0, 1) := by decide +kernel
theorem dL_law_113 : decode cL_law 113 = .ok (.ireturn, 1) := by decide +kernel
theorem dL_law_114 : decode cL_law 114 = .ok (.aload_n 3, 1) := by decide +kernel
theorem dL_law_115 : decode cL_law 115 = .ok (.invokevirtual 39, 3) := by decide +kernel
theorem dL_law_118 : decode cL_law 118 = .ok (.lstore 5, 2) := by decide +kernel
theorem dL_law_120 : decode cL_law 120 = .ok (.iconst 0, 1) := by decide +kernel
theorem dL_law_121 : decode cL_law 121 = .ok (.istore 7, 2) := by decide +kernel
theorem dL_law_123 : decode cL_law 123 = .ok (.iconst 0, 1) := by decide +kernel
theorem dL_law_124 : decode cL_law 124 = .ok (.istore 8, 2) := by decide +kernel
theorem dL_law_126 : decode cL_law 126 = .ok (.iload 8, 2) := by decide +kernel
theorem dL_law_128 : decode cL_law 128 = .ok (.aload_n 2, 1) := by decide +kernel
theorem dL_law_129 : decode cL_law 129 = .ok (.getfield 43, 3) := by decide +kernel
theorem dL_law_132 : decode cL_law 132 = .ok (.if_icmp .ge 282, 3) := by decide +kernel
theorem dL_law_135 : decode cL_law 135 = .ok (.aload_n 3, 1) := by decide +kernel
theorem dL_law_136 : decode cL_law 136 = .ok (.iload 8, 2) := by decide +kernel
theorem dL_law_138 : decode cL_law 138 = .ok (.invokevirtual 47, 3) := by decide +kernel
theorem dL_law_141 : decode cL_law 141 = .ok (.istore 9, 2) := by decide +kernel
theorem dL_law_143 : decode cL_law 143 = .ok (.aload_n 3, 1) := by decide +kernel
theorem dL_law_144 : decode cL_law 144 = .ok (.iload 8, 2) := by decide +kernel
theorem dL_law_146 : decode cL_law 146 = .ok (.invokevirtual 50, 3) := by decide +kernel
theorem dL_law_149 : decode cL_law 149 = .ok (.istore 10, 2) := by decide +kernel
theorem dL_law_151 : decode cL_law 151 = .ok (.iload 9, 2) := by decide +kernel
theorem dL_law_153 : decode cL_law 153 = .ok (.ifCond .eq 15, 3) := by decide +kernel
theorem dL_law_156 : decode cL_law 156 = .ok (.iload 9, 2) := by decide +kernel
theorem dL_law_158 : decode cL_law 158 = .ok (.iconst 3, 1) := by decide +kernel
theorem dL_law_159 : decode cL_law 159 = .ok (.if_icmp .eq 9, 3) := by decide +kernel
theorem dL_law_162 : decode cL_law 162 = .ok (.iload 9, 2) := by decide +kernel
theorem dL_law_164 : decode cL_law 164 = .ok (.iconst 4, 1) := by decide +kernel
theorem dL_law_165 : decode cL_law 165 = .ok (.if_icmp .ne 60, 3) := by decide +kernel
theorem dL_law_168 : decode cL_law 168 = .ok (.iload 10, 2) := by decide +kernel
theorem dL_law_170 : decode cL_law 170 = .ok (.iconst 0, 1) := by decide +kernel
theorem dL_law_171 : decode cL_law 171 = .ok (.iload 9, 2) := by decide +kernel
theorem dL_law_173 : decode cL_law 173 = .ok (.iconst 2, 1) := by decide +kernel
theorem dL_law_174 : decode cL_law 174 = .ok (.isub, 1) := by decide +kernel
theorem dL_law_175 : decode cL_law 175 = .ok (.invokestatic 53, 3) := by decide +kernel
theorem dL_law_178 : decode cL_law 178 = .ok (.if_icmp .gt 47, 3) := by decide +kernel
theorem dL_law_181 : decode cL_law 181 = .ok (.iload 10, 2) := by decide +kernel
theorem dL_law_183 : decode cL_law 183 = .ok (.ifCond .ne 12, 3) := by decide +kernel
theorem dL_law_186 : decode cL_law 186 = .ok (.aload_n 3, 1) := by decide +kernel
theorem dL_law_187 : decode cL_law 187 = .ok (.iload 8, 2) := by decide +kernel
theorem dL_law_189 : decode cL_law 189 = .ok (.invokevirtual 59, 3) := by decide +kernel
theorem dL_law_192 : decode cL_law 192 = .ok (.ifCond .ne 33, 3) := by decide +kernel
theorem dL_law_195 : decode cL_law 195 = .ok (.aload_n 2, 1) := by decide +kernel
theorem dL_law_196 : decode cL_law 196 = .ok (.getfield 62, 3) := by decide +kernel
theorem dL_law_199 : decode cL_law 199 = .ok (.iload 8, 2) := by decide +kernel
theorem dL_law_201 : decode cL_law 201 = .ok (.aaload, 1) := by decide +kernel
theorem dL_law_202 : decode cL_law 202 = .ok (.iconst 2, 1) := by decide +kernel
theorem dL_law_203 : decode cL_law 203 = .ok (.baload, 1) := by decide +kernel
theorem dL_law_204 : decode cL_law 204 = .ok (.ifCond .ne 23, 3) := by decide +kernel
theorem dL_law_207 : decode cL_law 207 = .ok (.aload_n 3, 1) := by decide +kernel
theorem dL_law_208 : decode cL_law 208 = .ok (.iload 8, 2) := by decide +kernel
theorem dL_law_210 : decode cL_law 210 = .ok (.invokevirtual 66, 3) := by decide +kernel
theorem dL_law_213 : decode cL_law 213 = .ok (.ifCond .ne 12, 3) := by decide +kernel
theorem dL_law_216 : decode cL_law 216 = .ok (.aload_n 3, 1) := by decide +kernel
theorem dL_law_217 : decode cL_law 217 = .ok (.iload 8, 2) := by decide +kernel
theorem dL_law_219 : decode cL_law 219 = .ok (.invokevirtual 69, 3) := by decide +kernel
theorem dL_law_222 : decode cL_law 222 = .ok (.ifCond .eq 5, 3) := by decide +kernel
theorem dL_law_225 : decode cL_law 225 = .ok (.iconst 0, 1) := by decide +kernel
theorem dL_law_226 : decode cL_law 226 = .ok (.ireturn, 1) := by decide +kernel
theorem dL_law_227 : decode cL_law 227 = .ok (.iconst 0, 1) := by decide +kernel
theorem dL_law_228 : decode cL_law 228 = .ok (.istore 11, 2) := by decide +kernel
theorem dL_law_230 : decode cL_law 230 = .ok (.iconst 0, 1) := by decide +kernel
theorem dL_law_231 : decode cL_law 231 = .ok (.istore 12, 2) := by decide +kernel
theorem dL_law_233 : decode cL_law 233 = .ok (.iload 12, 2) := by decide +kernel
theorem dL_law_235 : decode cL_law 235 = .ok (.sipush 960, 3) := by decide +kernel
theorem dL_law_238 : decode cL_law 238 = .ok (.if_icmp .ge 134, 3) := by decide +kernel
theorem dL_law_241 : decode cL_law 241 = .ok (.aload_n 3, 1) := by decide +kernel
theorem dL_law_242 : decode cL_law 242 = .ok (.iload 8, 2) := by decide +kernel
theorem dL_law_244 : decode cL_law 244 = .ok (.iload 12, 2) := by decide +kernel
theorem dL_law_246 : decode cL_law 246 = .ok (.bipush 40, 2) := by decide +kernel
theorem dL_law_248 : decode cL_law 248 = .ok (.irem, 1) := by decide +kernel
theorem dL_law_249 : decode cL_law 249 = .ok (.iload 12, 2) := by decide +kernel
theorem dL_law_251 : decode cL_law 251 = .ok (.bipush 40, 2) := by decide +kernel
theorem dL_law_253 : decode cL_law 253 = .ok (.idiv, 1) := by decide +kernel
theorem dL_law_254 : decode cL_law 254 = .ok (.invokevirtual 72, 3) := by decide +kernel
theorem dL_law_257 : decode cL_law 257 = .ok (.istore 13, 2) := by decide +kernel
theorem dL_law_259 : decode cL_law 259 = .ok (.iload 11, 2) := by decide +kernel
theorem dL_law_261 : decode cL_law 261 = .ok (.iload 13, 2) := by decide +kernel
theorem dL_law_263 : decode cL_law 263 = .ok (.ifCond .eq 7, 3) := by decide +kernel
theorem dL_law_266 : decode cL_law 266 = .ok (.iconst 1, 1) := by decide +kernel
theorem dL_law_267 : decode cL_law 267 = .ok (.goto 4, 3) := by decide +kernel
theorem dL_law_270 : decode cL_law 270 = .ok (.iconst 0, 1) := by decide +kernel
theorem dL_law_271 : decode cL_law 271 = .ok (.iadd, 1) := by decide +kernel
theorem dL_law_272 : decode cL_law 272 = .ok (.istore 11, 2) := by decide +kernel
theorem dL_law_274 : decode cL_law 274 = .ok (.aload_n 3, 1) := by decide +kernel
theorem dL_law_275 : decode cL_law 275 = .ok (.iload 8, 2) := by decide +kernel
theorem dL_law_277 : decode cL_law 277 = .ok (.iload 12, 2) := by decide +kernel
theorem dL_law_279 : decode cL_law 279 = .ok (.bipush 40, 2) := by decide +kernel
theorem dL_law_281 : decode cL_law 281 = .ok (.irem, 1) := by decide +kernel
theorem dL_law_282 : decode cL_law 282 = .ok (.iload 12, 2) := by decide +kernel
theorem dL_law_284 : decode cL_law 284 = .ok (.bipush 40, 2) := by decide +kernel
theorem dL_law_286 : decode cL_law 286 = .ok (.idiv, 1) := by decide +kernel
theorem dL_law_287 : decode cL_law 287 = .ok (.invokevirtual 76, 3) := by decide +kernel
theorem dL_law_290 : decode cL_law 290 = .ok (.istore 14, 2) := by decide +kernel
theorem dL_law_292 : decode cL_law 292 = .ok (.aload_n 3, 1) := by decide +kernel
theorem dL_law_293 : decode cL_law 293 = .ok (.iload 8, 2) := by decide +kernel
theorem dL_law_295 : decode cL_law 295 = .ok (.iload 12, 2) := by decide +kernel
theorem dL_law_297 : decode cL_law 297 = .ok (.bipush 40, 2) := by decide +kernel
theorem dL_law_299 : decode cL_law 299 = .ok (.irem, 1) := by decide +kernel
theorem dL_law_300 : decode cL_law 300 = .ok (.iload 12, 2) := by decide +kernel
theorem dL_law_302 : decode cL_law 302 = .ok (.bipush 40, 2) := by decide +kernel
theorem dL_law_304 : decode cL_law 304 = .ok (.idiv, 1) := by decide +kernel
theorem dL_law_305 : decode cL_law 305 = .ok (.invokevirtual 80, 3) := by decide +kernel
theorem dL_law_308 : decode cL_law 308 = .ok (.istore 15, 2) := by decide +kernel
theorem dL_law_310 : decode cL_law 310 = .ok (.iload 13, 2) := by decide +kernel
theorem dL_law_312 : decode cL_law 312 = .ok (.ifCond .eq 30, 3) := by decide +kernel
theorem dL_law_315 : decode cL_law 315 = .ok (.iload 14, 2) := by decide +kernel
theorem dL_law_317 : decode cL_law 317 = .ok (.ifCond .lt 37, 3) := by decide +kernel
theorem dL_law_320 : decode cL_law 320 = .ok (.iload 14, 2) := by decide +kernel
theorem dL_law_322 : decode cL_law 322 = .ok (.ldc 83, 2) := by decide +kernel
theorem dL_law_324 : decode cL_law 324 = .ok (.if_icmp .gt 30, 3) := by decide +kernel
theorem dL_law_327 : decode cL_law 327 = .ok (.iload 15, 2) := by decide +kernel
theorem dL_law_329 : decode cL_law 329 = .ok (.ifCond .lt 25, 3) := by decide +kernel
theorem dL_law_332 : decode cL_law 332 = .ok (.iload 15, 2) := by decide +kernel
theorem dL_law_334 : decode cL_law 334 = .ok (.ldc 84, 2) := by decide +kernel
theorem dL_law_336 : decode cL_law 336 = .ok (.if_icmp .le 20, 3) := by decide +kernel
theorem dL_law_339 : decode cL_law 339 = .ok (.goto 15, 3) := by decide +kernel
theorem dL_law_342 : decode cL_law 342 = .ok (.iload 14, 2) := by decide +kernel
theorem dL_law_344 : decode cL_law 344 = .ok (.iconst (-1), 1) := by decide +kernel
theorem dL_law_345 : decode cL_law 345 = .ok (.if_icmp .ne 9, 3) := by decide +kernel
theorem dL_law_348 : decode cL_law 348 = .ok (.iload 15, 2) := by decide +kernel
theorem dL_law_350 : decode cL_law 350 = .ok (.iconst (-1), 1) := by decide +kernel
theorem dL_law_351 : decode cL_law 351 = .ok (.if_icmp .eq 5, 3) := by decide +kernel
theorem dL_law_354 : decode cL_law 354 = .ok (.iconst 0, 1) := by decide +kernel
theorem dL_law_355 : decode cL_law 355 = .ok (.ireturn, 1) := by decide +kernel
theorem dL_law_356 : decode cL_law 356 = .ok (.iload 12, 2) := by decide +kernel
theorem dL_law_358 : decode cL_law 358 = .ok (.iconst 1, 1) := by decide +kernel
theorem dL_law_359 : decode cL_law 359 = .ok (.aload_n 2, 1) := by decide +kernel
theorem dL_law_360 : decode cL_law 360 = .ok (.bipush 7, 2) := by decide +kernel
theorem dL_law_362 : decode cL_law 362 = .ok (.invokevirtual 18, 3) := by decide +kernel
theorem dL_law_365 : decode cL_law 365 = .ok (.iadd, 1) := by decide +kernel
theorem dL_law_366 : decode cL_law 366 = .ok (.iadd, 1) := by decide +kernel
theorem dL_law_367 : decode cL_law 367 = .ok (.istore 12, 2) := by decide +kernel
theorem dL_law_369 : decode cL_law 369 = .ok (.goto (-136), 3) := by decide +kernel
theorem dL_law_372 : decode cL_law 372 = .ok (.iload 11, 2) := by decide +kernel
theorem dL_law_374 : decode cL_law 374 = .ok (.aload_n 3, 1) := by decide +kernel
theorem dL_law_375 : decode cL_law 375 = .ok (.iload 8, 2) := by decide +kernel
theorem dL_law_377 : decode cL_law 377 = .ok (.invokevirtual 59, 3) := by decide +kernel
theorem dL_law_380 : decode cL_law 380 = .ok (.if_icmp .gt 15, 3) := by decide +kernel
theorem dL_law_383 : decode cL_law 383 = .ok (.aload_n 3, 1) := by decide +kernel
theorem dL_law_384 : decode cL_law 384 = .ok (.iload 8, 2) := by decide +kernel
theorem dL_law_386 : decode cL_law 386 = .ok (.invokevirtual 59, 3) := by decide +kernel
theorem dL_law_389 : decode cL_law 389 = .ok (.sipush 960, 3) := by decide +kernel
theorem dL_law_392 : decode cL_law 392 = .ok (.if_icmp .le 5, 3) := by decide +kernel
theorem dL_law_395 : decode cL_law 395 = .ok (.iconst 0, 1) := by decide +kernel
theorem dL_law_396 : decode cL_law 396 = .ok (.ireturn, 1) := by decide +kernel
theorem dL_law_397 : decode cL_law 397 = .ok (.iload 7, 2) := by decide +kernel
theorem dL_law_399 : decode cL_law 399 = .ok (.aload_n 3, 1) := by decide +kernel
theorem dL_law_400 : decode cL_law 400 = .ok (.iload 8, 2) := by decide +kernel
theorem dL_law_402 : decode cL_law 402 = .ok (.invokevirtual 69, 3) := by decide +kernel
theorem dL_law_405 : decode cL_law 405 = .ok (.iadd, 1) := by decide +kernel
theorem dL_law_406 : decode cL_law 406 = .ok (.istore 7, 2) := by decide +kernel
theorem dL_law_408 : decode cL_law 408 = .ok (.iinc 8 1, 3) := by decide +kernel
theorem dL_law_411 : decode cL_law 411 = .ok (.goto (-285), 3) := by decide +kernel
theorem dL_law_414 : decode cL_law 414 = .ok (.iconst 0, 1) := by decide +kernel
theorem dL_law_415 : decode cL_law 415 = .ok (.istore 8, 2) := by decide +kernel
theorem dL_law_417 : decode cL_law 417 = .ok (.iconst 0, 1) := by decide +kernel
theorem dL_law_418 : decode cL_law 418 = .ok (.istore 9, 2) := by decide +kernel
theorem dL_law_420 : decode cL_law 420 = .ok (.iload 9, 2) := by decide +kernel
theorem dL_law_422 : decode cL_law 422 = .ok (.sipush 960, 3) := by decide +kernel
theorem dL_law_425 : decode cL_law 425 = .ok (.if_icmp .ge 112, 3) := by decide +kernel
theorem dL_law_428 : decode cL_law 428 = .ok (.aload_n 3, 1) := by decide +kernel
theorem dL_law_429 : decode cL_law 429 = .ok (.iload 9, 2) := by decide +kernel
theorem dL_law_431 : decode cL_law 431 = .ok (.bipush 40, 2) := by decide +kernel
theorem dL_law_433 : decode cL_law 433 = .ok (.irem, 1) := by decide +kernel
theorem dL_law_434 : decode cL_law 434 = .ok (.iload 9, 2) := by decide +kernel
theorem dL_law_436 : decode cL_law 436 = .ok (.bipush 40, 2) := by decide +kernel
theorem dL_law_438 : decode cL_law 438 = .ok (.idiv, 1) := by decide +kernel
theorem dL_law_439 : decode cL_law 439 = .ok (.invokevirtual 85, 3) := by decide +kernel
theorem dL_law_442 : decode cL_law 442 = .ok (.istore 10, 2) := by decide +kernel
theorem dL_law_444 : decode cL_law 444 = .ok (.iload 8, 2) := by decide +kernel
theorem dL_law_446 : decode cL_law 446 = .ok (.iload 10, 2) := by decide +kernel
theorem dL_law_448 : decode cL_law 448 = .ok (.ifCond .ge 7, 3) := by decide +kernel
theorem dL_law_451 : decode cL_law 451 = .ok (.iconst 1, 1) := by decide +kernel
theorem dL_law_452 : decode cL_law 452 = .ok (.goto 4, 3) := by decide +kernel
theorem dL_law_455 : decode cL_law 455 = .ok (.iconst 0, 1) := by decide +kernel
theorem dL_law_456 : decode cL_law 456 = .ok (.iadd, 1) := by decide +kernel
theorem dL_law_457 : decode cL_law 457 = .ok (.istore 8, 2) := by decide +kernel
theorem dL_law_459 : decode cL_law 459 = .ok (.iload 10, 2) := by decide +kernel
theorem dL_law_461 : decode cL_law 461 = .ok (.ifCond .ge 25, 3) := by decide +kernel
theorem dL_law_464 : decode cL_law 464 = .ok (.aload_n 3, 1) := by decide +kernel
theorem dL_law_465 : decode cL_law 465 = .ok (.iload 9, 2) := by decide +kernel
theorem dL_law_467 : decode cL_law 467 = .ok (.bipush 40, 2) := by decide +kernel
theorem dL_law_469 : decode cL_law 469 = .ok (.irem, 1) := by decide +kernel
theorem dL_law_470 : decode cL_law 470 = .ok (.iload 9, 2) := by decide +kernel
theorem dL_law_472 : decode cL_law 472 = .ok (.bipush 40, 2) := by decide +kernel
theorem dL_law_474 : decode cL_law 474 = .ok (.idiv, 1) := by decide +kernel
theorem dL_law_475 : decode cL_law 475 = .ok (.invokevirtual 88, 3) := by decide +kernel
theorem dL_law_478 : decode cL_law 478 = .ok (.ldc 91, 2) := by decide +kernel
theorem dL_law_480 : decode cL_law 480 = .ok (.if_icmp .eq 51, 3) := by decide +kernel
theorem dL_law_483 : decode cL_law 483 = .ok (.goto 46, 3) := by decide +kernel
theorem dL_law_486 : decode cL_law 486 = .ok (.aload_n 2, 1) := by decide +kernel
theorem dL_law_487 : decode cL_law 487 = .ok (.getfield 62, 3) := by decide +kernel
theorem dL_law_490 : decode cL_law 490 = .ok (.iload 10, 2) := by decide +kernel
theorem dL_law_492 : decode cL_law 492 = .ok (.aaload, 1) := by decide +kernel
theorem dL_law_493 : decode cL_law 493 = .ok (.iconst 2, 1) := by decide +kernel
theorem dL_law_494 : decode cL_law 494 = .ok (.baload, 1) := by decide +kernel
theorem dL_law_495 : decode cL_law 495 = .ok (.ifCond .eq 34, 3) := by decide +kernel
theorem dL_law_498 : decode cL_law 498 = .ok (.aload_n 2, 1) := by decide +kernel
theorem dL_law_499 : decode cL_law 499 = .ok (.getfield 62, 3) := by decide +kernel
theorem dL_law_502 : decode cL_law 502 = .ok (.iload 10, 2) := by decide +kernel
theorem dL_law_504 : decode cL_law 504 = .ok (.aaload, 1) := by decide +kernel
theorem dL_law_505 : decode cL_law 505 = .ok (.iconst 0, 1) := by decide +kernel
theorem dL_law_506 : decode cL_law 506 = .ok (.baload, 1) := by decide +kernel
theorem dL_law_507 : decode cL_law 507 = .ok (.ifCond .ne 22, 3) := by decide +kernel
theorem dL_law_510 : decode cL_law 510 = .ok (.aload_n 3, 1) := by decide +kernel
theorem dL_law_511 : decode cL_law 511 = .ok (.iload 10, 2) := by decide +kernel
theorem dL_law_513 : decode cL_law 513 = .ok (.iload 9, 2) := by decide +kernel
theorem dL_law_515 : decode cL_law 515 = .ok (.bipush 40, 2) := by decide +kernel
theorem dL_law_517 : decode cL_law 517 = .ok (.irem, 1) := by decide +kernel
theorem dL_law_518 : decode cL_law 518 = .ok (.iload 9, 2) := by decide +kernel
theorem dL_law_520 : decode cL_law 520 = .ok (.bipush 40, 2) := by decide +kernel
theorem dL_law_522 : decode cL_law 522 = .ok (.idiv, 1) := by decide +kernel
theorem dL_law_523 : decode cL_law 523 = .ok (.invokevirtual 72, 3) := by decide +kernel
theorem dL_law_526 : decode cL_law 526 = .ok (.ifCond .ne 5, 3) := by decide +kernel
theorem dL_law_529 : decode cL_law 529 = .ok (.iconst 0, 1) := by decide +kernel
theorem dL_law_530 : decode cL_law 530 = .ok (.ireturn, 1) := by decide +kernel
theorem dL_law_531 : decode cL_law 531 = .ok (.iinc 9 1, 3) := by decide +kernel
theorem dL_law_534 : decode cL_law 534 = .ok (.goto (-114), 3) := by decide +kernel
theorem dL_law_537 : decode cL_law 537 = .ok (.iload 8, 2) := by decide +kernel
theorem dL_law_539 : decode cL_law 539 = .ok (.iload 7, 2) := by decide +kernel
theorem dL_law_541 : decode cL_law 541 = .ok (.iadd, 1) := by decide +kernel
theorem dL_law_542 : decode cL_law 542 = .ok (.sipush 960, 3) := by decide +kernel
theorem dL_law_545 : decode cL_law 545 = .ok (.if_icmp .ne 41, 3) := by decide +kernel
theorem dL_law_548 : decode cL_law 548 = .ok (.aload_n 3, 1) := by decide +kernel
theorem dL_law_549 : decode cL_law 549 = .ok (.invokevirtual 92, 3) := by decide +kernel
theorem dL_law_552 : decode cL_law 552 = .ok (.ifCond .ge 7, 3) := by decide +kernel
theorem dL_law_555 : decode cL_law 555 = .ok (.iconst 1, 1) := by decide +kernel
theorem dL_law_556 : decode cL_law 556 = .ok (.goto 4, 3) := by decide +kernel
theorem dL_law_559 : decode cL_law 559 = .ok (.iconst 0, 1) := by decide +kernel
theorem dL_law_560 : decode cL_law 560 = .ok (.iload 8, 2) := by decide +kernel
theorem dL_law_562 : decode cL_law 562 = .ok (.sipush 960, 3) := by decide +kernel
theorem dL_law_565 : decode cL_law 565 = .ok (.if_icmp .ne 7, 3) := by decide +kernel
theorem dL_law_568 : decode cL_law 568 = .ok (.iconst 1, 1) := by decide +kernel
theorem dL_law_569 : decode cL_law 569 = .ok (.goto 4, 3) := by decide +kernel
theorem dL_law_572 : decode cL_law 572 = .ok (.iconst 0, 1) := by decide +kernel
theorem dL_law_573 : decode cL_law 573 = .ok (.if_icmp .ne 13, 3) := by decide +kernel
theorem dL_law_576 : decode cL_law 576 = .ok (.aload_n 3, 1) := by decide +kernel
theorem dL_law_577 : decode cL_law 577 = .ok (.invokevirtual 39, 3) := by decide +kernel
theorem dL_law_580 : decode cL_law 580 = .ok (.lload 5, 2) := by decide +kernel
theorem dL_law_582 : decode cL_law 582 = .ok (.lcmp, 1) := by decide +kernel
theorem dL_law_583 : decode cL_law 583 = .ok (.ifCond .eq 5, 3) := by decide +kernel
theorem dL_law_586 : decode cL_law 586 = .ok (.iconst 0, 1) := by decide +kernel
theorem dL_law_587 : decode cL_law 587 = .ok (.ireturn, 1) := by decide +kernel
theorem dL_law_588 : decode cL_law 588 = .ok (.aload_n 2, 1) := by decide +kernel
theorem dL_law_589 : decode cL_law 589 = .ok (.aload_n 2, 1) := by decide +kernel
theorem dL_law_590 : decode cL_law 590 = .ok (.getfield 95, 3) := by decide +kernel
theorem dL_law_593 : decode cL_law 593 = .ok (.invokevirtual 18, 3) := by decide +kernel
theorem dL_law_596 : decode cL_law 596 = .ok (.istore 9, 2) := by decide +kernel
theorem dL_law_598 : decode cL_law 598 = .ok (.aload_n 2, 1) := by decide +kernel
theorem dL_law_599 : decode cL_law 599 = .ok (.getfield 98, 3) := by decide +kernel
theorem dL_law_602 : decode cL_law 602 = .ok (.iload 9, 2) := by decide +kernel
theorem dL_law_604 : decode cL_law 604 = .ok (.aaload, 1) := by decide +kernel
theorem dL_law_605 : decode cL_law 605 = .ok (.astore 10, 2) := by decide +kernel
theorem dL_law_607 : decode cL_law 607 = .ok (.aload_n 3, 1) := by decide +kernel
theorem dL_law_608 : decode cL_law 608 = .ok (.iload 9, 2) := by decide +kernel
theorem dL_law_610 : decode cL_law 610 = .ok (.aload_n 2, 1) := by decide +kernel
theorem dL_law_611 : decode cL_law 611 = .ok (.sipush 900, 3) := by decide +kernel
theorem dL_law_614 : decode cL_law 614 = .ok (.invokevirtual 18, 3) := by decide +kernel
theorem dL_law_617 : decode cL_law 617 = .ok (.sipush 450, 3) := by decide +kernel
theorem dL_law_620 : decode cL_law 620 = .ok (.isub, 1) := by decide +kernel
theorem dL_law_621 : decode cL_law 621 = .ok (.aload_n 2, 1) := by decide +kernel
theorem dL_law_622 : decode cL_law 622 = .ok (.sipush 700, 3) := by decide +kernel
theorem dL_law_625 : decode cL_law 625 = .ok (.invokevirtual 18, 3) := by decide +kernel
theorem dL_law_628 : decode cL_law 628 = .ok (.sipush 350, 3) := by decide +kernel
theorem dL_law_631 : decode cL_law 631 = .ok (.isub, 1) := by decide +kernel
theorem dL_law_632 : decode cL_law 632 = .ok (.aload_n 2, 1) := by decide +kernel
theorem dL_law_633 : decode cL_law 633 = .ok (.sipush 900, 3) := by decide +kernel
theorem dL_law_636 : decode cL_law 636 = .ok (.invokevirtual 18, 3) := by decide +kernel
theorem dL_law_639 : decode cL_law 639 = .ok (.sipush 300, 3) := by decide +kernel
theorem dL_law_642 : decode cL_law 642 = .ok (.isub, 1) := by decide +kernel
theorem dL_law_643 : decode cL_law 643 = .ok (.invokevirtual 102, 3) := by decide +kernel
theorem dL_law_646 : decode cL_law 646 = .ok (.ifCond .lt 41, 3) := by decide +kernel
theorem dL_law_649 : decode cL_law 649 = .ok (.aload_n 3, 1) := by decide +kernel
theorem dL_law_650 : decode cL_law 650 = .ok (.iload 9, 2) := by decide +kernel
theorem dL_law_652 : decode cL_law 652 = .ok (.aload 10, 2) := by decide +kernel
theorem dL_law_654 : decode cL_law 654 = .ok (.iconst 0, 1) := by decide +kernel
theorem dL_law_655 : decode cL_law 655 = .ok (.iaload, 1) := by decide +kernel
theorem dL_law_656 : decode cL_law 656 = .ok (.aload 10, 2) := by decide +kernel
theorem dL_law_658 : decode cL_law 658 = .ok (.iconst 1, 1) := by decide +kernel
theorem dL_law_659 : decode cL_law 659 = .ok (.iaload, 1) := by decide +kernel
theorem dL_law_660 : decode cL_law 660 = .ok (.aload 10, 2) := by decide +kernel
theorem dL_law_662 : decode cL_law 662 = .ok (.iconst 2, 1) := by decide +kernel
theorem dL_law_663 : decode cL_law 663 = .ok (.iaload, 1) := by decide +kernel
theorem dL_law_664 : decode cL_law 664 = .ok (.invokevirtual 102, 3) := by decide +kernel
theorem dL_law_667 : decode cL_law 667 = .ok (.ifCond .lt 20, 3) := by decide +kernel
theorem dL_law_670 : decode cL_law 670 = .ok (.aload_n 3, 1) := by decide +kernel
theorem dL_law_671 : decode cL_law 671 = .ok (.invokevirtual 36, 3) := by decide +kernel
theorem dL_law_674 : decode cL_law 674 = .ok (.ifCond .ne 13, 3) := by decide +kernel
theorem dL_law_677 : decode cL_law 677 = .ok (.aload_n 3, 1) := by decide +kernel
theorem dL_law_678 : decode cL_law 678 = .ok (.invokevirtual 39, 3) := by decide +kernel
theorem dL_law_681 : decode cL_law 681 = .ok (.lload 5, 2) := by decide +kernel
theorem dL_law_683 : decode cL_law 683 = .ok (.lcmp, 1) := by decide +kernel
theorem dL_law_684 : decode cL_law 684 = .ok (.ifCond .eq 5, 3) := by decide +kernel
theorem dL_law_687 : decode cL_law 687 = .ok (.iconst 0, 1) := by decide +kernel
theorem dL_law_688 : decode cL_law 688 = .ok (.ireturn, 1) := by decide +kernel
theorem dL_law_689 : decode cL_law 689 = .ok (.iconst 0, 1) := by decide +kernel
theorem dL_law_690 : decode cL_law 690 = .ok (.istore 11, 2) := by decide +kernel
theorem dL_law_692 : decode cL_law 692 = .ok (.iload 11, 2) := by decide +kernel
theorem dL_law_694 : decode cL_law 694 = .ok (.aload_n 2, 1) := by decide +kernel
theorem dL_law_695 : decode cL_law 695 = .ok (.getfield 43, 3) := by decide +kernel
theorem dL_law_698 : decode cL_law 698 = .ok (.if_icmp .ge 17, 3) := by decide +kernel
theorem dL_law_701 : decode cL_law 701 = .ok (.aload_n 3, 1) := by decide +kernel
theorem dL_law_702 : decode cL_law 702 = .ok (.iload 11, 2) := by decide +kernel
theorem dL_law_704 : decode cL_law 704 = .ok (.iconst 0, 1) := by decide +kernel
theorem dL_law_705 : decode cL_law 705 = .ok (.invokevirtual 106, 3) := by decide +kernel
theorem dL_law_708 : decode cL_law 708 = .ok (.pop, 1) := by decide +kernel
theorem dL_law_709 : decode cL_law 709 = .ok (.iinc 11 1, 3) := by decide +kernel
theorem dL_law_712 : decode cL_law 712 = .ok (.goto (-20), 3) := by decide +kernel
theorem dL_law_715 : decode cL_law 715 = .ok (.aload_n 3, 1) := by decide +kernel
theorem dL_law_716 : decode cL_law 716 = .ok (.invokevirtual 30, 3) := by decide +kernel
theorem dL_law_719 : decode cL_law 719 = .ok (.pop, 1) := by decide +kernel
theorem dL_law_720 : decode cL_law 720 = .ok (.aload_n 3, 1) := by decide +kernel
theorem dL_law_721 : decode cL_law 721 = .ok (.invokevirtual 110, 3) := by decide +kernel
theorem dL_law_724 : decode cL_law 724 = .ok (.iconst 1, 1) := by decide +kernel
theorem dL_law_725 : decode cL_law 725 = .ok (.if_icmp .ne 26, 3) := by decide +kernel
theorem dL_law_728 : decode cL_law 728 = .ok (.aload_n 3, 1) := by decide +kernel
theorem dL_law_729 : decode cL_law 729 = .ok (.iload 4, 2) := by decide +kernel
theorem dL_law_731 : decode cL_law 731 = .ok (.iload 4, 2) := by decide +kernel
theorem dL_law_733 : decode cL_law 733 = .ok (.invokevirtual 113, 3) := by decide +kernel
theorem dL_law_736 : decode cL_law 736 = .ok (.aload_n 2, 1) := by decide +kernel
theorem dL_law_737 : decode cL_law 737 = .ok (.getfield 116, 3) := by decide +kernel
theorem dL_law_740 : decode cL_law 740 = .ok (.if_icmp .ne 11, 3) := by decide +kernel
theorem dL_law_743 : decode cL_law 743 = .ok (.aload_n 3, 1) := by decide +kernel
theorem dL_law_744 : decode cL_law 744 = .ok (.invokevirtual 92, 3) := by decide +kernel
theorem dL_law_747 : decode cL_law 747 = .ok (.iconst (-1), 1) := by decide +kernel
theorem dL_law_748 : decode cL_law 748 = .ok (.if_icmp .eq 5, 3) := by decide +kernel
theorem dL_law_751 : decode cL_law 751 = .ok (.iconst 0, 1) := by decide +kernel
theorem dL_law_752 : decode cL_law 752 = .ok (.ireturn, 1) := by decide +kernel
theorem dL_law_753 : decode cL_law 753 = .ok (.iconst 0, 1) := by decide +kernel
theorem dL_law_754 : decode cL_law 754 = .ok (.istore 11, 2) := by decide +kernel
theorem dL_law_756 : decode cL_law 756 = .ok (.iload 11, 2) := by decide +kernel
theorem dL_law_758 : decode cL_law 758 = .ok (.aload_n 2, 1) := by decide +kernel
theorem dL_law_759 : decode cL_law 759 = .ok (.getfield 43, 3) := by decide +kernel
theorem dL_law_762 : decode cL_law 762 = .ok (.if_icmp .ge 25, 3) := by decide +kernel
theorem dL_law_765 : decode cL_law 765 = .ok (.aload_n 3, 1) := by decide +kernel
theorem dL_law_766 : decode cL_law 766 = .ok (.iload 11, 2) := by decide +kernel
theorem dL_law_768 : decode cL_law 768 = .ok (.aload_n 2, 1) := by decide +kernel
theorem dL_law_769 : decode cL_law 769 = .ok (.getfield 62, 3) := by decide +kernel
theorem dL_law_772 : decode cL_law 772 = .ok (.iload 11, 2) := by decide +kernel
theorem dL_law_774 : decode cL_law 774 = .ok (.aaload, 1) := by decide +kernel
theorem dL_law_775 : decode cL_law 775 = .ok (.iconst 2, 1) := by decide +kernel
theorem dL_law_776 : decode cL_law 776 = .ok (.baload, 1) := by decide +kernel
theorem dL_law_777 : decode cL_law 777 = .ok (.invokevirtual 106, 3) := by decide +kernel
theorem dL_law_780 : decode cL_law 780 = .ok (.pop, 1) := by decide +kernel
theorem dL_law_781 : decode cL_law 781 = .ok (.iinc 11 1, 3) := by decide +kernel
theorem dL_law_784 : decode cL_law 784 = .ok (.goto (-28), 3) := by decide +kernel
theorem dL_law_787 : decode cL_law 787 = .ok (.aload_n 3, 1) := by decide +kernel
theorem dL_law_788 : decode cL_law 788 = .ok (.invokevirtual 30, 3) := by decide +kernel
theorem dL_law_791 : decode cL_law 791 = .ok (.pop, 1) := by decide +kernel
theorem dL_law_792 : decode cL_law 792 = .ok (.aload_n 3, 1) := by decide +kernel
theorem dL_law_793 : decode cL_law 793 = .ok (.invokevirtual 39, 3) := by decide +kernel
theorem dL_law_796 : decode cL_law 796 = .ok (.lload 5, 2) := by decide +kernel
theorem dL_law_798 : decode cL_law 798 = .ok (.lcmp, 1) := by decide +kernel
theorem dL_law_799 : decode cL_law 799 = .ok (.ifCond .eq 5, 3) := by decide +kernel
theorem dL_law_802 : decode cL_law 802 = .ok (.iconst 0, 1) := by decide +kernel
theorem dL_law_803 : decode cL_law 803 = .ok (.ireturn, 1) := by decide +kernel
theorem dL_law_804 : decode cL_law 804 = .ok (.iinc 4 1, 3) := by decide +kernel
theorem dL_law_807 : decode cL_law 807 = .ok (.goto (-751), 3) := by decide +kernel
theorem dL_law_810 : decode cL_law 810 = .ok (.iinc 1 1, 3) := by decide +kernel
theorem dL_law_813 : decode cL_law 813 = .ok (.goto (-811), 3) := by decide +kernel
theorem dL_law_816 : decode cL_law 816 = .ok (.iconst 1, 1) := by decide +kernel
theorem dL_law_817 : decode cL_law 817 = .ok (.ireturn, 1) := by decide +kernel
theorem gc_L_18 {x : GX} {cc : ByteArray} {nL d pc : Nat} {M : GM} {lv : List (Nat × Value)} {st : List Value} (X : GC x cc nL RL d) {i0 : Int32} {M1 : GM} {r : Int32} (ht : gT 122 = 11) (hM : gMet (xl x) (xz x) yX11_draw cX11_draw 3 (some .int) 1 [.ref (gad (xz x) 122), .int i0] M (some (.int r)) M1) (hd : 2 ≤ d) (hsum : (st.map fun v => v.category).sum ≤ 8) (dec : decode cc pc = .ok (.invokevirtual 18, 3)) (go : WG x M1 lv (pc + 3) (.int r :: st)) : WG x M lv pc (.int i0 :: .ref (gad (xz x) 122) :: st) := g_callV X (n := 1) (As := [.int i0]) (rest := st) hM ht (by decide) (gE_11 ht) rfl q_875 q_876 q_877 q_16 q_878 (by decide +kernel) rfl hd (by decide) rfl hsum dec go
theorem gc_L_22 {x : GX} {cc : ByteArray} {nL d pc : Nat} {M : GM} {lv : List (Nat × Value)} {st : List Value} (X : GC x cc nL RL d) (hz : TZ (xz x) []) {k : Nat} (B : XB x (k + 48)) {i0 : Int32} {i1 : Int32} {M1 : GM} {r : Int32} (ht : gT 122 = 11) (hM : aMet (xl x) (xz x) yX11_build cX11_build 4 9 [.ref (gad (xz x) 122), .int i0, .int i1] M r M1 48) (hd : 10 ≤ d) (hsum : (st.map fun v => v.category).sum ≤ 8) (dec : decode cc pc = .ok (.invokevirtual 22, 3)) (go : ∀ x' : GX, XR x x' → GC x' cc nL RL d → XB x' k → TZ (xz x') [] → WG x' M1 lv (pc + 3) (.int r :: st)) : WG x M lv pc (.int i1 :: .int i0 :: .ref (gad (xz x) 122) :: st) := g_callA X hz (n := 2) (As := [.int i0, .int i1]) (rest := st) B hM ht (by decide) (gE_11 ht) rfl q_887 q_888 q_889 q_16 q_890 (by decide +kernel) rfl hd (by decide) rfl hsum dec go
theorem gc_L_26 {x : GX} {cc : ByteArray} {nL d pc : Nat} {M : GM} {lv : List (Nat × Value)} {st : List Value} (X : GC x cc nL RL d) (hz : TZ (xz x) []) {k : Nat} (B : XB x (k + 1))  {M1 : GM} {r : Int32} (ht : gT 122 = 11) (hM : aMet (xl x) (xz x) yX11_change cX11_change 4 9 [.ref (gad (xz x) 122)] M r M1 1) (hd : 10 ≤ d) (hsum : (st.map fun v => v.category).sum ≤ 8) (dec : decode cc pc = .ok (.invokevirtual 26, 3)) (go : ∀ x' : GX, XR x x' → GC x' cc nL RL d → XB x' k → TZ (xz x') [] → WG x' M1 lv (pc + 3) (.int r :: st)) : WG x M lv pc (.ref (gad (xz x) 122) :: st) := g_callA X hz (n := 0) (As := []) (rest := st) B hM ht (by decide) (gE_11 ht) rfl q_958 q_959 q_960 q_16 q_961 (by decide +kernel) rfl hd (by decide) rfl hsum dec go
theorem gc_L_30 {x : GX} {cc : ByteArray} {nL d pc : Nat} {M : GM} {lv : List (Nat × Value)} {st : List Value} (X : GC x cc nL RL d)  {M1 : GM} {r : Int32} (ht : gT 0 = 10) (hM : gMet (xl x) (xz x) yX10_paint cX10_paint 2 (some .int) 7 [.ref (gad (xz x) 0)] M (some (.int r)) M1) (hd : 8 ≤ d) (hsum : (st.map fun v => v.category).sum ≤ 8) (dec : decode cc pc = .ok (.invokevirtual 30, 3)) (go : WG x M1 lv (pc + 3) (.int r :: st)) : WG x M lv pc (.ref (gad (xz x) 0) :: st) := g_callV X (n := 0) (As := []) (rest := st) hM ht (by decide) (gE_10 ht) rfl q_324 q_325 q_326 q_17 q_327 (by decide +kernel) rfl hd (by decide) rfl hsum dec go
theorem gc_L_36 {x : GX} {cc : ByteArray} {nL d pc : Nat} {M : GM} {lv : List (Nat × Value)} {st : List Value} (X : GC x cc nL RL d)  {M1 : GM} {r : Int32} (ht : gT 0 = 10) (hM : gMet (xl x) (xz x) yX10_stale cX10_stale 1 (some .int) 7 [.ref (gad (xz x) 0)] M (some (.int r)) M1) (hd : 8 ≤ d) (hsum : (st.map fun v => v.category).sum ≤ 8) (dec : decode cc pc = .ok (.invokevirtual 36, 3)) (go : WG x M1 lv (pc + 3) (.int r :: st)) : WG x M lv pc (.ref (gad (xz x) 0) :: st) := g_callV X (n := 0) (As := []) (rest := st) hM ht (by decide) (gE_10 ht) rfl q_375 q_376 q_377 q_17 q_378 (by decide +kernel) rfl hd (by decide) rfl hsum dec go
theorem gc_L_39 {x : GX} {cc : ByteArray} {nL d pc : Nat} {M : GM} {lv : List (Nat × Value)} {st : List Value} (X : GC x cc nL RL d)  {M1 : GM} {r : Int64} (ht : gT 0 = 10) (hM : gMet (xl x) (xz x) yX10_digest cX10_digest 5 (some .long) 9 [.ref (gad (xz x) 0)] M (some (.long r)) M1) (hd : 10 ≤ d) (hsum : (st.map fun v => v.category).sum ≤ 8) (dec : decode cc pc = .ok (.invokevirtual 39, 3)) (go : WG x M1 lv (pc + 3) (.long r :: st)) : WG x M lv pc (.ref (gad (xz x) 0) :: st) := g_callV X (n := 0) (As := []) (rest := st) hM ht (by decide) (gE_10 ht) rfl q_420 q_421 q_422 q_17 q_423 (by decide +kernel) rfl hd (by decide) rfl hsum dec go
theorem gx_L_39 {x : GX} {cc : ByteArray} {nL d pc : Nat} {M : GM} {lv : List (Nat × Value)} {st : List Value} (X : GC x cc nL RL d)  {M1 : GM} {n9 : Nat} (ht : gT 0 = 10) (hM : gMetX (xl x) (xz x) yX10_digest cX10_digest 5 (some .long) 9 [.ref (gad (xz x) 0)] M n9 M1) (hd : 10 ≤ d) (hsum : (st.map fun v => v.category).sum ≤ 8) (dec : decode cc pc = .ok (.invokevirtual 39, 3)) (hT : GThr x n9 M1) : WG x M lv pc (.ref (gad (xz x) 0) :: st) := g_xV X (n := 0) (As := []) (rest := st) hM ht (by decide) (gE_10 ht) rfl q_420 q_421 q_422 q_17 q_423 (by decide +kernel) rfl hd (by decide) rfl hsum dec hT
theorem gc_L_47 {x : GX} {cc : ByteArray} {nL d pc : Nat} {M : GM} {lv : List (Nat × Value)} {st : List Value} (X : GC x cc nL RL d) {i0 : Int32} {M1 : GM} {r : Int32} (ht : gT 0 = 10) (hM : gMet (xl x) (xz x) yX10_polygonOf cX10_polygonOf 2 (some .int) 7 [.ref (gad (xz x) 0), .int i0] M (some (.int r)) M1) (hd : 8 ≤ d) (hsum : (st.map fun v => v.category).sum ≤ 8) (dec : decode cc pc = .ok (.invokevirtual 47, 3)) (go : WG x M1 lv (pc + 3) (.int r :: st)) : WG x M lv pc (.int i0 :: .ref (gad (xz x) 0) :: st) := g_callV X (n := 1) (As := [.int i0]) (rest := st) hM ht (by decide) (gE_10 ht) rfl q_155 q_156 q_157 q_17 q_158 (by decide +kernel) rfl hd (by decide) rfl hsum dec go
theorem gx_L_47 {x : GX} {cc : ByteArray} {nL d pc : Nat} {M : GM} {lv : List (Nat × Value)} {st : List Value} (X : GC x cc nL RL d) {i0 : Int32} {M1 : GM} {n9 : Nat} (ht : gT 0 = 10) (hM : gMetX (xl x) (xz x) yX10_polygonOf cX10_polygonOf 2 (some .int) 7 [.ref (gad (xz x) 0), .int i0] M n9 M1) (hd : 8 ≤ d) (hsum : (st.map fun v => v.category).sum ≤ 8) (dec : decode cc pc = .ok (.invokevirtual 47, 3)) (hT : GThr x n9 M1) : WG x M lv pc (.int i0 :: .ref (gad (xz x) 0) :: st) := g_xV X (n := 1) (As := [.int i0]) (rest := st) hM ht (by decide) (gE_10 ht) rfl q_155 q_156 q_157 q_17 q_158 (by decide +kernel) rfl hd (by decide) rfl hsum dec hT
theorem gc_L_50 {x : GX} {cc : ByteArray} {nL d pc : Nat} {M : GM} {lv : List (Nat × Value)} {st : List Value} (X : GC x cc nL RL d) {i0 : Int32} {M1 : GM} {r : Int32} (ht : gT 0 = 10) (hM : gMet (xl x) (xz x) yX10_piecesOf cX10_piecesOf 7 (some .int) 7 [.ref (gad (xz x) 0), .int i0] M (some (.int r)) M1) (hd : 8 ≤ d) (hsum : (st.map fun v => v.category).sum ≤ 8) (dec : decode cc pc = .ok (.invokevirtual 50, 3)) (go : WG x M1 lv (pc + 3) (.int r :: st)) : WG x M lv pc (.int i0 :: .ref (gad (xz x) 0) :: st) := g_callV X (n := 1) (As := [.int i0]) (rest := st) hM ht (by decide) (gE_10 ht) rfl q_250 q_251 q_252 q_17 q_253 (by decide +kernel) rfl hd (by decide) rfl hsum dec go
theorem gx_L_50 {x : GX} {cc : ByteArray} {nL d pc : Nat} {M : GM} {lv : List (Nat × Value)} {st : List Value} (X : GC x cc nL RL d) {i0 : Int32} {M1 : GM} {n9 : Nat} (ht : gT 0 = 10) (hM : gMetX (xl x) (xz x) yX10_piecesOf cX10_piecesOf 7 (some .int) 7 [.ref (gad (xz x) 0), .int i0] M n9 M1) (hd : 8 ≤ d) (hsum : (st.map fun v => v.category).sum ≤ 8) (dec : decode cc pc = .ok (.invokevirtual 50, 3)) (hT : GThr x n9 M1) : WG x M lv pc (.int i0 :: .ref (gad (xz x) 0) :: st) := g_xV X (n := 1) (As := [.int i0]) (rest := st) hM ht (by decide) (gE_10 ht) rfl q_250 q_251 q_252 q_17 q_253 (by decide +kernel) rfl hd (by decide) rfl hsum dec hT
theorem gm_L_53 {x : GX} {cc : ByteArray} {nL d pc : Nat} {M : GM} {lv : List (Nat × Value)} {st : List Value} (X : GC x cc nL RL d) {a b : Int32} (hd : 1 ≤ d) (hsum : (st.map fun v => v.category).sum ≤ 8) (dec : decode cc pc = .ok (.invokestatic 53, 3)) (go : WG x M lv (pc + 3) (.int (g_max a b) :: st)) : WG x M lv pc (.int b :: .int a :: st) := fun H locs ls hP hO hS hl => va_mmax X.1 X.2.1 hl.1.symm X.2.2.2.1 (X.hw q_1018) (X.hw q_239) (X.hw q_34) (X.hw q_240) (by have := X.2.2.2.2.2.2.2.1; omega) (by have := X.2.2.2.2.2.2.2.2.1; omega) X.2.2.2.2.2.2.2.2.2.1 X.2.2.2.2.2.2.2.2.2.2.1 dec (go H locs ls hP hO hS hl)
theorem gc_L_59 {x : GX} {cc : ByteArray} {nL d pc : Nat} {M : GM} {lv : List (Nat × Value)} {st : List Value} (X : GC x cc nL RL d) {i0 : Int32} {M1 : GM} {r : Int32} (ht : gT 0 = 10) (hM : gMet (xl x) (xz x) yX10_pointsOf cX10_pointsOf 5 (some .int) 7 [.ref (gad (xz x) 0), .int i0] M (some (.int r)) M1) (hd : 8 ≤ d) (hsum : (st.map fun v => v.category).sum ≤ 8) (dec : decode cc pc = .ok (.invokevirtual 59, 3)) (go : WG x M1 lv (pc + 3) (.int r :: st)) : WG x M lv pc (.int i0 :: .ref (gad (xz x) 0) :: st) := g_callV X (n := 1) (As := [.int i0]) (rest := st) hM ht (by decide) (gE_10 ht) rfl q_254 q_255 q_256 q_17 q_257 (by decide +kernel) rfl hd (by decide) rfl hsum dec go
theorem gx_L_59 {x : GX} {cc : ByteArray} {nL d pc : Nat} {M : GM} {lv : List (Nat × Value)} {st : List Value} (X : GC x cc nL RL d) {i0 : Int32} {M1 : GM} {n9 : Nat} (ht : gT 0 = 10) (hM : gMetX (xl x) (xz x) yX10_pointsOf cX10_pointsOf 5 (some .int) 7 [.ref (gad (xz x) 0), .int i0] M n9 M1) (hd : 8 ≤ d) (hsum : (st.map fun v => v.category).sum ≤ 8) (dec : decode cc pc = .ok (.invokevirtual 59, 3)) (hT : GThr x n9 M1) : WG x M lv pc (.int i0 :: .ref (gad (xz x) 0) :: st) := g_xV X (n := 1) (As := [.int i0]) (rest := st) hM ht (by decide) (gE_10 ht) rfl q_254 q_255 q_256 q_17 q_257 (by decide +kernel) rfl hd (by decide) rfl hsum dec hT
theorem gc_L_66 {x : GX} {cc : ByteArray} {nL d pc : Nat} {M : GM} {lv : List (Nat × Value)} {st : List Value} (X : GC x cc nL RL d) {i0 : Int32} {M1 : GM} {r : Int32} (ht : gT 0 = 10) (hM : gMet (xl x) (xz x) yX10_seenOf cX10_seenOf 4 (some .int) 7 [.ref (gad (xz x) 0), .int i0] M (some (.int r)) M1) (hd : 8 ≤ d) (hsum : (st.map fun v => v.category).sum ≤ 8) (dec : decode cc pc = .ok (.invokevirtual 66, 3)) (go : WG x M1 lv (pc + 3) (.int r :: st)) : WG x M lv pc (.int i0 :: .ref (gad (xz x) 0) :: st) := g_callV X (n := 1) (As := [.int i0]) (rest := st) hM ht (by decide) (gE_10 ht) rfl q_411 q_412 q_413 q_17 q_414 (by decide +kernel) rfl hd (by decide) rfl hsum dec go
theorem gx_L_66 {x : GX} {cc : ByteArray} {nL d pc : Nat} {M : GM} {lv : List (Nat × Value)} {st : List Value} (X : GC x cc nL RL d) {i0 : Int32} {M1 : GM} {n9 : Nat} (ht : gT 0 = 10) (hM : gMetX (xl x) (xz x) yX10_seenOf cX10_seenOf 4 (some .int) 7 [.ref (gad (xz x) 0), .int i0] M n9 M1) (hd : 8 ≤ d) (hsum : (st.map fun v => v.category).sum ≤ 8) (dec : decode cc pc = .ok (.invokevirtual 66, 3)) (hT : GThr x n9 M1) : WG x M lv pc (.int i0 :: .ref (gad (xz x) 0) :: st) := g_xV X (n := 1) (As := [.int i0]) (rest := st) hM ht (by decide) (gE_10 ht) rfl q_411 q_412 q_413 q_17 q_414 (by decide +kernel) rfl hd (by decide) rfl hsum dec hT
theorem gc_L_69 {x : GX} {cc : ByteArray} {nL d pc : Nat} {M : GM} {lv : List (Nat × Value)} {st : List Value} (X : GC x cc nL RL d) {i0 : Int32} {M1 : GM} {r : Int32} (ht : gT 0 = 10) (hM : gMet (xl x) (xz x) yX10_pointsWith cX10_pointsWith 7 (some .int) 7 [.ref (gad (xz x) 0), .int i0] M (some (.int r)) M1) (hd : 8 ≤ d) (hsum : (st.map fun v => v.category).sum ≤ 8) (dec : decode cc pc = .ok (.invokevirtual 69, 3)) (go : WG x M1 lv (pc + 3) (.int r :: st)) : WG x M lv pc (.int i0 :: .ref (gad (xz x) 0) :: st) := g_callV X (n := 1) (As := [.int i0]) (rest := st) hM ht (by decide) (gE_10 ht) rfl q_391 q_392 q_393 q_17 q_394 (by decide +kernel) rfl hd (by decide) rfl hsum dec go
theorem gx_L_69 {x : GX} {cc : ByteArray} {nL d pc : Nat} {M : GM} {lv : List (Nat × Value)} {st : List Value} (X : GC x cc nL RL d) {i0 : Int32} {M1 : GM} {n9 : Nat} (ht : gT 0 = 10) (hM : gMetX (xl x) (xz x) yX10_pointsWith cX10_pointsWith 7 (some .int) 7 [.ref (gad (xz x) 0), .int i0] M n9 M1) (hd : 8 ≤ d) (hsum : (st.map fun v => v.category).sum ≤ 8) (dec : decode cc pc = .ok (.invokevirtual 69, 3)) (hT : GThr x n9 M1) : WG x M lv pc (.int i0 :: .ref (gad (xz x) 0) :: st) := g_xV X (n := 1) (As := [.int i0]) (rest := st) hM ht (by decide) (gE_10 ht) rfl q_391 q_392 q_393 q_17 q_394 (by decide +kernel) rfl hd (by decide) rfl hsum dec hT
theorem gc_L_72 {x : GX} {cc : ByteArray} {nL d pc : Nat} {M : GM} {lv : List (Nat × Value)} {st : List Value} (X : GC x cc nL RL d) {i0 : Int32} {i1 : Int32} {i2 : Int32} {M1 : GM} {r : Int32} (ht : gT 0 = 10) (hM : gMet (xl x) (xz x) yX10_liesIn cX10_liesIn 4 (some .boolean) 7 [.ref (gad (xz x) 0), .int i0, .int i1, .int i2] M (some (.int r)) M1) (hd : 8 ≤ d) (hsum : (st.map fun v => v.category).sum ≤ 8) (dec : decode cc pc = .ok (.invokevirtual 72, 3)) (go : WG x M1 lv (pc + 3) (.int r :: st)) : WG x M lv pc (.int i2 :: .int i1 :: .int i0 :: .ref (gad (xz x) 0) :: st) := g_callV X (n := 3) (As := [.int i0, .int i1, .int i2]) (rest := st) hM ht (by decide) (gE_10 ht) rfl q_274 q_275 q_276 q_17 q_277 (by decide +kernel) rfl hd (by decide) rfl hsum dec go
theorem gx_L_72 {x : GX} {cc : ByteArray} {nL d pc : Nat} {M : GM} {lv : List (Nat × Value)} {st : List Value} (X : GC x cc nL RL d) {i0 : Int32} {i1 : Int32} {i2 : Int32} {M1 : GM} {n9 : Nat} (ht : gT 0 = 10) (hM : gMetX (xl x) (xz x) yX10_liesIn cX10_liesIn 4 (some .boolean) 7 [.ref (gad (xz x) 0), .int i0, .int i1, .int i2] M n9 M1) (hd : 8 ≤ d) (hsum : (st.map fun v => v.category).sum ≤ 8) (dec : decode cc pc = .ok (.invokevirtual 72, 3)) (hT : GThr x n9 M1) : WG x M lv pc (.int i2 :: .int i1 :: .int i0 :: .ref (gad (xz x) 0) :: st) := g_xV X (n := 3) (As := [.int i0, .int i1, .int i2]) (rest := st) hM ht (by decide) (gE_10 ht) rfl q_274 q_275 q_276 q_17 q_277 (by decide +kernel) rfl hd (by decide) rfl hsum dec hT
theorem gc_L_76 {x : GX} {cc : ByteArray} {nL d pc : Nat} {M : GM} {lv : List (Nat × Value)} {st : List Value} (X : GC x cc nL RL d) {i0 : Int32} {i1 : Int32} {i2 : Int32} {M1 : GM} {r : Int32} (ht : gT 0 = 10) (hM : gMet (xl x) (xz x) yX10_depthOf cX10_depthOf 5 (some .int) 7 [.ref (gad (xz x) 0), .int i0, .int i1, .int i2] M (some (.int r)) M1) (hd : 8 ≤ d) (hsum : (st.map fun v => v.category).sum ≤ 8) (dec : decode cc pc = .ok (.invokevirtual 76, 3)) (go : WG x M1 lv (pc + 3) (.int r :: st)) : WG x M lv pc (.int i2 :: .int i1 :: .int i0 :: .ref (gad (xz x) 0) :: st) := g_callV X (n := 3) (As := [.int i0, .int i1, .int i2]) (rest := st) hM ht (by decide) (gE_10 ht) rfl q_283 q_284 q_285 q_17 q_286 (by decide +kernel) rfl hd (by decide) rfl hsum dec go
theorem gx_L_76 {x : GX} {cc : ByteArray} {nL d pc : Nat} {M : GM} {lv : List (Nat × Value)} {st : List Value} (X : GC x cc nL RL d) {i0 : Int32} {i1 : Int32} {i2 : Int32} {M1 : GM} {n9 : Nat} (ht : gT 0 = 10) (hM : gMetX (xl x) (xz x) yX10_depthOf cX10_depthOf 5 (some .int) 7 [.ref (gad (xz x) 0), .int i0, .int i1, .int i2] M n9 M1) (hd : 8 ≤ d) (hsum : (st.map fun v => v.category).sum ≤ 8) (dec : decode cc pc = .ok (.invokevirtual 76, 3)) (hT : GThr x n9 M1) : WG x M lv pc (.int i2 :: .int i1 :: .int i0 :: .ref (gad (xz x) 0) :: st) := g_xV X (n := 3) (As := [.int i0, .int i1, .int i2]) (rest := st) hM ht (by decide) (gE_10 ht) rfl q_283 q_284 q_285 q_17 q_286 (by decide +kernel) rfl hd (by decide) rfl hsum dec hT
theorem gc_L_80 {x : GX} {cc : ByteArray} {nL d pc : Nat} {M : GM} {lv : List (Nat × Value)} {st : List Value} (X : GC x cc nL RL d) {i0 : Int32} {i1 : Int32} {i2 : Int32} {M1 : GM} {r : Int32} (ht : gT 0 = 10) (hM : gMet (xl x) (xz x) yX10_colourOf cX10_colourOf 5 (some .int) 7 [.ref (gad (xz x) 0), .int i0, .int i1, .int i2] M (some (.int r)) M1) (hd : 8 ≤ d) (hsum : (st.map fun v => v.category).sum ≤ 8) (dec : decode cc pc = .ok (.invokevirtual 80, 3)) (go : WG x M1 lv (pc + 3) (.int r :: st)) : WG x M lv pc (.int i2 :: .int i1 :: .int i0 :: .ref (gad (xz x) 0) :: st) := g_callV X (n := 3) (As := [.int i0, .int i1, .int i2]) (rest := st) hM ht (by decide) (gE_10 ht) rfl q_295 q_296 q_297 q_17 q_298 (by decide +kernel) rfl hd (by decide) rfl hsum dec go
theorem gx_L_80 {x : GX} {cc : ByteArray} {nL d pc : Nat} {M : GM} {lv : List (Nat × Value)} {st : List Value} (X : GC x cc nL RL d) {i0 : Int32} {i1 : Int32} {i2 : Int32} {M1 : GM} {n9 : Nat} (ht : gT 0 = 10) (hM : gMetX (xl x) (xz x) yX10_colourOf cX10_colourOf 5 (some .int) 7 [.ref (gad (xz x) 0), .int i0, .int i1, .int i2] M n9 M1) (hd : 8 ≤ d) (hsum : (st.map fun v => v.category).sum ≤ 8) (dec : decode cc pc = .ok (.invokevirtual 80, 3)) (hT : GThr x n9 M1) : WG x M lv pc (.int i2 :: .int i1 :: .int i0 :: .ref (gad (xz x) 0) :: st) := g_xV X (n := 3) (As := [.int i0, .int i1, .int i2]) (rest := st) hM ht (by decide) (gE_10 ht) rfl q_295 q_296 q_297 q_17 q_298 (by decide +kernel) rfl hd (by decide) rfl hsum dec hT
theorem gc_L_85 {x : GX} {cc : ByteArray} {nL d pc : Nat} {M : GM} {lv : List (Nat × Value)} {st : List Value} (X : GC x cc nL RL d) {i0 : Int32} {i1 : Int32} {M1 : GM} {r : Int32} (ht : gT 0 = 10) (hM : gMet (xl x) (xz x) yX10_paneAt cX10_paneAt 3 (some .int) 7 [.ref (gad (xz x) 0), .int i0, .int i1] M (some (.int r)) M1) (hd : 8 ≤ d) (hsum : (st.map fun v => v.category).sum ≤ 8) (dec : decode cc pc = .ok (.invokevirtual 85, 3)) (go : WG x M1 lv (pc + 3) (.int r :: st)) : WG x M lv pc (.int i1 :: .int i0 :: .ref (gad (xz x) 0) :: st) := g_callV X (n := 2) (As := [.int i0, .int i1]) (rest := st) hM ht (by decide) (gE_10 ht) rfl q_387 q_388 q_389 q_17 q_390 (by decide +kernel) rfl hd (by decide) rfl hsum dec go
theorem gx_L_85 {x : GX} {cc : ByteArray} {nL d pc : Nat} {M : GM} {lv : List (Nat × Value)} {st : List Value} (X : GC x cc nL RL d) {i0 : Int32} {i1 : Int32} {M1 : GM} {n9 : Nat} (ht : gT 0 = 10) (hM : gMetX (xl x) (xz x) yX10_paneAt cX10_paneAt 3 (some .int) 7 [.ref (gad (xz x) 0), .int i0, .int i1] M n9 M1) (hd : 8 ≤ d) (hsum : (st.map fun v => v.category).sum ≤ 8) (dec : decode cc pc = .ok (.invokevirtual 85, 3)) (hT : GThr x n9 M1) : WG x M lv pc (.int i1 :: .int i0 :: .ref (gad (xz x) 0) :: st) := g_xV X (n := 2) (As := [.int i0, .int i1]) (rest := st) hM ht (by decide) (gE_10 ht) rfl q_387 q_388 q_389 q_17 q_390 (by decide +kernel) rfl hd (by decide) rfl hsum dec hT
theorem gc_L_88 {x : GX} {cc : ByteArray} {nL d pc : Nat} {M : GM} {lv : List (Nat × Value)} {st : List Value} (X : GC x cc nL RL d) {i0 : Int32} {i1 : Int32} {M1 : GM} {r : Int32} (ht : gT 0 = 10) (hM : gMet (xl x) (xz x) yX10_depthAt cX10_depthAt 3 (some .int) 7 [.ref (gad (xz x) 0), .int i0, .int i1] M (some (.int r)) M1) (hd : 8 ≤ d) (hsum : (st.map fun v => v.category).sum ≤ 8) (dec : decode cc pc = .ok (.invokevirtual 88, 3)) (go : WG x M1 lv (pc + 3) (.int r :: st)) : WG x M lv pc (.int i1 :: .int i0 :: .ref (gad (xz x) 0) :: st) := g_callV X (n := 2) (As := [.int i0, .int i1]) (rest := st) hM ht (by decide) (gE_10 ht) rfl q_383 q_384 q_385 q_17 q_386 (by decide +kernel) rfl hd (by decide) rfl hsum dec go
theorem gx_L_88 {x : GX} {cc : ByteArray} {nL d pc : Nat} {M : GM} {lv : List (Nat × Value)} {st : List Value} (X : GC x cc nL RL d) {i0 : Int32} {i1 : Int32} {M1 : GM} {n9 : Nat} (ht : gT 0 = 10) (hM : gMetX (xl x) (xz x) yX10_depthAt cX10_depthAt 3 (some .int) 7 [.ref (gad (xz x) 0), .int i0, .int i1] M n9 M1) (hd : 8 ≤ d) (hsum : (st.map fun v => v.category).sum ≤ 8) (dec : decode cc pc = .ok (.invokevirtual 88, 3)) (hT : GThr x n9 M1) : WG x M lv pc (.int i1 :: .int i0 :: .ref (gad (xz x) 0) :: st) := g_xV X (n := 2) (As := [.int i0, .int i1]) (rest := st) hM ht (by decide) (gE_10 ht) rfl q_383 q_384 q_385 q_17 q_386 (by decide +kernel) rfl hd (by decide) rfl hsum dec hT
theorem gc_L_92 {x : GX} {cc : ByteArray} {nL d pc : Nat} {M : GM} {lv : List (Nat × Value)} {st : List Value} (X : GC x cc nL RL d)  {M1 : GM} {r : Int32} (ht : gT 0 = 10) (hM : gMet (xl x) (xz x) yX10_greatest cX10_greatest 5 (some .int) 7 [.ref (gad (xz x) 0)] M (some (.int r)) M1) (hd : 8 ≤ d) (hsum : (st.map fun v => v.category).sum ≤ 8) (dec : decode cc pc = .ok (.invokevirtual 92, 3)) (go : WG x M1 lv (pc + 3) (.int r :: st)) : WG x M lv pc (.ref (gad (xz x) 0) :: st) := g_callV X (n := 0) (As := []) (rest := st) hM ht (by decide) (gE_10 ht) rfl q_415 q_416 q_417 q_17 q_418 (by decide +kernel) rfl hd (by decide) rfl hsum dec go
theorem gc_L_102 {x : GX} {cc : ByteArray} {nL d pc : Nat} {M : GM} {lv : List (Nat × Value)} {st : List Value} (X : GC x cc nL RL d) {i0 : Int32} {i1 : Int32} {i2 : Int32} {i3 : Int32} {M1 : GM} {r : Int32} (ht : gT 0 = 10) (hM : gMet (xl x) (xz x) yX10_moveCorner cX10_moveCorner 7 (some .int) 7 [.ref (gad (xz x) 0), .int i0, .int i1, .int i2, .int i3] M (some (.int r)) M1) (hd : 8 ≤ d) (hsum : (st.map fun v => v.category).sum ≤ 8) (dec : decode cc pc = .ok (.invokevirtual 102, 3)) (go : WG x M1 lv (pc + 3) (.int r :: st)) : WG x M lv pc (.int i3 :: .int i2 :: .int i1 :: .int i0 :: .ref (gad (xz x) 0) :: st) := g_callV X (n := 4) (As := [.int i0, .int i1, .int i2, .int i3]) (rest := st) hM ht (by decide) (gE_10 ht) rfl q_37 q_38 q_39 q_17 q_40 (by decide +kernel) rfl hd (by decide) rfl hsum dec go
theorem gx_L_102 {x : GX} {cc : ByteArray} {nL d pc : Nat} {M : GM} {lv : List (Nat × Value)} {st : List Value} (X : GC x cc nL RL d) {i0 : Int32} {i1 : Int32} {i2 : Int32} {i3 : Int32} {M1 : GM} {n9 : Nat} (ht : gT 0 = 10) (hM : gMetX (xl x) (xz x) yX10_moveCorner cX10_moveCorner 7 (some .int) 7 [.ref (gad (xz x) 0), .int i0, .int i1, .int i2, .int i3] M n9 M1) (hd : 8 ≤ d) (hsum : (st.map fun v => v.category).sum ≤ 8) (dec : decode cc pc = .ok (.invokevirtual 102, 3)) (hT : GThr x n9 M1) : WG x M lv pc (.int i3 :: .int i2 :: .int i1 :: .int i0 :: .ref (gad (xz x) 0) :: st) := g_xV X (n := 4) (As := [.int i0, .int i1, .int i2, .int i3]) (rest := st) hM ht (by decide) (gE_10 ht) rfl q_37 q_38 q_39 q_17 q_40 (by decide +kernel) rfl hd (by decide) rfl hsum dec hT
theorem gc_L_106 {x : GX} {cc : ByteArray} {nL d pc : Nat} {M : GM} {lv : List (Nat × Value)} {st : List Value} (X : GC x cc nL RL d) {i0 : Int32} {i1 : Int32} {M1 : GM} {r : Int32} (ht : gT 0 = 10) (hM : gMet (xl x) (xz x) yX10_show cX10_show 4 (some .boolean) 7 [.ref (gad (xz x) 0), .int i0, .int i1] M (some (.int r)) M1) (hd : 8 ≤ d) (hsum : (st.map fun v => v.category).sum ≤ 8) (dec : decode cc pc = .ok (.invokevirtual 106, 3)) (go : WG x M1 lv (pc + 3) (.int r :: st)) : WG x M lv pc (.int i1 :: .int i0 :: .ref (gad (xz x) 0) :: st) := g_callV X (n := 2) (As := [.int i0, .int i1]) (rest := st) hM ht (by decide) (gE_10 ht) rfl q_146 q_147 q_148 q_17 q_149 (by decide +kernel) rfl hd (by decide) rfl hsum dec go
theorem gx_L_106 {x : GX} {cc : ByteArray} {nL d pc : Nat} {M : GM} {lv : List (Nat × Value)} {st : List Value} (X : GC x cc nL RL d) {i0 : Int32} {i1 : Int32} {M1 : GM} {n9 : Nat} (ht : gT 0 = 10) (hM : gMetX (xl x) (xz x) yX10_show cX10_show 4 (some .boolean) 7 [.ref (gad (xz x) 0), .int i0, .int i1] M n9 M1) (hd : 8 ≤ d) (hsum : (st.map fun v => v.category).sum ≤ 8) (dec : decode cc pc = .ok (.invokevirtual 106, 3)) (hT : GThr x n9 M1) : WG x M lv pc (.int i1 :: .int i0 :: .ref (gad (xz x) 0) :: st) := g_xV X (n := 2) (As := [.int i0, .int i1]) (rest := st) hM ht (by decide) (gE_10 ht) rfl q_146 q_147 q_148 q_17 q_149 (by decide +kernel) rfl hd (by decide) rfl hsum dec hT
theorem gc_L_110 {x : GX} {cc : ByteArray} {nL d pc : Nat} {M : GM} {lv : List (Nat × Value)} {st : List Value} (X : GC x cc nL RL d)  {M1 : GM} {r : Int32} (ht : gT 0 = 10) (hM : gMet (xl x) (xz x) yX10_colours cX10_colours 5 (some .int) 2 [.ref (gad (xz x) 0)] M (some (.int r)) M1) (hd : 3 ≤ d) (hsum : (st.map fun v => v.category).sum ≤ 8) (dec : decode cc pc = .ok (.invokevirtual 110, 3)) (go : WG x M1 lv (pc + 3) (.int r :: st)) : WG x M lv pc (.ref (gad (xz x) 0) :: st) := g_callV X (n := 0) (As := []) (rest := st) hM ht (by decide) (gE_10 ht) rfl q_395 q_396 q_397 q_17 q_398 (by decide +kernel) rfl hd (by decide) rfl hsum dec go
theorem gc_L_113 {x : GX} {cc : ByteArray} {nL d pc : Nat} {M : GM} {lv : List (Nat × Value)} {st : List Value} (X : GC x cc nL RL d) {i0 : Int32} {i1 : Int32} {M1 : GM} {r : Int32} (ht : gT 0 = 10) (hM : gMet (xl x) (xz x) yX10_colourAt cX10_colourAt 3 (some .int) 7 [.ref (gad (xz x) 0), .int i0, .int i1] M (some (.int r)) M1) (hd : 8 ≤ d) (hsum : (st.map fun v => v.category).sum ≤ 8) (dec : decode cc pc = .ok (.invokevirtual 113, 3)) (go : WG x M1 lv (pc + 3) (.int r :: st)) : WG x M lv pc (.int i1 :: .int i0 :: .ref (gad (xz x) 0) :: st) := g_callV X (n := 2) (As := [.int i0, .int i1]) (rest := st) hM ht (by decide) (gE_10 ht) rfl q_379 q_380 q_381 q_17 q_382 (by decide +kernel) rfl hd (by decide) rfl hsum dec go
theorem gx_L_113 {x : GX} {cc : ByteArray} {nL d pc : Nat} {M : GM} {lv : List (Nat × Value)} {st : List Value} (X : GC x cc nL RL d) {i0 : Int32} {i1 : Int32} {M1 : GM} {n9 : Nat} (ht : gT 0 = 10) (hM : gMetX (xl x) (xz x) yX10_colourAt cX10_colourAt 3 (some .int) 7 [.ref (gad (xz x) 0), .int i0, .int i1] M n9 M1) (hd : 8 ≤ d) (hsum : (st.map fun v => v.category).sum ≤ 8) (dec : decode cc pc = .ok (.invokevirtual 113, 3)) (hT : GThr x n9 M1) : WG x M lv pc (.int i1 :: .int i0 :: .ref (gad (xz x) 0) :: st) := g_xV X (n := 2) (As := [.int i0, .int i1]) (rest := st) hM ht (by decide) (gE_10 ht) rfl q_379 q_380 q_381 q_17 q_382 (by decide +kernel) rfl hd (by decide) rfl hsum dec hT
def st_L_law_69 (F : Nat) (L9 : Nat) (xs9 : Nat → Int32) (a19 : Int32) (a20 : Int32) (rec : Int32 → GM → Option GM) (a21 : Int32) (M : GM) : Option GM := if a21 < 0 then (some M) else (bndO (f_X11_change F L9 xs9 M) (fun (v23, M24) => if v23 = 0 then (none) else (bnd (a21 + ((-1) : Int32)) (fun v25 => rec v25 M24))))
def lp_L_law_69 (F : Nat) (L9 : Nat) (xs9 : Nat → Int32) (a19 : Int32) (a20 : Int32) : Nat → Int32 → GM → Option GM
  | 0 => fun _ _ => none
  | f + 1 => fun a21 M => st_L_law_69 F L9 xs9 a19 a20 (lp_L_law_69 F L9 xs9 a19 a20 f) a21 M
set_option maxHeartbeats 4000000 in
set_option maxRecDepth 100000 in
theorem lw_L_law_69 {x0 : GX} {ke : Nat} {a19 : Int32} {a20 : Int32}  {F : Nat} {L9 : Nat} {xs9 : Nat → Int32} {r9 : GM} (hsc0 : gsl (xz x0) = L9 ∧ gsx (xz x0) = xs9) (hE : ∀ (x9 : GX)  (M9 : GM), XR x0 x9 → GC x9 cL_law 16 RL 11 → XB x9 ke → TZ (xz x9) [] → r9 = M9 → WG x9 M9 [(0, .ref (gsa (xz x9))), (1, .int a19), (2, .ref (gad (xz x9) 122)), (3, .ref (gad (xz x9) 0)), (4, .int a20)] 89 []) : ∀ (f : Nat) (x : GX) (a21 : Int32) (M : GM), XR x0 x → GC x cL_law 16 RL 11 → XB x (f * 1 + ke) → TZ (xz x) [] → lp_L_law_69 F L9 xs9 a19 a20 f a21 M = some r9 → WG x M [(0, .ref (gsa (xz x))), (1, .int a19), (2, .ref (gad (xz x) 122)), (3, .ref (gad (xz x) 0)), (4, .int a20), (5, .int a21)] 69 [] := by
  intro f
  induction f with
  | zero => intro x a21 M hx X B hz h; cases h
  | succ f ih =>
    intro x a21 M hx X B hz h
    have hrec := ih
    have h : st_L_law_69 F L9 xs9 a19 a20 (lp_L_law_69 F L9 xs9 a19 a20 f) a21 M = some r9 := h
    generalize lp_L_law_69 F L9 xs9 a19 a20 f = rec at h hrec
    unfold st_L_law_69 at h
    have hsc := hx.sc hsc0
    have hk : ke ≤ f * 1 + ke := Nat.le_add_left _ _
    refine g_iload X (j := 5) dL_law_69 rfl ?_
    refine g_if_lt X (tgt := 89) dL_law_71 (by decide) (fun hb => ?_) (fun hb => ?_)
    · have h := ite_t hb h
      refine g_lv [0, 1, 2, 3, 4] rfl ?_
      exact hE x M hx X (B.le (by omega)) hz (Option.some.inj h).symm
    · have h := ite_f hb h
      refine g_aload_n X (j := 2) dL_law_74 rfl rfl ?_
      obtain ⟨⟨v23, M24⟩, hc22, h⟩ := bndO_e h
      refine gc_L_26 X hz (k := 0 + (f * 1 + ke)) (B.le (by omega)) gT_c122 (ct_X11_change X.htr hsc hc22) (by decide) (Nat.le_of_ble_eq_true rfl) dL_law_75 (fun x hxn X B hz => ?_)
      rw [hxn.ad (g := 122) (by decide)]
      rw [hxn.ad (g := 0) (by decide)]
      have hx := hx.tr hxn
      rw [hxn.sa]
      have hsc := hx.sc hsc0
      refine g_if_ne X (tgt := 83) dL_law_78 (by decide) (fun hb => ?_) (fun hb => ?_)
      · have h := ite_f hb h
        refine g_iinc X (j := 5) (w := a21 + ((-1) : Int32)) (lv' := [(0, .ref (gsa (xz x))), (1, .int a19), (2, .ref (gad (xz x) 122)), (3, .ref (gad (xz x) 0)), (4, .int a20)]) dL_law_83 rfl (by rw [ii_m1]) (by decide) (fun _ => rfl) (fun v25 e26 => ?_)
        have h := bnd_e e26 h
        refine g_goto X (tgt := 69) dL_law_86 (by decide) ?_
        refine g_lv [1, 2, 3, 4, 5, 0] rfl ?_
        exact hrec x v25 M24 hx X (B.le (by omega)) hz h
      · have h := ite_t hb h
        refine g_iconst X (v := 0) dL_law_81 (by decide) ?_
        cases h
def bk_L_law_356_233 (F : Nat) (L9 : Nat) (xs9 : Nat → Int32) (rec : Int32 → Int32 → GM → Option (Int32 × GM)) (a79 : Int32) (a80 : Int32) (b81 : Int64) (a82 : Int32) (a83 : Int32) (a107 : Int32) (a108 : Int32) (M : GM) : Option (Int32 × GM) := bndO (f_X11_draw F L9 xs9 (7 : Int32) M) (fun (v110, M111) => bnd (a108 + ((1 : Int32) + v110)) (fun v112 => rec a107 v112 M111))
set_option maxHeartbeats 4000000 in
set_option maxRecDepth 100000 in
theorem bw_L_law_356_233 {x0 x : GX} (hx : XR x0 x) (X : GC x cL_law 16 RL 11) {kr ke : Nat} (hk : ke ≤ kr) (B : XB x (0 + kr)) (hz : TZ (xz x) []) {a79 : Int32} {a80 : Int32} {b81 : Int64} {a82 : Int32} {a83 : Int32} {a107 : Int32} {a108 : Int32}   {F : Nat} {L9 : Nat} {xs9 : Nat → Int32} {rec : Int32 → Int32 → GM → Option (Int32 × GM)} {M : GM} {r9 : (Int32 × GM)} (hsc0 : gsl (xz x0) = L9 ∧ gsx (xz x0) = xs9) (hE : ∀ (x9 : GX) (x11_9 : Int32) (M9 : GM), XR x0 x9 → GC x9 cL_law 16 RL 11 → XB x9 ke → TZ (xz x9) [] → r9 = (x11_9, M9) → WG x9 M9 [(0, .ref (gsa (xz x9))), (1, .int a79), (2, .ref (gad (xz x9) 122)), (3, .ref (gad (xz x9) 0)), (4, .int a80), (5, .long b81), (7, .int a82), (8, .int a83), (11, .int x11_9)] 372 []) (hrec : ∀ (x9 : GX) (a84_9 : Int32) (a85_9 : Int32) (M9 : GM), XR x0 x9 → GC x9 cL_law 16 RL 11 → XB x9 kr → TZ (xz x9) [] → rec a84_9 a85_9 M9 = some r9 → WG x9 M9 [(0, .ref (gsa (xz x9))), (1, .int a79), (2, .ref (gad (xz x9) 122)), (3, .ref (gad (xz x9) 0)), (4, .int a80), (5, .long b81), (7, .int a82), (8, .int a83), (11, .int a84_9), (12, .int a85_9)] 233 []) (h : bk_L_law_356_233 F L9 xs9 rec a79 a80 b81 a82 a83 a107 a108 M = some r9) : WG x M [(0, .ref (gsa (xz x))), (1, .int a79), (2, .ref (gad (xz x) 122)), (3, .ref (gad (xz x) 0)), (4, .int a80), (5, .long b81), (7, .int a82), (8, .int a83), (11, .int a107), (12, .int a108)] 356 [] := by
  unfold bk_L_law_356_233 at h
  have hsc := hx.sc hsc0
  refine g_iload X (j := 9) dL_law_356 rfl ?_
  refine g_iconst X (v := 1) dL_law_358 (by decide) ?_
  refine g_aload_n X (j := 2) dL_law_359 rfl rfl ?_
  refine g_bipush X (v := 7) dL_law_360 (by decide) ?_
  obtain ⟨⟨v110, M111⟩, hc109, h⟩ := bndO_e h
  refine gc_L_18 X gT_c122 (ct_X11_draw X.htr hsc hc109) (by decide) (Nat.le_of_ble_eq_true rfl) dL_law_362 ?_
  refine g_iadd X dL_law_365 ?_
  refine g_iadd X dL_law_366 ?_
  refine g_topi (fun v112 e113 => ?_)
  have h := bnd_e e113 h
  refine g_istore X (lv' := [(12, .int v112), (0, .ref (gsa (xz x))), (1, .int a79), (2, .ref (gad (xz x) 122)), (3, .ref (gad (xz x) 0)), (4, .int a80), (5, .long b81), (7, .int a82), (8, .int a83), (11, .int a107)]) dL_law_367 (by decide) rfl ?_
  refine g_goto X (tgt := 233) dL_law_369 (by decide) ?_
  refine g_lv [1, 2, 3, 4, 5, 6, 7, 8, 9, 0] rfl ?_
  exact hrec x a107 v112 M111 hx X (B.le (by omega)) hz h
def bk_L_law_271_233 (F : Nat) (L9 : Nat) (xs9 : Nat → Int32) (rec : Int32 → Int32 → GM → Option (Int32 × GM)) (a79 : Int32) (a80 : Int32) (b81 : Int64) (a82 : Int32) (a83 : Int32) (a91 : Int32) (a92 : Int32) (a93 : Int32) (a94 : Int32) (M : GM) : Option (Int32 × GM) := bnd (a94 + a93) (fun v95 => bndT (f_X10_depthOf F a83 (a91 - a91 / (40 : Int32) * (40 : Int32)) (a91 / (40 : Int32)) M) (fun _ => none) (fun (v98, M99) => bnd v98 (fun v100 => bndT (f_X10_colourOf F a83 (a91 - a91 / (40 : Int32) * (40 : Int32)) (a91 / (40 : Int32)) M99) (fun _ => none) (fun (v103, M104) => bnd v103 (fun v105 => if a92 = 0 then (if v100 = ((-1) : Int32) then (if v105 = ((-1) : Int32) then (bk_L_law_356_233 F L9 xs9 rec a79 a80 b81 a82 a83 v95 a91 M104) else (none)) else (none)) else (if v100 < 0 then (none) else (if (65534 : Int32) < v100 then (none) else (if v105 < 0 then (none) else (if v105 ≤ (16777215 : Int32) then (bk_L_law_356_233 F L9 xs9 rec a79 a80 b81 a82 a83 v95 a91 M104) else (none))))))))))
set_option maxHeartbeats 4000000 in
set_option maxRecDepth 100000 in
theorem bw_L_law_271_233 {x0 x : GX} (hx : XR x0 x) (X : GC x cL_law 16 RL 11) {kr ke : Nat} (hk : ke ≤ kr) (B : XB x (0 + kr)) (hz : TZ (xz x) []) {a79 : Int32} {a80 : Int32} {b81 : Int64} {a82 : Int32} {a83 : Int32} {a91 : Int32} {a92 : Int32} {a93 : Int32} {a94 : Int32}   {F : Nat} {L9 : Nat} {xs9 : Nat → Int32} {rec : Int32 → Int32 → GM → Option (Int32 × GM)} {M : GM} {r9 : (Int32 × GM)} (hsc0 : gsl (xz x0) = L9 ∧ gsx (xz x0) = xs9) (hE : ∀ (x9 : GX) (x11_9 : Int32) (M9 : GM), XR x0 x9 → GC x9 cL_law 16 RL 11 → XB x9 ke → TZ (xz x9) [] → r9 = (x11_9, M9) → WG x9 M9 [(0, .ref (gsa (xz x9))), (1, .int a79), (2, .ref (gad (xz x9) 122)), (3, .ref (gad (xz x9) 0)), (4, .int a80), (5, .long b81), (7, .int a82), (8, .int a83), (11, .int x11_9)] 372 []) (hrec : ∀ (x9 : GX) (a84_9 : Int32) (a85_9 : Int32) (M9 : GM), XR x0 x9 → GC x9 cL_law 16 RL 11 → XB x9 kr → TZ (xz x9) [] → rec a84_9 a85_9 M9 = some r9 → WG x9 M9 [(0, .ref (gsa (xz x9))), (1, .int a79), (2, .ref (gad (xz x9) 122)), (3, .ref (gad (xz x9) 0)), (4, .int a80), (5, .long b81), (7, .int a82), (8, .int a83), (11, .int a84_9), (12, .int a85_9)] 233 []) (h : bk_L_law_271_233 F L9 xs9 rec a79 a80 b81 a82 a83 a91 a92 a93 a94 M = some r9) : WG x M [(0, .ref (gsa (xz x))), (1, .int a79), (2, .ref (gad (xz x) 122)), (3, .ref (gad (xz x) 0)), (4, .int a80), (5, .long b81), (7, .int a82), (8, .int a83), (12, .int a91), (13, .int a92)] 271 [.int a93, .int a94] := by
  unfold bk_L_law_271_233 at h
  have hsc := hx.sc hsc0
  refine g_iadd X dL_law_271 ?_
  refine g_topi (fun v95 e96 => ?_)
  have h := bnd_e e96 h
  refine g_istore X (lv' := [(11, .int v95), (0, .ref (gsa (xz x))), (1, .int a79), (2, .ref (gad (xz x) 122)), (3, .ref (gad (xz x) 0)), (4, .int a80), (5, .long b81), (7, .int a82), (8, .int a83), (12, .int a91), (13, .int a92)]) dL_law_272 (by decide) rfl ?_
  refine g_aload_n X (j := 4) dL_law_274 rfl rfl ?_
  refine g_iload X (j := 8) dL_law_275 rfl ?_
  refine g_iload X (j := 9) dL_law_277 rfl ?_
  refine g_bipush X (v := 40) dL_law_279 (by decide) ?_
  refine g_irem X dL_law_281 (by decide) ?_
  refine g_iload X (j := 9) dL_law_282 rfl ?_
  refine g_bipush X (v := 40) dL_law_284 (by decide) ?_
  refine g_idiv X dL_law_286 (by decide) ?_
  rcases bndT_e h with ⟨_, hc97, h⟩ | ⟨⟨v98, M99⟩, hc97, h⟩
  · cases h
  refine gc_L_76 X gT_c0 (ct_X10_depthOf X.htr  hc97) (by decide) (Nat.le_of_ble_eq_true rfl) dL_law_287 ?_
  refine g_topi (fun v100 e101 => ?_)
  have h := bnd_e e101 h
  refine g_istore X (lv' := [(14, .int v100), (11, .int v95), (0, .ref (gsa (xz x))), (1, .int a79), (2, .ref (gad (xz x) 122)), (3, .ref (gad (xz x) 0)), (4, .int a80), (5, .long b81), (7, .int a82), (8, .int a83), (12, .int a91), (13, .int a92)]) dL_law_290 (by decide) rfl ?_
  refine g_aload_n X (j := 5) dL_law_292 rfl rfl ?_
  refine g_iload X (j := 9) dL_law_293 rfl ?_
  refine g_iload X (j := 10) dL_law_295 rfl ?_
  refine g_bipush X (v := 40) dL_law_297 (by decide) ?_
  refine g_irem X dL_law_299 (by decide) ?_
  refine g_iload X (j := 10) dL_law_300 rfl ?_
  refine g_bipush X (v := 40) dL_law_302 (by decide) ?_
  refine g_idiv X dL_law_304 (by decide) ?_
  rcases bndT_e h with ⟨_, hc102, h⟩ | ⟨⟨v103, M104⟩, hc102, h⟩
  · cases h
  refine gc_L_80 X gT_c0 (ct_X10_colourOf X.htr  hc102) (by decide) (Nat.le_of_ble_eq_true rfl) dL_law_305 ?_
  refine g_topi (fun v105 e106 => ?_)
  have h := bnd_e e106 h
  refine g_istore X (lv' := [(15, .int v105), (14, .int v100), (11, .int v95), (0, .ref (gsa (xz x))), (1, .int a79), (2, .ref (gad (xz x) 122)), (3, .ref (gad (xz x) 0)), (4, .int a80), (5, .long b81), (7, .int a82), (8, .int a83), (12, .int a91), (13, .int a92)]) dL_law_308 (by decide) rfl ?_
  refine g_iload X (j := 12) dL_law_310 rfl ?_
  refine g_if_eq X (tgt := 342) dL_law_312 (by decide) (fun hb => ?_) (fun hb => ?_)
  · have h := ite_t hb h
    refine g_iload X (j := 1) dL_law_342 rfl ?_
    refine g_iconst X (v := (-1)) dL_law_344 (by decide) ?_
    refine g_icmp_ne X (tgt := 354) dL_law_345 (by decide) (fun hb => ?_) (fun hb => ?_)
    · have h := ite_f hb h
      refine g_iconst X (v := 0) dL_law_354 (by decide) ?_
      cases h
    · have h := ite_t hb h
      refine g_iload X (j := 0) dL_law_348 rfl ?_
      refine g_iconst X (v := (-1)) dL_law_350 (by decide) ?_
      refine g_icmp_eq X (tgt := 356) dL_law_351 (by decide) (fun hb => ?_) (fun hb => ?_)
      · have h := ite_t hb h
        refine g_lv [3, 4, 5, 6, 7, 8, 9, 10, 2, 11] rfl ?_
        exact bw_L_law_356_233 hx X hk (B.le (by omega)) hz  hsc0 hE hrec h
      · have h := ite_f hb h
        refine g_iconst X (v := 0) dL_law_354 (by decide) ?_
        cases h
  · have h := ite_f hb h
    refine g_iload X (j := 1) dL_law_315 rfl ?_
    refine g_if_lt X (tgt := 354) dL_law_317 (by decide) (fun hb => ?_) (fun hb => ?_)
    · have h := ite_t hb h
      refine g_iconst X (v := 0) dL_law_354 (by decide) ?_
      cases h
    · have h := ite_f hb h
      refine g_iload X (j := 1) dL_law_320 rfl ?_
      refine g_ldc X q_1019 dL_law_322 ?_
      refine g_icmp_gt X (tgt := 354) dL_law_324 (by decide) (fun hb => ?_) (fun hb => ?_)
      · have h := ite_t hb h
        refine g_iconst X (v := 0) dL_law_354 (by decide) ?_
        cases h
      · have h := ite_f hb h
        refine g_iload X (j := 0) dL_law_327 rfl ?_
        refine g_if_lt X (tgt := 354) dL_law_329 (by decide) (fun hb => ?_) (fun hb => ?_)
        · have h := ite_t hb h
          refine g_iconst X (v := 0) dL_law_354 (by decide) ?_
          cases h
        · have h := ite_f hb h
          refine g_iload X (j := 0) dL_law_332 rfl ?_
          refine g_ldc X q_1020 dL_law_334 ?_
          refine g_icmp_le X (tgt := 356) dL_law_336 (by decide) (fun hb => ?_) (fun hb => ?_)
          · have h := ite_t hb h
            refine g_lv [3, 4, 5, 6, 7, 8, 9, 10, 2, 11] rfl ?_
            exact bw_L_law_356_233 hx X hk (B.le (by omega)) hz  hsc0 hE hrec h
          · have h := ite_f hb h
            refine g_goto X (tgt := 354) dL_law_339 (by decide) ?_
            refine g_iconst X (v := 0) dL_law_354 (by decide) ?_
            cases h
def st_L_law_233 (F : Nat) (L9 : Nat) (xs9 : Nat → Int32) (a79 : Int32) (a80 : Int32) (b81 : Int64) (a82 : Int32) (a83 : Int32) (rec : Int32 → Int32 → GM → Option (Int32 × GM)) (a84 : Int32) (a85 : Int32) (M : GM) : Option (Int32 × GM) := if (960 : Int32) ≤ a85 then (some (a84, M)) else (bndT (f_X10_liesIn F a83 (a85 - a85 / (40 : Int32) * (40 : Int32)) (a85 / (40 : Int32)) M) (fun _ => none) (fun (v87, M88) => bnd v87 (fun v89 => if v89 = 0 then (bk_L_law_271_233 F L9 xs9 rec a79 a80 b81 a82 a83 a85 v89 (0 : Int32) a84 M88) else (bk_L_law_271_233 F L9 xs9 rec a79 a80 b81 a82 a83 a85 v89 (1 : Int32) a84 M88))))
def lp_L_law_233 (F : Nat) (L9 : Nat) (xs9 : Nat → Int32) (a79 : Int32) (a80 : Int32) (b81 : Int64) (a82 : Int32) (a83 : Int32) : Nat → Int32 → Int32 → GM → Option (Int32 × GM)
  | 0 => fun _ _ _ => none
  | f + 1 => fun a84 a85 M => st_L_law_233 F L9 xs9 a79 a80 b81 a82 a83 (lp_L_law_233 F L9 xs9 a79 a80 b81 a82 a83 f) a84 a85 M
set_option maxHeartbeats 4000000 in
set_option maxRecDepth 100000 in
theorem lw_L_law_233 {x0 : GX} {ke : Nat} {a79 : Int32} {a80 : Int32} {b81 : Int64} {a82 : Int32} {a83 : Int32}  {F : Nat} {L9 : Nat} {xs9 : Nat → Int32} {r9 : (Int32 × GM)} (hsc0 : gsl (xz x0) = L9 ∧ gsx (xz x0) = xs9) (hE : ∀ (x9 : GX) (x11_9 : Int32) (M9 : GM), XR x0 x9 → GC x9 cL_law 16 RL 11 → XB x9 ke → TZ (xz x9) [] → r9 = (x11_9, M9) → WG x9 M9 [(0, .ref (gsa (xz x9))), (1, .int a79), (2, .ref (gad (xz x9) 122)), (3, .ref (gad (xz x9) 0)), (4, .int a80), (5, .long b81), (7, .int a82), (8, .int a83), (11, .int x11_9)] 372 []) : ∀ (f : Nat) (x : GX) (a84 : Int32) (a85 : Int32) (M : GM), XR x0 x → GC x cL_law 16 RL 11 → XB x (f * 0 + ke) → TZ (xz x) [] → lp_L_law_233 F L9 xs9 a79 a80 b81 a82 a83 f a84 a85 M = some r9 → WG x M [(0, .ref (gsa (xz x))), (1, .int a79), (2, .ref (gad (xz x) 122)), (3, .ref (gad (xz x) 0)), (4, .int a80), (5, .long b81), (7, .int a82), (8, .int a83), (11, .int a84), (12, .int a85)] 233 [] := by
  intro f
  induction f with
  | zero => intro x a84 a85 M hx X B hz h; cases h
  | succ f ih =>
    intro x a84 a85 M hx X B hz h
    have hrec := ih
    have h : st_L_law_233 F L9 xs9 a79 a80 b81 a82 a83 (lp_L_law_233 F L9 xs9 a79 a80 b81 a82 a83 f) a84 a85 M = some r9 := h
    generalize lp_L_law_233 F L9 xs9 a79 a80 b81 a82 a83 f = rec at h hrec
    unfold st_L_law_233 at h
    have hsc := hx.sc hsc0
    have hk : ke ≤ f * 0 + ke := Nat.le_add_left _ _
    refine g_iload X (j := 9) dL_law_233 rfl ?_
    refine g_sipush X (v := 960) dL_law_235 (by decide) ?_
    refine g_icmp_ge X (tgt := 372) dL_law_238 (by decide) (fun hb => ?_) (fun hb => ?_)
    · have h := ite_t hb h
      refine g_lv [0, 1, 2, 3, 4, 5, 6, 7, 8] rfl ?_
      exact hE x a84 M hx X (B.le (by omega)) hz (Option.some.inj h).symm
    · have h := ite_f hb h
      refine g_aload_n X (j := 3) dL_law_241 rfl rfl ?_
      refine g_iload X (j := 7) dL_law_242 rfl ?_
      refine g_iload X (j := 9) dL_law_244 rfl ?_
      refine g_bipush X (v := 40) dL_law_246 (by decide) ?_
      refine g_irem X dL_law_248 (by decide) ?_
      refine g_iload X (j := 9) dL_law_249 rfl ?_
      refine g_bipush X (v := 40) dL_law_251 (by decide) ?_
      refine g_idiv X dL_law_253 (by decide) ?_
      rcases bndT_e h with ⟨_, hc86, h⟩ | ⟨⟨v87, M88⟩, hc86, h⟩
      · cases h
      refine gc_L_72 X gT_c0 (ct_X10_liesIn X.htr  hc86) (by decide) (Nat.le_of_ble_eq_true rfl) dL_law_254 ?_
      refine g_topi (fun v89 e90 => ?_)
      have h := bnd_e e90 h
      refine g_istore X (lv' := [(13, .int v89), (0, .ref (gsa (xz x))), (1, .int a79), (2, .ref (gad (xz x) 122)), (3, .ref (gad (xz x) 0)), (4, .int a80), (5, .long b81), (7, .int a82), (8, .int a83), (11, .int a84), (12, .int a85)]) dL_law_257 (by decide) rfl ?_
      refine g_iload X (j := 9) dL_law_259 rfl ?_
      refine g_iload X (j := 0) dL_law_261 rfl ?_
      refine g_if_eq X (tgt := 270) dL_law_263 (by decide) (fun hb => ?_) (fun hb => ?_)
      · have h := ite_t hb h
        refine g_iconst X (v := 0) dL_law_270 (by decide) ?_
        refine g_lv [1, 2, 3, 4, 5, 6, 7, 8, 10, 0] rfl ?_
        exact bw_L_law_271_233 hx X hk (B.le (by omega)) hz  hsc0 hE hrec h
      · have h := ite_f hb h
        refine g_iconst X (v := 1) dL_law_266 (by decide) ?_
        refine g_goto X (tgt := 271) dL_law_267 (by decide) ?_
        refine g_lv [1, 2, 3, 4, 5, 6, 7, 8, 10, 0] rfl ?_
        exact bw_L_law_271_233 hx X hk (B.le (by omega)) hz  hsc0 hE hrec h
def bk_L_law_227_126 (F : Nat) (L9 : Nat) (xs9 : Nat → Int32) (rec : Int32 → Int32 → GM → Option (Int32 × GM)) (a47 : Int32) (a48 : Int32) (b49 : Int64) (a73 : Int32) (a74 : Int32) (M : GM) : Option (Int32 × GM) := bnd (0 : Int32) (fun v75 => bnd (0 : Int32) (fun v77 => bndO (lp_L_law_233 F L9 xs9 a47 a48 b49 a73 a74 F v75 v77 M) (fun (v114, M115) => bndT (f_X10_pointsOf F a74 M115) (fun _ => none) (fun (v118, M119) => if v118 < v114 then (none) else (bndT (f_X10_pointsOf F a74 M119) (fun _ => none) (fun (v121, M122) => if v121 ≤ (960 : Int32) then (bndT (f_X10_pointsWith F a74 M122) (fun _ => none) (fun v124 => bnd (a73 + v124) (fun v125 => bnd (a74 + (1 : Int32)) (fun v127 => rec v125 v127 M122)))) else (none)))))))
set_option maxHeartbeats 4000000 in
set_option maxRecDepth 100000 in
theorem bw_L_law_227_126 {x0 x : GX} (hx : XR x0 x) (X : GC x cL_law 16 RL 11) {kr ke : Nat} (hk : ke ≤ kr) (B : XB x (0 + kr)) (hz : TZ (xz x) []) {a47 : Int32} {a48 : Int32} {b49 : Int64} {a73 : Int32} {a74 : Int32}   {F : Nat} {L9 : Nat} {xs9 : Nat → Int32} {rec : Int32 → Int32 → GM → Option (Int32 × GM)} {M : GM} {r9 : (Int32 × GM)} (hsc0 : gsl (xz x0) = L9 ∧ gsx (xz x0) = xs9) (hE : ∀ (x9 : GX) (x7_9 : Int32) (M9 : GM), XR x0 x9 → GC x9 cL_law 16 RL 11 → XB x9 ke → TZ (xz x9) [] → r9 = (x7_9, M9) → WG x9 M9 [(0, .ref (gsa (xz x9))), (1, .int a47), (2, .ref (gad (xz x9) 122)), (3, .ref (gad (xz x9) 0)), (4, .int a48), (5, .long b49), (7, .int x7_9)] 414 []) (hrec : ∀ (x9 : GX) (a50_9 : Int32) (a51_9 : Int32) (M9 : GM), XR x0 x9 → GC x9 cL_law 16 RL 11 → XB x9 kr → TZ (xz x9) [] → rec a50_9 a51_9 M9 = some r9 → WG x9 M9 [(0, .ref (gsa (xz x9))), (1, .int a47), (2, .ref (gad (xz x9) 122)), (3, .ref (gad (xz x9) 0)), (4, .int a48), (5, .long b49), (7, .int a50_9), (8, .int a51_9)] 126 []) (h : bk_L_law_227_126 F L9 xs9 rec a47 a48 b49 a73 a74 M = some r9) : WG x M [(0, .ref (gsa (xz x))), (1, .int a47), (2, .ref (gad (xz x) 122)), (3, .ref (gad (xz x) 0)), (4, .int a48), (5, .long b49), (7, .int a73), (8, .int a74)] 227 [] := by
  unfold bk_L_law_227_126 at h
  have hsc := hx.sc hsc0
  refine g_iconst X (v := 0) dL_law_227 (by decide) ?_
  refine g_topi (fun v75 e76 => ?_)
  have h := bnd_e e76 h
  refine g_istore X (lv' := [(11, .int v75), (0, .ref (gsa (xz x))), (1, .int a47), (2, .ref (gad (xz x) 122)), (3, .ref (gad (xz x) 0)), (4, .int a48), (5, .long b49), (7, .int a73), (8, .int a74)]) dL_law_228 (by decide) rfl ?_
  refine g_iconst X (v := 0) dL_law_230 (by decide) ?_
  refine g_topi (fun v77 e78 => ?_)
  have h := bnd_e e78 h
  refine g_istore X (lv' := [(12, .int v77), (11, .int v75), (0, .ref (gsa (xz x))), (1, .int a47), (2, .ref (gad (xz x) 122)), (3, .ref (gad (xz x) 0)), (4, .int a48), (5, .long b49), (7, .int a73), (8, .int a74)]) dL_law_231 (by decide) rfl ?_
  refine g_lv [2, 3, 4, 5, 6, 7, 8, 9, 1, 0] rfl ?_
  obtain ⟨⟨v114, M115⟩, hl116, h⟩ := bndO_e h
  refine lw_L_law_233 (ke := 0 + kr)  hsc0 (fun x v114_ M115_ hx X B hz e9 => ?_) F x v75 v77 M hx X (B.le (by omega)) hz hl116
  cases e9
  have hsc := hx.sc hsc0
  refine g_iload X (j := 8) dL_law_372 rfl ?_
  refine g_aload_n X (j := 3) dL_law_374 rfl rfl ?_
  refine g_iload X (j := 7) dL_law_375 rfl ?_
  rcases bndT_e h with ⟨_, hc117, h⟩ | ⟨⟨v118, M119⟩, hc117, h⟩
  · cases h
  refine gc_L_59 X gT_c0 (ct_X10_pointsOf X.htr  hc117) (by decide) (Nat.le_of_ble_eq_true rfl) dL_law_377 ?_
  refine g_icmp_gt X (tgt := 395) dL_law_380 (by decide) (fun hb => ?_) (fun hb => ?_)
  · have h := ite_t hb h
    refine g_iconst X (v := 0) dL_law_395 (by decide) ?_
    cases h
  · have h := ite_f hb h
    refine g_aload_n X (j := 3) dL_law_383 rfl rfl ?_
    refine g_iload X (j := 7) dL_law_384 rfl ?_
    rcases bndT_e h with ⟨_, hc120, h⟩ | ⟨⟨v121, M122⟩, hc120, h⟩
    · cases h
    refine gc_L_59 X gT_c0 (ct_X10_pointsOf X.htr  hc120) (by decide) (Nat.le_of_ble_eq_true rfl) dL_law_386 ?_
    refine g_sipush X (v := 960) dL_law_389 (by decide) ?_
    refine g_icmp_le X (tgt := 397) dL_law_392 (by decide) (fun hb => ?_) (fun hb => ?_)
    · have h := ite_t hb h
      refine g_iload X (j := 6) dL_law_397 rfl ?_
      refine g_aload_n X (j := 3) dL_law_399 rfl rfl ?_
      refine g_iload X (j := 7) dL_law_400 rfl ?_
      rcases bndT_e h with ⟨_, hc123, h⟩ | ⟨v124, hc123, h⟩
      · cases h
      refine gc_L_69 X gT_c0 (ct_X10_pointsWith X.htr  hc123) (by decide) (Nat.le_of_ble_eq_true rfl) dL_law_402 ?_
      refine g_iadd X dL_law_405 ?_
      refine g_topi (fun v125 e126 => ?_)
      have h := bnd_e e126 h
      refine g_istore X (lv' := [(7, .int v125), (0, .ref (gsa (xz x))), (1, .int a47), (2, .ref (gad (xz x) 122)), (3, .ref (gad (xz x) 0)), (4, .int a48), (5, .long b49), (8, .int a74), (11, .int v114)]) dL_law_406 (by decide) rfl ?_
      refine g_iinc X (j := 7) (w := a74 + (1 : Int32)) (lv' := [(7, .int v125), (0, .ref (gsa (xz x))), (1, .int a47), (2, .ref (gad (xz x) 122)), (3, .ref (gad (xz x) 0)), (4, .int a48), (5, .long b49), (11, .int v114)]) dL_law_408 rfl (by rw [ii_1]) (by decide) (fun _ => rfl) (fun v127 e128 => ?_)
      have h := bnd_e e128 h
      refine g_goto X (tgt := 126) dL_law_411 (by decide) ?_
      refine g_lv [2, 3, 4, 5, 6, 7, 1, 0] rfl ?_
      exact hrec x v125 v127 M122 hx X (B.le (by omega)) hz h
    · have h := ite_f hb h
      refine g_iconst X (v := 0) dL_law_395 (by decide) ?_
      cases h
def bk_L_law_195_126 (F : Nat) (L9 : Nat) (xs9 : Nat → Int32) (rec : Int32 → Int32 → GM → Option (Int32 × GM)) (a47 : Int32) (a48 : Int32) (b49 : Int64) (a66 : Int32) (a67 : Int32) (M : GM) : Option (Int32 × GM) := grd (gIn a67 (gN 125)) (bnd (gR 125 a67.toNatClampNeg) (fun o69 => grd (gIn (2 : Int32) (gN o69)) (if (gI M o69 2) = 0 then (bndT (f_X10_seenOf F a67 M) (fun _ => none) (fun (v130, M131) => if v130 = 0 then (bndT (f_X10_pointsWith F a67 M131) (fun _ => none) (fun v133 => if v133 = 0 then (bk_L_law_227_126 F L9 xs9 rec a47 a48 b49 a66 a67 M131) else (none))) else (none))) else (bk_L_law_227_126 F L9 xs9 rec a47 a48 b49 a66 a67 M))))
set_option maxHeartbeats 4000000 in
set_option maxRecDepth 100000 in
theorem bw_L_law_195_126 {x0 x : GX} (hx : XR x0 x) (X : GC x cL_law 16 RL 11) {kr ke : Nat} (hk : ke ≤ kr) (B : XB x (0 + kr)) (hz : TZ (xz x) []) {a47 : Int32} {a48 : Int32} {b49 : Int64} {a66 : Int32} {a67 : Int32}   {F : Nat} {L9 : Nat} {xs9 : Nat → Int32} {rec : Int32 → Int32 → GM → Option (Int32 × GM)} {M : GM} {r9 : (Int32 × GM)} (hsc0 : gsl (xz x0) = L9 ∧ gsx (xz x0) = xs9) (hE : ∀ (x9 : GX) (x7_9 : Int32) (M9 : GM), XR x0 x9 → GC x9 cL_law 16 RL 11 → XB x9 ke → TZ (xz x9) [] → r9 = (x7_9, M9) → WG x9 M9 [(0, .ref (gsa (xz x9))), (1, .int a47), (2, .ref (gad (xz x9) 122)), (3, .ref (gad (xz x9) 0)), (4, .int a48), (5, .long b49), (7, .int x7_9)] 414 []) (hrec : ∀ (x9 : GX) (a50_9 : Int32) (a51_9 : Int32) (M9 : GM), XR x0 x9 → GC x9 cL_law 16 RL 11 → XB x9 kr → TZ (xz x9) [] → rec a50_9 a51_9 M9 = some r9 → WG x9 M9 [(0, .ref (gsa (xz x9))), (1, .int a47), (2, .ref (gad (xz x9) 122)), (3, .ref (gad (xz x9) 0)), (4, .int a48), (5, .long b49), (7, .int a50_9), (8, .int a51_9)] 126 []) (h : bk_L_law_195_126 F L9 xs9 rec a47 a48 b49 a66 a67 M = some r9) : WG x M [(0, .ref (gsa (xz x))), (1, .int a47), (2, .ref (gad (xz x) 122)), (3, .ref (gad (xz x) 0)), (4, .int a48), (5, .long b49), (7, .int a66), (8, .int a67)] 195 [] := by
  unfold bk_L_law_195_126 at h
  have hsc := hx.sc hsc0
  refine g_aload_n X (j := 2) dL_law_195 rfl rfl ?_
  refine gf_L_62 X gT_c122 dL_law_196 ?_
  refine g_iload X (j := 7) dL_law_199 rfl ?_
  obtain ⟨hg68, h⟩ := grd_e h
  refine g_aald_29 X gT_c125 hg68 dL_law_201 ?_
  refine g_topr (fun o69 e70 => ?_)
  have h := bnd_e e70 h
  have k71 : gT o69 = 22 := by rw [e70]; exact gR_29 gT_c125 (gIn_lt hg68)
  refine g_iconst X (v := 2) dL_law_202 (by decide) ?_
  obtain ⟨hg72, h⟩ := grd_e h
  refine g_zald X k71 hg72 dL_law_203 ?_
  rw [tn_2]
  refine g_if_ne X (tgt := 227) dL_law_204 (by decide) (fun hb => ?_) (fun hb => ?_)
  · have h := ite_f hb h
    refine g_lv [0, 1, 2, 3, 4, 5, 6, 7] rfl ?_
    exact bw_L_law_227_126 hx X hk (B.le (by omega)) hz  hsc0 hE hrec h
  · have h := ite_t hb h
    refine g_aload_n X (j := 3) dL_law_207 rfl rfl ?_
    refine g_iload X (j := 7) dL_law_208 rfl ?_
    rcases bndT_e h with ⟨_, hc129, h⟩ | ⟨⟨v130, M131⟩, hc129, h⟩
    · cases h
    refine gc_L_66 X gT_c0 (ct_X10_seenOf X.htr  hc129) (by decide) (Nat.le_of_ble_eq_true rfl) dL_law_210 ?_
    refine g_if_ne X (tgt := 225) dL_law_213 (by decide) (fun hb => ?_) (fun hb => ?_)
    · have h := ite_f hb h
      refine g_iconst X (v := 0) dL_law_225 (by decide) ?_
      cases h
    · have h := ite_t hb h
      refine g_aload_n X (j := 3) dL_law_216 rfl rfl ?_
      refine g_iload X (j := 7) dL_law_217 rfl ?_
      rcases bndT_e h with ⟨_, hc132, h⟩ | ⟨v133, hc132, h⟩
      · cases h
      refine gc_L_69 X gT_c0 (ct_X10_pointsWith X.htr  hc132) (by decide) (Nat.le_of_ble_eq_true rfl) dL_law_219 ?_
      refine g_if_eq X (tgt := 227) dL_law_222 (by decide) (fun hb => ?_) (fun hb => ?_)
      · have h := ite_t hb h
        refine g_lv [0, 1, 2, 3, 4, 5, 6, 7] rfl ?_
        exact bw_L_law_227_126 hx X hk (B.le (by omega)) hz  hsc0 hE hrec h
      · have h := ite_f hb h
        refine g_iconst X (v := 0) dL_law_225 (by decide) ?_
        cases h
def bk_L_law_168_126 (F : Nat) (L9 : Nat) (xs9 : Nat → Int32) (rec : Int32 → Int32 → GM → Option (Int32 × GM)) (a47 : Int32) (a48 : Int32) (b49 : Int64) (a62 : Int32) (a63 : Int32) (a64 : Int32) (a65 : Int32) (M : GM) : Option (Int32 × GM) := if (g_max (0 : Int32) (a64 - (2 : Int32))) < a65 then (none) else (if a65 = 0 then (bndT (f_X10_pointsOf F a63 M) (fun _ => none) (fun (v135, M136) => if v135 = 0 then (bk_L_law_195_126 F L9 xs9 rec a47 a48 b49 a62 a63 M136) else (none))) else (bk_L_law_195_126 F L9 xs9 rec a47 a48 b49 a62 a63 M))
set_option maxHeartbeats 4000000 in
set_option maxRecDepth 100000 in
theorem bw_L_law_168_126 {x0 x : GX} (hx : XR x0 x) (X : GC x cL_law 16 RL 11) {kr ke : Nat} (hk : ke ≤ kr) (B : XB x (0 + kr)) (hz : TZ (xz x) []) {a47 : Int32} {a48 : Int32} {b49 : Int64} {a62 : Int32} {a63 : Int32} {a64 : Int32} {a65 : Int32}   {F : Nat} {L9 : Nat} {xs9 : Nat → Int32} {rec : Int32 → Int32 → GM → Option (Int32 × GM)} {M : GM} {r9 : (Int32 × GM)} (hsc0 : gsl (xz x0) = L9 ∧ gsx (xz x0) = xs9) (hE : ∀ (x9 : GX) (x7_9 : Int32) (M9 : GM), XR x0 x9 → GC x9 cL_law 16 RL 11 → XB x9 ke → TZ (xz x9) [] → r9 = (x7_9, M9) → WG x9 M9 [(0, .ref (gsa (xz x9))), (1, .int a47), (2, .ref (gad (xz x9) 122)), (3, .ref (gad (xz x9) 0)), (4, .int a48), (5, .long b49), (7, .int x7_9)] 414 []) (hrec : ∀ (x9 : GX) (a50_9 : Int32) (a51_9 : Int32) (M9 : GM), XR x0 x9 → GC x9 cL_law 16 RL 11 → XB x9 kr → TZ (xz x9) [] → rec a50_9 a51_9 M9 = some r9 → WG x9 M9 [(0, .ref (gsa (xz x9))), (1, .int a47), (2, .ref (gad (xz x9) 122)), (3, .ref (gad (xz x9) 0)), (4, .int a48), (5, .long b49), (7, .int a50_9), (8, .int a51_9)] 126 []) (h : bk_L_law_168_126 F L9 xs9 rec a47 a48 b49 a62 a63 a64 a65 M = some r9) : WG x M [(0, .ref (gsa (xz x))), (1, .int a47), (2, .ref (gad (xz x) 122)), (3, .ref (gad (xz x) 0)), (4, .int a48), (5, .long b49), (7, .int a62), (8, .int a63), (9, .int a64), (10, .int a65)] 168 [] := by
  unfold bk_L_law_168_126 at h
  have hsc := hx.sc hsc0
  refine g_iload X (j := 9) dL_law_168 rfl ?_
  refine g_iconst X (v := 0) dL_law_170 (by decide) ?_
  refine g_iload X (j := 8) dL_law_171 rfl ?_
  refine g_iconst X (v := 2) dL_law_173 (by decide) ?_
  refine g_isub X dL_law_174 ?_
  refine gm_L_53 X (by decide) (Nat.le_of_ble_eq_true rfl) dL_law_175 ?_
  refine g_icmp_gt X (tgt := 225) dL_law_178 (by decide) (fun hb => ?_) (fun hb => ?_)
  · have h := ite_t hb h
    refine g_iconst X (v := 0) dL_law_225 (by decide) ?_
    cases h
  · have h := ite_f hb h
    refine g_iload X (j := 9) dL_law_181 rfl ?_
    refine g_if_ne X (tgt := 195) dL_law_183 (by decide) (fun hb => ?_) (fun hb => ?_)
    · have h := ite_f hb h
      refine g_lv [0, 1, 2, 3, 4, 5, 6, 7] rfl ?_
      exact bw_L_law_195_126 hx X hk (B.le (by omega)) hz  hsc0 hE hrec h
    · have h := ite_t hb h
      refine g_aload_n X (j := 3) dL_law_186 rfl rfl ?_
      refine g_iload X (j := 7) dL_law_187 rfl ?_
      rcases bndT_e h with ⟨_, hc134, h⟩ | ⟨⟨v135, M136⟩, hc134, h⟩
      · cases h
      refine gc_L_59 X gT_c0 (ct_X10_pointsOf X.htr  hc134) (by decide) (Nat.le_of_ble_eq_true rfl) dL_law_189 ?_
      refine g_if_ne X (tgt := 225) dL_law_192 (by decide) (fun hb => ?_) (fun hb => ?_)
      · have h := ite_f hb h
        refine g_iconst X (v := 0) dL_law_225 (by decide) ?_
        cases h
      · have h := ite_t hb h
        refine g_lv [0, 1, 2, 3, 4, 5, 6, 7] rfl ?_
        exact bw_L_law_195_126 hx X hk (B.le (by omega)) hz  hsc0 hE hrec h
def st_L_law_126 (F : Nat) (L9 : Nat) (xs9 : Nat → Int32) (a47 : Int32) (a48 : Int32) (b49 : Int64) (rec : Int32 → Int32 → GM → Option (Int32 × GM)) (a50 : Int32) (a51 : Int32) (M : GM) : Option (Int32 × GM) := if (gI M 122 4) ≤ a51 then (some (a50, M)) else (bndT (f_X10_polygonOf F a51 M) (fun _ => none) (fun (v53, M54) => bnd v53 (fun v55 => bndT (f_X10_piecesOf F a51 M54) (fun _ => none) (fun (v58, M59) => bnd v58 (fun v60 => if v55 = 0 then (bk_L_law_168_126 F L9 xs9 rec a47 a48 b49 a50 a51 v55 v60 M59) else (if v55 = (3 : Int32) then (bk_L_law_168_126 F L9 xs9 rec a47 a48 b49 a50 a51 v55 v60 M59) else (if v55 = (4 : Int32) then (bk_L_law_168_126 F L9 xs9 rec a47 a48 b49 a50 a51 v55 v60 M59) else (none))))))))
def lp_L_law_126 (F : Nat) (L9 : Nat) (xs9 : Nat → Int32) (a47 : Int32) (a48 : Int32) (b49 : Int64) : Nat → Int32 → Int32 → GM → Option (Int32 × GM)
  | 0 => fun _ _ _ => none
  | f + 1 => fun a50 a51 M => st_L_law_126 F L9 xs9 a47 a48 b49 (lp_L_law_126 F L9 xs9 a47 a48 b49 f) a50 a51 M
set_option maxHeartbeats 4000000 in
set_option maxRecDepth 100000 in
theorem lw_L_law_126 {x0 : GX} {ke : Nat} {a47 : Int32} {a48 : Int32} {b49 : Int64}  {F : Nat} {L9 : Nat} {xs9 : Nat → Int32} {r9 : (Int32 × GM)} (hsc0 : gsl (xz x0) = L9 ∧ gsx (xz x0) = xs9) (hE : ∀ (x9 : GX) (x7_9 : Int32) (M9 : GM), XR x0 x9 → GC x9 cL_law 16 RL 11 → XB x9 ke → TZ (xz x9) [] → r9 = (x7_9, M9) → WG x9 M9 [(0, .ref (gsa (xz x9))), (1, .int a47), (2, .ref (gad (xz x9) 122)), (3, .ref (gad (xz x9) 0)), (4, .int a48), (5, .long b49), (7, .int x7_9)] 414 []) : ∀ (f : Nat) (x : GX) (a50 : Int32) (a51 : Int32) (M : GM), XR x0 x → GC x cL_law 16 RL 11 → XB x (f * 0 + ke) → TZ (xz x) [] → lp_L_law_126 F L9 xs9 a47 a48 b49 f a50 a51 M = some r9 → WG x M [(0, .ref (gsa (xz x))), (1, .int a47), (2, .ref (gad (xz x) 122)), (3, .ref (gad (xz x) 0)), (4, .int a48), (5, .long b49), (7, .int a50), (8, .int a51)] 126 [] := by
  intro f
  induction f with
  | zero => intro x a50 a51 M hx X B hz h; cases h
  | succ f ih =>
    intro x a50 a51 M hx X B hz h
    have hrec := ih
    have h : st_L_law_126 F L9 xs9 a47 a48 b49 (lp_L_law_126 F L9 xs9 a47 a48 b49 f) a50 a51 M = some r9 := h
    generalize lp_L_law_126 F L9 xs9 a47 a48 b49 f = rec at h hrec
    unfold st_L_law_126 at h
    have hsc := hx.sc hsc0
    have hk : ke ≤ f * 0 + ke := Nat.le_add_left _ _
    refine g_iload X (j := 7) dL_law_126 rfl ?_
    refine g_aload_n X (j := 2) dL_law_128 rfl rfl ?_
    refine gf_L_43 X gT_c122 dL_law_129 ?_
    refine g_icmp_ge X (tgt := 414) dL_law_132 (by decide) (fun hb => ?_) (fun hb => ?_)
    · have h := ite_t hb h
      refine g_lv [0, 1, 2, 3, 4, 5, 6] rfl ?_
      exact hE x a50 M hx X (B.le (by omega)) hz (Option.some.inj h).symm
    · have h := ite_f hb h
      refine g_aload_n X (j := 3) dL_law_135 rfl rfl ?_
      refine g_iload X (j := 7) dL_law_136 rfl ?_
      rcases bndT_e h with ⟨_, hc52, h⟩ | ⟨⟨v53, M54⟩, hc52, h⟩
      · cases h
      refine gc_L_47 X gT_c0 (ct_X10_polygonOf X.htr  hc52) (by decide) (Nat.le_of_ble_eq_true rfl) dL_law_138 ?_
      refine g_topi (fun v55 e56 => ?_)
      have h := bnd_e e56 h
      refine g_istore X (lv' := [(9, .int v55), (0, .ref (gsa (xz x))), (1, .int a47), (2, .ref (gad (xz x) 122)), (3, .ref (gad (xz x) 0)), (4, .int a48), (5, .long b49), (7, .int a50), (8, .int a51)]) dL_law_141 (by decide) rfl ?_
      refine g_aload_n X (j := 4) dL_law_143 rfl rfl ?_
      refine g_iload X (j := 8) dL_law_144 rfl ?_
      rcases bndT_e h with ⟨_, hc57, h⟩ | ⟨⟨v58, M59⟩, hc57, h⟩
      · cases h
      refine gc_L_50 X gT_c0 (ct_X10_piecesOf X.htr  hc57) (by decide) (Nat.le_of_ble_eq_true rfl) dL_law_146 ?_
      refine g_topi (fun v60 e61 => ?_)
      have h := bnd_e e61 h
      refine g_istore X (lv' := [(10, .int v60), (9, .int v55), (0, .ref (gsa (xz x))), (1, .int a47), (2, .ref (gad (xz x) 122)), (3, .ref (gad (xz x) 0)), (4, .int a48), (5, .long b49), (7, .int a50), (8, .int a51)]) dL_law_149 (by decide) rfl ?_
      refine g_iload X (j := 1) dL_law_151 rfl ?_
      refine g_if_eq X (tgt := 168) dL_law_153 (by decide) (fun hb => ?_) (fun hb => ?_)
      · have h := ite_t hb h
        refine g_lv [2, 3, 4, 5, 6, 7, 8, 9, 1, 0] rfl ?_
        exact bw_L_law_168_126 hx X hk (B.le (by omega)) hz  hsc0 hE hrec h
      · have h := ite_f hb h
        refine g_iload X (j := 1) dL_law_156 rfl ?_
        refine g_iconst X (v := 3) dL_law_158 (by decide) ?_
        refine g_icmp_eq X (tgt := 168) dL_law_159 (by decide) (fun hb => ?_) (fun hb => ?_)
        · have h := ite_t hb h
          refine g_lv [2, 3, 4, 5, 6, 7, 8, 9, 1, 0] rfl ?_
          exact bw_L_law_168_126 hx X hk (B.le (by omega)) hz  hsc0 hE hrec h
        · have h := ite_f hb h
          refine g_iload X (j := 1) dL_law_162 rfl ?_
          refine g_iconst X (v := 4) dL_law_164 (by decide) ?_
          refine g_icmp_ne X (tgt := 225) dL_law_165 (by decide) (fun hb => ?_) (fun hb => ?_)
          · have h := ite_f hb h
            refine g_iconst X (v := 0) dL_law_225 (by decide) ?_
            cases h
          · have h := ite_t hb h
            refine g_lv [2, 3, 4, 5, 6, 7, 8, 9, 1, 0] rfl ?_
            exact bw_L_law_168_126 hx X hk (B.le (by omega)) hz  hsc0 hE hrec h
def bk_L_law_456_420 (F : Nat) (L9 : Nat) (xs9 : Nat → Int32) (rec : Int32 → Int32 → GM → Option (Int32 × GM)) (a144 : Int32) (a145 : Int32) (b146 : Int64) (a147 : Int32) (a154 : Int32) (a155 : Int32) (a156 : Int32) (a157 : Int32) (M : GM) : Option (Int32 × GM) := bnd (a157 + a156) (fun v158 => if 0 ≤ a155 then (grd (gIn a155 (gN 125)) (bnd (gR 125 a155.toNatClampNeg) (fun o161 => grd (gIn (2 : Int32) (gN o161)) (if (gI M o161 2) = 0 then (none) else (grd (gIn a155 (gN 125)) (bnd (gR 125 a155.toNatClampNeg) (fun o166 => grd (gIn (0 : Int32) (gN o166)) (if (gI M o166 0) = 0 then (bndT (f_X10_liesIn F a155 (a154 - a154 / (40 : Int32) * (40 : Int32)) (a154 / (40 : Int32)) M) (fun _ => none) (fun (v171, M172) => if v171 = 0 then (none) else (bnd (a154 + (1 : Int32)) (fun v173 => rec v158 v173 M172)))) else (none))))))))) else (bndT (f_X10_depthAt F (a154 - a154 / (40 : Int32) * (40 : Int32)) (a154 / (40 : Int32)) M) (fun _ => none) (fun v176 => if v176 = (65535 : Int32) then (bnd (a154 + (1 : Int32)) (fun v177 => rec v158 v177 M)) else (none))))
set_option maxHeartbeats 4000000 in
set_option maxRecDepth 100000 in
theorem bw_L_law_456_420 {x0 x : GX} (hx : XR x0 x) (X : GC x cL_law 16 RL 11) {kr ke : Nat} (hk : ke ≤ kr) (B : XB x (0 + kr)) (hz : TZ (xz x) []) {a144 : Int32} {a145 : Int32} {b146 : Int64} {a147 : Int32} {a154 : Int32} {a155 : Int32} {a156 : Int32} {a157 : Int32}   {F : Nat} {L9 : Nat} {xs9 : Nat → Int32} {rec : Int32 → Int32 → GM → Option (Int32 × GM)} {M : GM} {r9 : (Int32 × GM)} (hsc0 : gsl (xz x0) = L9 ∧ gsx (xz x0) = xs9) (hE : ∀ (x9 : GX) (x8_9 : Int32) (M9 : GM), XR x0 x9 → GC x9 cL_law 16 RL 11 → XB x9 ke → TZ (xz x9) [] → r9 = (x8_9, M9) → WG x9 M9 [(0, .ref (gsa (xz x9))), (1, .int a144), (2, .ref (gad (xz x9) 122)), (3, .ref (gad (xz x9) 0)), (4, .int a145), (5, .long b146), (7, .int a147), (8, .int x8_9)] 537 []) (hrec : ∀ (x9 : GX) (a148_9 : Int32) (a149_9 : Int32) (M9 : GM), XR x0 x9 → GC x9 cL_law 16 RL 11 → XB x9 kr → TZ (xz x9) [] → rec a148_9 a149_9 M9 = some r9 → WG x9 M9 [(0, .ref (gsa (xz x9))), (1, .int a144), (2, .ref (gad (xz x9) 122)), (3, .ref (gad (xz x9) 0)), (4, .int a145), (5, .long b146), (7, .int a147), (8, .int a148_9), (9, .int a149_9)] 420 []) (h : bk_L_law_456_420 F L9 xs9 rec a144 a145 b146 a147 a154 a155 a156 a157 M = some r9) : WG x M [(0, .ref (gsa (xz x))), (1, .int a144), (2, .ref (gad (xz x) 122)), (3, .ref (gad (xz x) 0)), (4, .int a145), (5, .long b146), (7, .int a147), (9, .int a154), (10, .int a155)] 456 [.int a156, .int a157] := by
  unfold bk_L_law_456_420 at h
  have hsc := hx.sc hsc0
  refine g_iadd X dL_law_456 ?_
  refine g_topi (fun v158 e159 => ?_)
  have h := bnd_e e159 h
  refine g_istore X (lv' := [(8, .int v158), (0, .ref (gsa (xz x))), (1, .int a144), (2, .ref (gad (xz x) 122)), (3, .ref (gad (xz x) 0)), (4, .int a145), (5, .long b146), (7, .int a147), (9, .int a154), (10, .int a155)]) dL_law_457 (by decide) rfl ?_
  refine g_iload X (j := 9) dL_law_459 rfl ?_
  refine g_if_ge X (tgt := 486) dL_law_461 (by decide) (fun hb => ?_) (fun hb => ?_)
  · have h := ite_t hb h
    refine g_aload_n X (j := 3) dL_law_486 rfl rfl ?_
    refine gf_L_62 X gT_c122 dL_law_487 ?_
    refine g_iload X (j := 9) dL_law_490 rfl ?_
    obtain ⟨hg160, h⟩ := grd_e h
    refine g_aald_29 X gT_c125 hg160 dL_law_492 ?_
    refine g_topr (fun o161 e162 => ?_)
    have h := bnd_e e162 h
    have k163 : gT o161 = 22 := by rw [e162]; exact gR_29 gT_c125 (gIn_lt hg160)
    refine g_iconst X (v := 2) dL_law_493 (by decide) ?_
    obtain ⟨hg164, h⟩ := grd_e h
    refine g_zald X k163 hg164 dL_law_494 ?_
    rw [tn_2]
    refine g_if_eq X (tgt := 529) dL_law_495 (by decide) (fun hb => ?_) (fun hb => ?_)
    · have h := ite_t hb h
      refine g_iconst X (v := 0) dL_law_529 (by decide) ?_
      cases h
    · have h := ite_f hb h
      refine g_aload_n X (j := 3) dL_law_498 rfl rfl ?_
      refine gf_L_62 X gT_c122 dL_law_499 ?_
      refine g_iload X (j := 9) dL_law_502 rfl ?_
      obtain ⟨hg165, h⟩ := grd_e h
      refine g_aald_29 X gT_c125 hg165 dL_law_504 ?_
      refine g_topr (fun o166 e167 => ?_)
      have h := bnd_e e167 h
      have k168 : gT o166 = 22 := by rw [e167]; exact gR_29 gT_c125 (gIn_lt hg165)
      refine g_iconst X (v := 0) dL_law_505 (by decide) ?_
      obtain ⟨hg169, h⟩ := grd_e h
      refine g_zald X k168 hg169 dL_law_506 ?_
      rw [tn_0]
      refine g_if_ne X (tgt := 529) dL_law_507 (by decide) (fun hb => ?_) (fun hb => ?_)
      · have h := ite_f hb h
        refine g_iconst X (v := 0) dL_law_529 (by decide) ?_
        cases h
      · have h := ite_t hb h
        refine g_aload_n X (j := 4) dL_law_510 rfl rfl ?_
        refine g_iload X (j := 9) dL_law_511 rfl ?_
        refine g_iload X (j := 8) dL_law_513 rfl ?_
        refine g_bipush X (v := 40) dL_law_515 (by decide) ?_
        refine g_irem X dL_law_517 (by decide) ?_
        refine g_iload X (j := 8) dL_law_518 rfl ?_
        refine g_bipush X (v := 40) dL_law_520 (by decide) ?_
        refine g_idiv X dL_law_522 (by decide) ?_
        rcases bndT_e h with ⟨_, hc170, h⟩ | ⟨⟨v171, M172⟩, hc170, h⟩
        · cases h
        refine gc_L_72 X gT_c0 (ct_X10_liesIn X.htr  hc170) (by decide) (Nat.le_of_ble_eq_true rfl) dL_law_523 ?_
        refine g_if_ne X (tgt := 531) dL_law_526 (by decide) (fun hb => ?_) (fun hb => ?_)
        · have h := ite_f hb h
          refine g_iinc X (j := 8) (w := a154 + (1 : Int32)) (lv' := [(8, .int v158), (0, .ref (gsa (xz x))), (1, .int a144), (2, .ref (gad (xz x) 122)), (3, .ref (gad (xz x) 0)), (4, .int a145), (5, .long b146), (7, .int a147), (10, .int a155)]) dL_law_531 rfl (by rw [ii_1]) (by decide) (fun _ => rfl) (fun v173 e174 => ?_)
          have h := bnd_e e174 h
          refine g_goto X (tgt := 420) dL_law_534 (by decide) ?_
          refine g_lv [2, 3, 4, 5, 6, 7, 8, 1, 0] rfl ?_
          exact hrec x v158 v173 M172 hx X (B.le (by omega)) hz h
        · have h := ite_t hb h
          refine g_iconst X (v := 0) dL_law_529 (by decide) ?_
          cases h
  · have h := ite_f hb h
    refine g_aload_n X (j := 4) dL_law_464 rfl rfl ?_
    refine g_iload X (j := 8) dL_law_465 rfl ?_
    refine g_bipush X (v := 40) dL_law_467 (by decide) ?_
    refine g_irem X dL_law_469 (by decide) ?_
    refine g_iload X (j := 8) dL_law_470 rfl ?_
    refine g_bipush X (v := 40) dL_law_472 (by decide) ?_
    refine g_idiv X dL_law_474 (by decide) ?_
    rcases bndT_e h with ⟨_, hc175, h⟩ | ⟨v176, hc175, h⟩
    · cases h
    refine gc_L_88 X gT_c0 (ct_X10_depthAt X.htr  hc175) (by decide) (Nat.le_of_ble_eq_true rfl) dL_law_475 ?_
    refine g_ldc X q_1021 dL_law_478 ?_
    refine g_icmp_eq X (tgt := 531) dL_law_480 (by decide) (fun hb => ?_) (fun hb => ?_)
    · have h := ite_t hb h
      refine g_iinc X (j := 8) (w := a154 + (1 : Int32)) (lv' := [(8, .int v158), (0, .ref (gsa (xz x))), (1, .int a144), (2, .ref (gad (xz x) 122)), (3, .ref (gad (xz x) 0)), (4, .int a145), (5, .long b146), (7, .int a147), (10, .int a155)]) dL_law_531 rfl (by rw [ii_1]) (by decide) (fun _ => rfl) (fun v177 e178 => ?_)
      have h := bnd_e e178 h
      refine g_goto X (tgt := 420) dL_law_534 (by decide) ?_
      refine g_lv [2, 3, 4, 5, 6, 7, 8, 1, 0] rfl ?_
      exact hrec x v158 v177 M hx X (B.le (by omega)) hz h
    · have h := ite_f hb h
      refine g_goto X (tgt := 529) dL_law_483 (by decide) ?_
      refine g_iconst X (v := 0) dL_law_529 (by decide) ?_
      cases h
def st_L_law_420 (F : Nat) (L9 : Nat) (xs9 : Nat → Int32) (a144 : Int32) (a145 : Int32) (b146 : Int64) (a147 : Int32) (rec : Int32 → Int32 → GM → Option (Int32 × GM)) (a148 : Int32) (a149 : Int32) (M : GM) : Option (Int32 × GM) := if (960 : Int32) ≤ a149 then (some (a148, M)) else (bndT (f_X10_paneAt F (a149 - a149 / (40 : Int32) * (40 : Int32)) (a149 / (40 : Int32)) M) (fun _ => none) (fun v151 => bnd v151 (fun v152 => if 0 ≤ v152 then (bk_L_law_456_420 F L9 xs9 rec a144 a145 b146 a147 a149 v152 (0 : Int32) a148 M) else (bk_L_law_456_420 F L9 xs9 rec a144 a145 b146 a147 a149 v152 (1 : Int32) a148 M))))
def lp_L_law_420 (F : Nat) (L9 : Nat) (xs9 : Nat → Int32) (a144 : Int32) (a145 : Int32) (b146 : Int64) (a147 : Int32) : Nat → Int32 → Int32 → GM → Option (Int32 × GM)
  | 0 => fun _ _ _ => none
  | f + 1 => fun a148 a149 M => st_L_law_420 F L9 xs9 a144 a145 b146 a147 (lp_L_law_420 F L9 xs9 a144 a145 b146 a147 f) a148 a149 M
set_option maxHeartbeats 4000000 in
set_option maxRecDepth 100000 in
theorem lw_L_law_420 {x0 : GX} {ke : Nat} {a144 : Int32} {a145 : Int32} {b146 : Int64} {a147 : Int32}  {F : Nat} {L9 : Nat} {xs9 : Nat → Int32} {r9 : (Int32 × GM)} (hsc0 : gsl (xz x0) = L9 ∧ gsx (xz x0) = xs9) (hE : ∀ (x9 : GX) (x8_9 : Int32) (M9 : GM), XR x0 x9 → GC x9 cL_law 16 RL 11 → XB x9 ke → TZ (xz x9) [] → r9 = (x8_9, M9) → WG x9 M9 [(0, .ref (gsa (xz x9))), (1, .int a144), (2, .ref (gad (xz x9) 122)), (3, .ref (gad (xz x9) 0)), (4, .int a145), (5, .long b146), (7, .int a147), (8, .int x8_9)] 537 []) : ∀ (f : Nat) (x : GX) (a148 : Int32) (a149 : Int32) (M : GM), XR x0 x → GC x cL_law 16 RL 11 → XB x (f * 0 + ke) → TZ (xz x) [] → lp_L_law_420 F L9 xs9 a144 a145 b146 a147 f a148 a149 M = some r9 → WG x M [(0, .ref (gsa (xz x))), (1, .int a144), (2, .ref (gad (xz x) 122)), (3, .ref (gad (xz x) 0)), (4, .int a145), (5, .long b146), (7, .int a147), (8, .int a148), (9, .int a149)] 420 [] := by
  intro f
  induction f with
  | zero => intro x a148 a149 M hx X B hz h; cases h
  | succ f ih =>
    intro x a148 a149 M hx X B hz h
    have hrec := ih
    have h : st_L_law_420 F L9 xs9 a144 a145 b146 a147 (lp_L_law_420 F L9 xs9 a144 a145 b146 a147 f) a148 a149 M = some r9 := h
    generalize lp_L_law_420 F L9 xs9 a144 a145 b146 a147 f = rec at h hrec
    unfold st_L_law_420 at h
    have hsc := hx.sc hsc0
    have hk : ke ≤ f * 0 + ke := Nat.le_add_left _ _
    refine g_iload X (j := 8) dL_law_420 rfl ?_
    refine g_sipush X (v := 960) dL_law_422 (by decide) ?_
    refine g_icmp_ge X (tgt := 537) dL_law_425 (by decide) (fun hb => ?_) (fun hb => ?_)
    · have h := ite_t hb h
      refine g_lv [0, 1, 2, 3, 4, 5, 6, 7] rfl ?_
      exact hE x a148 M hx X (B.le (by omega)) hz (Option.some.inj h).symm
    · have h := ite_f hb h
      refine g_aload_n X (j := 3) dL_law_428 rfl rfl ?_
      refine g_iload X (j := 8) dL_law_429 rfl ?_
      refine g_bipush X (v := 40) dL_law_431 (by decide) ?_
      refine g_irem X dL_law_433 (by decide) ?_
      refine g_iload X (j := 8) dL_law_434 rfl ?_
      refine g_bipush X (v := 40) dL_law_436 (by decide) ?_
      refine g_idiv X dL_law_438 (by decide) ?_
      rcases bndT_e h with ⟨_, hc150, h⟩ | ⟨v151, hc150, h⟩
      · cases h
      refine gc_L_85 X gT_c0 (ct_X10_paneAt X.htr  hc150) (by decide) (Nat.le_of_ble_eq_true rfl) dL_law_439 ?_
      refine g_topi (fun v152 e153 => ?_)
      have h := bnd_e e153 h
      refine g_istore X (lv' := [(10, .int v152), (0, .ref (gsa (xz x))), (1, .int a144), (2, .ref (gad (xz x) 122)), (3, .ref (gad (xz x) 0)), (4, .int a145), (5, .long b146), (7, .int a147), (8, .int a148), (9, .int a149)]) dL_law_442 (by decide) rfl ?_
      refine g_iload X (j := 8) dL_law_444 rfl ?_
      refine g_iload X (j := 0) dL_law_446 rfl ?_
      refine g_if_ge X (tgt := 455) dL_law_448 (by decide) (fun hb => ?_) (fun hb => ?_)
      · have h := ite_t hb h
        refine g_iconst X (v := 0) dL_law_455 (by decide) ?_
        refine g_lv [1, 2, 3, 4, 5, 6, 7, 9, 0] rfl ?_
        exact bw_L_law_456_420 hx X hk (B.le (by omega)) hz  hsc0 hE hrec h
      · have h := ite_f hb h
        refine g_iconst X (v := 1) dL_law_451 (by decide) ?_
        refine g_goto X (tgt := 456) dL_law_452 (by decide) ?_
        refine g_lv [1, 2, 3, 4, 5, 6, 7, 9, 0] rfl ?_
        exact bw_L_law_456_420 hx X hk (B.le (by omega)) hz  hsc0 hE hrec h
def st_L_law_692 (F : Nat) (L9 : Nat) (xs9 : Nat → Int32) (a231 : Int32) (a232 : Int32) (b233 : Int64) (rec : Int32 → GM → Option GM) (a234 : Int32) (M : GM) : Option GM := if (gI M 122 4) ≤ a234 then (some M) else (bndT (f_X10_show F a234 (0 : Int32) M) (fun _ => none) (fun (v236, M237) => bnd (a234 + (1 : Int32)) (fun v238 => rec v238 M237)))
def lp_L_law_692 (F : Nat) (L9 : Nat) (xs9 : Nat → Int32) (a231 : Int32) (a232 : Int32) (b233 : Int64) : Nat → Int32 → GM → Option GM
  | 0 => fun _ _ => none
  | f + 1 => fun a234 M => st_L_law_692 F L9 xs9 a231 a232 b233 (lp_L_law_692 F L9 xs9 a231 a232 b233 f) a234 M
set_option maxHeartbeats 4000000 in
set_option maxRecDepth 100000 in
theorem lw_L_law_692 {x0 : GX} {ke : Nat} {a231 : Int32} {a232 : Int32} {b233 : Int64}  {F : Nat} {L9 : Nat} {xs9 : Nat → Int32} {r9 : GM} (hsc0 : gsl (xz x0) = L9 ∧ gsx (xz x0) = xs9) (hE : ∀ (x9 : GX)  (M9 : GM), XR x0 x9 → GC x9 cL_law 16 RL 11 → XB x9 ke → TZ (xz x9) [] → r9 = M9 → WG x9 M9 [(0, .ref (gsa (xz x9))), (1, .int a231), (2, .ref (gad (xz x9) 122)), (3, .ref (gad (xz x9) 0)), (4, .int a232), (5, .long b233)] 715 []) : ∀ (f : Nat) (x : GX) (a234 : Int32) (M : GM), XR x0 x → GC x cL_law 16 RL 11 → XB x (f * 0 + ke) → TZ (xz x) [] → lp_L_law_692 F L9 xs9 a231 a232 b233 f a234 M = some r9 → WG x M [(0, .ref (gsa (xz x))), (1, .int a231), (2, .ref (gad (xz x) 122)), (3, .ref (gad (xz x) 0)), (4, .int a232), (5, .long b233), (11, .int a234)] 692 [] := by
  intro f
  induction f with
  | zero => intro x a234 M hx X B hz h; cases h
  | succ f ih =>
    intro x a234 M hx X B hz h
    have hrec := ih
    have h : st_L_law_692 F L9 xs9 a231 a232 b233 (lp_L_law_692 F L9 xs9 a231 a232 b233 f) a234 M = some r9 := h
    generalize lp_L_law_692 F L9 xs9 a231 a232 b233 f = rec at h hrec
    unfold st_L_law_692 at h
    have hsc := hx.sc hsc0
    have hk : ke ≤ f * 0 + ke := Nat.le_add_left _ _
    refine g_iload X (j := 6) dL_law_692 rfl ?_
    refine g_aload_n X (j := 2) dL_law_694 rfl rfl ?_
    refine gf_L_43 X gT_c122 dL_law_695 ?_
    refine g_icmp_ge X (tgt := 715) dL_law_698 (by decide) (fun hb => ?_) (fun hb => ?_)
    · have h := ite_t hb h
      refine g_lv [0, 1, 2, 3, 4, 5] rfl ?_
      exact hE x M hx X (B.le (by omega)) hz (Option.some.inj h).symm
    · have h := ite_f hb h
      refine g_aload_n X (j := 3) dL_law_701 rfl rfl ?_
      refine g_iload X (j := 6) dL_law_702 rfl ?_
      refine g_iconst X (v := 0) dL_law_704 (by decide) ?_
      rcases bndT_e h with ⟨_, hc235, h⟩ | ⟨⟨v236, M237⟩, hc235, h⟩
      · cases h
      refine gc_L_106 X gT_c0 (ct_X10_show X.htr  hc235) (by decide) (Nat.le_of_ble_eq_true rfl) dL_law_705 ?_
      refine g_pop X dL_law_708 rfl ?_
      refine g_iinc X (j := 6) (w := a234 + (1 : Int32)) (lv' := [(0, .ref (gsa (xz x))), (1, .int a231), (2, .ref (gad (xz x) 122)), (3, .ref (gad (xz x) 0)), (4, .int a232), (5, .long b233)]) dL_law_709 rfl (by rw [ii_1]) (by decide) (fun _ => rfl) (fun v238 e239 => ?_)
      have h := bnd_e e239 h
      refine g_goto X (tgt := 692) dL_law_712 (by decide) ?_
      refine g_lv [1, 2, 3, 4, 5, 6, 0] rfl ?_
      exact hrec x v238 M237 hx X (B.le (by omega)) hz h
def st_L_law_756 (F : Nat) (L9 : Nat) (xs9 : Nat → Int32) (a255 : Int32) (a256 : Int32) (b257 : Int64) (rec : Int32 → GM → Option GM) (a258 : Int32) (M : GM) : Option GM := if (gI M 122 4) ≤ a258 then (some M) else (grd (gIn a258 (gN 125)) (bnd (gR 125 a258.toNatClampNeg) (fun o260 => grd (gIn (2 : Int32) (gN o260)) (bndT (f_X10_show F a258 (gI M o260 2) M) (fun _ => none) (fun (v265, M266) => bnd (a258 + (1 : Int32)) (fun v267 => rec v267 M266))))))
def lp_L_law_756 (F : Nat) (L9 : Nat) (xs9 : Nat → Int32) (a255 : Int32) (a256 : Int32) (b257 : Int64) : Nat → Int32 → GM → Option GM
  | 0 => fun _ _ => none
  | f + 1 => fun a258 M => st_L_law_756 F L9 xs9 a255 a256 b257 (lp_L_law_756 F L9 xs9 a255 a256 b257 f) a258 M
set_option maxHeartbeats 4000000 in
set_option maxRecDepth 100000 in
theorem lw_L_law_756 {x0 : GX} {ke : Nat} {a255 : Int32} {a256 : Int32} {b257 : Int64}  {F : Nat} {L9 : Nat} {xs9 : Nat → Int32} {r9 : GM} (hsc0 : gsl (xz x0) = L9 ∧ gsx (xz x0) = xs9) (hE : ∀ (x9 : GX)  (M9 : GM), XR x0 x9 → GC x9 cL_law 16 RL 11 → XB x9 ke → TZ (xz x9) [] → r9 = M9 → WG x9 M9 [(0, .ref (gsa (xz x9))), (1, .int a255), (2, .ref (gad (xz x9) 122)), (3, .ref (gad (xz x9) 0)), (4, .int a256), (5, .long b257)] 787 []) : ∀ (f : Nat) (x : GX) (a258 : Int32) (M : GM), XR x0 x → GC x cL_law 16 RL 11 → XB x (f * 0 + ke) → TZ (xz x) [] → lp_L_law_756 F L9 xs9 a255 a256 b257 f a258 M = some r9 → WG x M [(0, .ref (gsa (xz x))), (1, .int a255), (2, .ref (gad (xz x) 122)), (3, .ref (gad (xz x) 0)), (4, .int a256), (5, .long b257), (11, .int a258)] 756 [] := by
  intro f
  induction f with
  | zero => intro x a258 M hx X B hz h; cases h
  | succ f ih =>
    intro x a258 M hx X B hz h
    have hrec := ih
    have h : st_L_law_756 F L9 xs9 a255 a256 b257 (lp_L_law_756 F L9 xs9 a255 a256 b257 f) a258 M = some r9 := h
    generalize lp_L_law_756 F L9 xs9 a255 a256 b257 f = rec at h hrec
    unfold st_L_law_756 at h
    have hsc := hx.sc hsc0
    have hk : ke ≤ f * 0 + ke := Nat.le_add_left _ _
    refine g_iload X (j := 6) dL_law_756 rfl ?_
    refine g_aload_n X (j := 2) dL_law_758 rfl rfl ?_
    refine gf_L_43 X gT_c122 dL_law_759 ?_
    refine g_icmp_ge X (tgt := 787) dL_law_762 (by decide) (fun hb => ?_) (fun hb => ?_)
    · have h := ite_t hb h
      refine g_lv [0, 1, 2, 3, 4, 5] rfl ?_
      exact hE x M hx X (B.le (by omega)) hz (Option.some.inj h).symm
    · have h := ite_f hb h
      refine g_aload_n X (j := 3) dL_law_765 rfl rfl ?_
      refine g_iload X (j := 6) dL_law_766 rfl ?_
      refine g_aload_n X (j := 2) dL_law_768 rfl rfl ?_
      refine gf_L_62 X gT_c122 dL_law_769 ?_
      refine g_iload X (j := 6) dL_law_772 rfl ?_
      obtain ⟨hg259, h⟩ := grd_e h
      refine g_aald_29 X gT_c125 hg259 dL_law_774 ?_
      refine g_topr (fun o260 e261 => ?_)
      have h := bnd_e e261 h
      have k262 : gT o260 = 22 := by rw [e261]; exact gR_29 gT_c125 (gIn_lt hg259)
      refine g_iconst X (v := 2) dL_law_775 (by decide) ?_
      obtain ⟨hg263, h⟩ := grd_e h
      refine g_zald X k262 hg263 dL_law_776 ?_
      rw [tn_2]
      rcases bndT_e h with ⟨_, hc264, h⟩ | ⟨⟨v265, M266⟩, hc264, h⟩
      · cases h
      refine gc_L_106 X gT_c0 (ct_X10_show X.htr  hc264) (by decide) (Nat.le_of_ble_eq_true rfl) dL_law_777 ?_
      refine g_pop X dL_law_780 rfl ?_
      refine g_iinc X (j := 6) (w := a258 + (1 : Int32)) (lv' := [(0, .ref (gsa (xz x))), (1, .int a255), (2, .ref (gad (xz x) 122)), (3, .ref (gad (xz x) 0)), (4, .int a256), (5, .long b257)]) dL_law_781 rfl (by rw [ii_1]) (by decide) (fun _ => rfl) (fun v267 e268 => ?_)
      have h := bnd_e e268 h
      refine g_goto X (tgt := 756) dL_law_784 (by decide) ?_
      refine g_lv [1, 2, 3, 4, 5, 6, 0] rfl ?_
      exact hrec x v267 M266 hx X (B.le (by omega)) hz h
def bk_L_law_573_56 (F : Nat) (L9 : Nat) (xs9 : Nat → Int32) (rec : Int32 → GM → Option GM) (a12 : Int32) (a189 : Int32) (b190 : Int64) (a191 : Int32) (a192 : Int32) (M : GM) : Option GM := if a192 = a191 then (bndT (f_X10_digest F M) (fun _ => none) (fun (w194, M195) => if (lg_cmp w194 b190) = 0 then (bndO (f_X11_draw F L9 xs9 (gI M195 122 3) M195) (fun (v197, M198) => bnd v197 (fun v199 => grd (gIn v199 (gN 123)) (bnd (gR 123 v199.toNatClampNeg) (fun o202 => bndO (f_X11_draw F L9 xs9 (900 : Int32) M198) (fun (v206, M207) => bndO (f_X11_draw F L9 xs9 (700 : Int32) M207) (fun (v209, M210) => bndO (f_X11_draw F L9 xs9 (900 : Int32) M210) (fun (v212, M213) => bndT (f_X10_moveCorner F v199 (v206 - (450 : Int32)) (v209 - (350 : Int32)) (v212 - (300 : Int32)) M213) (fun _ => none) (fun (v215, M216) => if v215 < 0 then (none) else (grd (gIn (0 : Int32) (gN o202)) (grd (gIn (1 : Int32) (gN o202)) (grd (gIn (2 : Int32) (gN o202)) (bndT (f_X10_moveCorner F v199 (gI M216 o202 0) (gI M216 o202 1) (gI M216 o202 2) M216) (fun _ => none) (fun (v221, M222) => if v221 < 0 then (none) else (bndO (f_X10_stale F M222) (fun (v224, M225) => if v224 = 0 then (bndT (f_X10_digest F M225) (fun _ => none) (fun (w227, M228) => if (lg_cmp w227 b190) = 0 then (bnd (0 : Int32) (fun v229 => bndO (lp_L_law_692 F L9 xs9 a12 a189 b190 F v229 M228) (fun M240 => bndO (f_X10_paint F M240) (fun (v243, M244) => bndO (f_X10_colours F M244) (fun (v246, M247) => if v246 = (1 : Int32) then (bndT (f_X10_colourAt F a189 a189 M247) (fun _ => none) (fun v249 => if v249 = (gI M247 122 13) then (bndO (f_X10_greatest F M247) (fun (v251, M252) => if v251 = ((-1) : Int32) then (bnd (0 : Int32) (fun v253 => bndO (lp_L_law_756 F L9 xs9 a12 a189 b190 F v253 M252) (fun M269 => bndO (f_X10_paint F M269) (fun (v272, M273) => bndT (f_X10_digest F M273) (fun _ => none) (fun (w275, M276) => if (lg_cmp w275 b190) = 0 then (bnd (a189 + (1 : Int32)) (fun v277 => rec v277 M276)) else (none)))))) else (none))) else (none))) else (none)))))) else (none))) else (none))))))))))))))))) else (none))) else (none)
set_option maxHeartbeats 4000000 in
set_option maxRecDepth 100000 in
theorem bw_L_law_573_56 {x0 x : GX} (hx : XR x0 x) (X : GC x cL_law 16 RL 11) {kr ke : Nat} (hk : ke ≤ kr) (B : XB x (0 + kr)) (hz : TZ (xz x) []) {a12 : Int32} {a189 : Int32} {b190 : Int64} {a191 : Int32} {a192 : Int32}   {F : Nat} {L9 : Nat} {xs9 : Nat → Int32} {rec : Int32 → GM → Option GM} {M : GM} {r9 : GM} (hsc0 : gsl (xz x0) = L9 ∧ gsx (xz x0) = xs9) (hE : ∀ (x9 : GX)  (M9 : GM), XR x0 x9 → GC x9 cL_law 16 RL 11 → XB x9 ke → TZ (xz x9) [] → r9 = M9 → WG x9 M9 [(0, .ref (gsa (xz x9))), (1, .int a12)] 810 []) (hrec : ∀ (x9 : GX) (a13_9 : Int32) (M9 : GM), XR x0 x9 → GC x9 cL_law 16 RL 11 → XB x9 kr → TZ (xz x9) [] → rec a13_9 M9 = some r9 → WG x9 M9 [(0, .ref (gsa (xz x9))), (1, .int a12), (2, .ref (gad (xz x9) 122)), (3, .ref (gad (xz x9) 0)), (4, .int a13_9)] 56 []) (h : bk_L_law_573_56 F L9 xs9 rec a12 a189 b190 a191 a192 M = some r9) : WG x M [(0, .ref (gsa (xz x))), (1, .int a12), (2, .ref (gad (xz x) 122)), (3, .ref (gad (xz x) 0)), (4, .int a189), (5, .long b190)] 573 [.int a191, .int a192] := by
  unfold bk_L_law_573_56 at h
  have hsc := hx.sc hsc0
  refine g_icmp_ne X (tgt := 586) dL_law_573 (by decide) (fun hb => ?_) (fun hb => ?_)
  · have h := ite_f hb h
    refine g_iconst X (v := 0) dL_law_586 (by decide) ?_
    cases h
  · have h := ite_t hb h
    refine g_aload_n X (j := 3) dL_law_576 rfl rfl ?_
    rcases bndT_e h with ⟨_, hc193, h⟩ | ⟨⟨w194, M195⟩, hc193, h⟩
    · cases h
    refine gc_L_39 X gT_c0 (ct_X10_digest X.htr  hc193) (by decide) (Nat.le_of_ble_eq_true rfl) dL_law_577 ?_
    refine g_lload X (j := 5) dL_law_580 rfl ?_
    refine g_lcmp X dL_law_582 ?_
    refine g_if_eq X (tgt := 588) dL_law_583 (by decide) (fun hb => ?_) (fun hb => ?_)
    · have h := ite_t hb h
      refine g_aload_n X (j := 2) dL_law_588 rfl rfl ?_
      refine g_aload_n X (j := 2) dL_law_589 rfl rfl ?_
      refine gf_L_95 X gT_c122 dL_law_590 ?_
      obtain ⟨⟨v197, M198⟩, hc196, h⟩ := bndO_e h
      refine gc_L_18 X gT_c122 (ct_X11_draw X.htr hsc hc196) (by decide) (Nat.le_of_ble_eq_true rfl) dL_law_593 ?_
      refine g_topi (fun v199 e200 => ?_)
      have h := bnd_e e200 h
      refine g_istore X (lv' := [(9, .int v199), (0, .ref (gsa (xz x))), (1, .int a12), (2, .ref (gad (xz x) 122)), (3, .ref (gad (xz x) 0)), (4, .int a189), (5, .long b190)]) dL_law_596 (by decide) rfl ?_
      refine g_aload_n X (j := 3) dL_law_598 rfl rfl ?_
      refine gf_L_98 X gT_c122 dL_law_599 ?_
      refine g_iload X (j := 0) dL_law_602 rfl ?_
      obtain ⟨hg201, h⟩ := grd_e h
      refine g_aald_28 X gT_c123 hg201 dL_law_604 ?_
      refine g_topr (fun o202 e203 => ?_)
      have h := bnd_e e203 h
      have k204 : gT o202 = 20 := by rw [e203]; exact gR_28 gT_c123 (gIn_lt hg201)
      refine g_astore X (lv' := [(10, .ref (gad (xz x) o202)), (9, .int v199), (0, .ref (gsa (xz x))), (1, .int a12), (2, .ref (gad (xz x) 122)), (3, .ref (gad (xz x) 0)), (4, .int a189), (5, .long b190)]) dL_law_605 (by decide) rfl ?_
      refine g_aload_n X (j := 5) dL_law_607 rfl rfl ?_
      refine g_iload X (j := 1) dL_law_608 rfl ?_
      refine g_aload_n X (j := 4) dL_law_610 rfl rfl ?_
      refine g_sipush X (v := 900) dL_law_611 (by decide) ?_
      obtain ⟨⟨v206, M207⟩, hc205, h⟩ := bndO_e h
      refine gc_L_18 X gT_c122 (ct_X11_draw X.htr hsc hc205) (by decide) (Nat.le_of_ble_eq_true rfl) dL_law_614 ?_
      refine g_sipush X (v := 450) dL_law_617 (by decide) ?_
      refine g_isub X dL_law_620 ?_
      refine g_aload_n X (j := 4) dL_law_621 rfl rfl ?_
      refine g_sipush X (v := 700) dL_law_622 (by decide) ?_
      obtain ⟨⟨v209, M210⟩, hc208, h⟩ := bndO_e h
      refine gc_L_18 X gT_c122 (ct_X11_draw X.htr hsc hc208) (by decide) (Nat.le_of_ble_eq_true rfl) dL_law_625 ?_
      refine g_sipush X (v := 350) dL_law_628 (by decide) ?_
      refine g_isub X dL_law_631 ?_
      refine g_aload_n X (j := 4) dL_law_632 rfl rfl ?_
      refine g_sipush X (v := 900) dL_law_633 (by decide) ?_
      obtain ⟨⟨v212, M213⟩, hc211, h⟩ := bndO_e h
      refine gc_L_18 X gT_c122 (ct_X11_draw X.htr hsc hc211) (by decide) (Nat.le_of_ble_eq_true rfl) dL_law_636 ?_
      refine g_sipush X (v := 300) dL_law_639 (by decide) ?_
      refine g_isub X dL_law_642 ?_
      rcases bndT_e h with ⟨_, hc214, h⟩ | ⟨⟨v215, M216⟩, hc214, h⟩
      · cases h
      refine gc_L_102 X gT_c0 (ct_X10_moveCorner X.htr  hc214) (by decide) (Nat.le_of_ble_eq_true rfl) dL_law_643 ?_
      refine g_if_lt X (tgt := 687) dL_law_646 (by decide) (fun hb => ?_) (fun hb => ?_)
      · have h := ite_t hb h
        refine g_iconst X (v := 0) dL_law_687 (by decide) ?_
        cases h
      · have h := ite_f hb h
        refine g_aload_n X (j := 5) dL_law_649 rfl rfl ?_
        refine g_iload X (j := 1) dL_law_650 rfl ?_
        refine g_aload X (j := 0) dL_law_652 rfl ?_
        refine g_iconst X (v := 0) dL_law_654 (by decide) ?_
        obtain ⟨hg217, h⟩ := grd_e h
        refine g_iald X k204 hg217 dL_law_655 ?_
        rw [tn_0]
        refine g_aload X (j := 0) dL_law_656 rfl ?_
        refine g_iconst X (v := 1) dL_law_658 (by decide) ?_
        obtain ⟨hg218, h⟩ := grd_e h
        refine g_iald X k204 hg218 dL_law_659 ?_
        rw [tn_1]
        refine g_aload X (j := 0) dL_law_660 rfl ?_
        refine g_iconst X (v := 2) dL_law_662 (by decide) ?_
        obtain ⟨hg219, h⟩ := grd_e h
        refine g_iald X k204 hg219 dL_law_663 ?_
        rw [tn_2]
        rcases bndT_e h with ⟨_, hc220, h⟩ | ⟨⟨v221, M222⟩, hc220, h⟩
        · cases h
        refine gc_L_102 X gT_c0 (ct_X10_moveCorner X.htr  hc220) (by decide) (Nat.le_of_ble_eq_true rfl) dL_law_664 ?_
        refine g_if_lt X (tgt := 687) dL_law_667 (by decide) (fun hb => ?_) (fun hb => ?_)
        · have h := ite_t hb h
          refine g_iconst X (v := 0) dL_law_687 (by decide) ?_
          cases h
        · have h := ite_f hb h
          refine g_aload_n X (j := 5) dL_law_670 rfl rfl ?_
          obtain ⟨⟨v224, M225⟩, hc223, h⟩ := bndO_e h
          refine gc_L_36 X gT_c0 (ct_X10_stale X.htr  hc223) (by decide) (Nat.le_of_ble_eq_true rfl) dL_law_671 ?_
          refine g_if_ne X (tgt := 687) dL_law_674 (by decide) (fun hb => ?_) (fun hb => ?_)
          · have h := ite_f hb h
            refine g_iconst X (v := 0) dL_law_687 (by decide) ?_
            cases h
          · have h := ite_t hb h
            refine g_aload_n X (j := 5) dL_law_677 rfl rfl ?_
            rcases bndT_e h with ⟨_, hc226, h⟩ | ⟨⟨w227, M228⟩, hc226, h⟩
            · cases h
            refine gc_L_39 X gT_c0 (ct_X10_digest X.htr  hc226) (by decide) (Nat.le_of_ble_eq_true rfl) dL_law_678 ?_
            refine g_lload X (j := 7) dL_law_681 rfl ?_
            refine g_lcmp X dL_law_683 ?_
            refine g_if_eq X (tgt := 689) dL_law_684 (by decide) (fun hb => ?_) (fun hb => ?_)
            · have h := ite_t hb h
              refine g_iconst X (v := 0) dL_law_689 (by decide) ?_
              refine g_topi (fun v229 e230 => ?_)
              have h := bnd_e e230 h
              refine g_istore X (lv' := [(11, .int v229), (10, .ref (gad (xz x) o202)), (9, .int v199), (0, .ref (gsa (xz x))), (1, .int a12), (2, .ref (gad (xz x) 122)), (3, .ref (gad (xz x) 0)), (4, .int a189), (5, .long b190)]) dL_law_690 (by decide) rfl ?_
              refine g_lv [3, 4, 5, 6, 7, 8, 0] rfl ?_
              obtain ⟨M240, hl241, h⟩ := bndO_e h
              refine lw_L_law_692 (ke := 0 + kr)  hsc0 (fun x M240_ hx X B hz e9 => ?_) F x v229 M228 hx X (B.le (by omega)) hz hl241
              cases e9
              have hsc := hx.sc hsc0
              refine g_aload_n X (j := 3) dL_law_715 rfl rfl ?_
              obtain ⟨⟨v243, M244⟩, hc242, h⟩ := bndO_e h
              refine gc_L_30 X gT_c0 (ct_X10_paint X.htr  hc242) (by decide) (Nat.le_of_ble_eq_true rfl) dL_law_716 ?_
              refine g_pop X dL_law_719 rfl ?_
              refine g_aload_n X (j := 3) dL_law_720 rfl rfl ?_
              obtain ⟨⟨v246, M247⟩, hc245, h⟩ := bndO_e h
              refine gc_L_110 X gT_c0 (ct_X10_colours X.htr  hc245) (by decide) (Nat.le_of_ble_eq_true rfl) dL_law_721 ?_
              refine g_iconst X (v := 1) dL_law_724 (by decide) ?_
              refine g_icmp_ne X (tgt := 751) dL_law_725 (by decide) (fun hb => ?_) (fun hb => ?_)
              · have h := ite_f hb h
                refine g_iconst X (v := 0) dL_law_751 (by decide) ?_
                cases h
              · have h := ite_t hb h
                refine g_aload_n X (j := 3) dL_law_728 rfl rfl ?_
                refine g_iload X (j := 4) dL_law_729 rfl ?_
                refine g_iload X (j := 4) dL_law_731 rfl ?_
                rcases bndT_e h with ⟨_, hc248, h⟩ | ⟨v249, hc248, h⟩
                · cases h
                refine gc_L_113 X gT_c0 (ct_X10_colourAt X.htr  hc248) (by decide) (Nat.le_of_ble_eq_true rfl) dL_law_733 ?_
                refine g_aload_n X (j := 2) dL_law_736 rfl rfl ?_
                refine gf_L_116 X gT_c122 dL_law_737 ?_
                refine g_icmp_ne X (tgt := 751) dL_law_740 (by decide) (fun hb => ?_) (fun hb => ?_)
                · have h := ite_f hb h
                  refine g_iconst X (v := 0) dL_law_751 (by decide) ?_
                  cases h
                · have h := ite_t hb h
                  refine g_aload_n X (j := 3) dL_law_743 rfl rfl ?_
                  obtain ⟨⟨v251, M252⟩, hc250, h⟩ := bndO_e h
                  refine gc_L_92 X gT_c0 (ct_X10_greatest X.htr  hc250) (by decide) (Nat.le_of_ble_eq_true rfl) dL_law_744 ?_
                  refine g_iconst X (v := (-1)) dL_law_747 (by decide) ?_
                  refine g_icmp_eq X (tgt := 753) dL_law_748 (by decide) (fun hb => ?_) (fun hb => ?_)
                  · have h := ite_t hb h
                    refine g_iconst X (v := 0) dL_law_753 (by decide) ?_
                    refine g_topi (fun v253 e254 => ?_)
                    have h := bnd_e e254 h
                    refine g_istore X (lv' := [(11, .int v253), (0, .ref (gsa (xz x))), (1, .int a12), (2, .ref (gad (xz x) 122)), (3, .ref (gad (xz x) 0)), (4, .int a189), (5, .long b190)]) dL_law_754 (by decide) rfl ?_
                    refine g_lv [1, 2, 3, 4, 5, 6, 0] rfl ?_
                    obtain ⟨M269, hl270, h⟩ := bndO_e h
                    refine lw_L_law_756 (ke := 0 + kr)  hsc0 (fun x M269_ hx X B hz e9 => ?_) F x v253 M252 hx X (B.le (by omega)) hz hl270
                    cases e9
                    have hsc := hx.sc hsc0
                    refine g_aload_n X (j := 3) dL_law_787 rfl rfl ?_
                    obtain ⟨⟨v272, M273⟩, hc271, h⟩ := bndO_e h
                    refine gc_L_30 X gT_c0 (ct_X10_paint X.htr  hc271) (by decide) (Nat.le_of_ble_eq_true rfl) dL_law_788 ?_
                    refine g_pop X dL_law_791 rfl ?_
                    refine g_aload_n X (j := 3) dL_law_792 rfl rfl ?_
                    rcases bndT_e h with ⟨_, hc274, h⟩ | ⟨⟨w275, M276⟩, hc274, h⟩
                    · cases h
                    refine gc_L_39 X gT_c0 (ct_X10_digest X.htr  hc274) (by decide) (Nat.le_of_ble_eq_true rfl) dL_law_793 ?_
                    refine g_lload X (j := 5) dL_law_796 rfl ?_
                    refine g_lcmp X dL_law_798 ?_
                    refine g_if_eq X (tgt := 804) dL_law_799 (by decide) (fun hb => ?_) (fun hb => ?_)
                    · have h := ite_t hb h
                      refine g_iinc X (j := 4) (w := a189 + (1 : Int32)) (lv' := [(0, .ref (gsa (xz x))), (1, .int a12), (2, .ref (gad (xz x) 122)), (3, .ref (gad (xz x) 0)), (5, .long b190)]) dL_law_804 rfl (by rw [ii_1]) (by decide) (fun _ => rfl) (fun v277 e278 => ?_)
                      have h := bnd_e e278 h
                      refine g_goto X (tgt := 56) dL_law_807 (by decide) ?_
                      refine g_lv [1, 2, 3, 4, 0] rfl ?_
                      exact hrec x v277 M276 hx X (B.le (by omega)) hz h
                    · have h := ite_f hb h
                      refine g_iconst X (v := 0) dL_law_802 (by decide) ?_
                      cases h
                  · have h := ite_f hb h
                    refine g_iconst X (v := 0) dL_law_751 (by decide) ?_
                    cases h
            · have h := ite_f hb h
              refine g_iconst X (v := 0) dL_law_687 (by decide) ?_
              cases h
    · have h := ite_f hb h
      refine g_iconst X (v := 0) dL_law_586 (by decide) ?_
      cases h
def bk_L_law_560_56 (F : Nat) (L9 : Nat) (xs9 : Nat → Int32) (rec : Int32 → GM → Option GM) (a12 : Int32) (a185 : Int32) (b186 : Int64) (a187 : Int32) (a188 : Int32) (M : GM) : Option GM := if a187 = (960 : Int32) then (bk_L_law_573_56 F L9 xs9 rec a12 a185 b186 (1 : Int32) a188 M) else (bk_L_law_573_56 F L9 xs9 rec a12 a185 b186 (0 : Int32) a188 M)
set_option maxHeartbeats 4000000 in
set_option maxRecDepth 100000 in
theorem bw_L_law_560_56 {x0 x : GX} (hx : XR x0 x) (X : GC x cL_law 16 RL 11) {kr ke : Nat} (hk : ke ≤ kr) (B : XB x (0 + kr)) (hz : TZ (xz x) []) {a12 : Int32} {a185 : Int32} {b186 : Int64} {a187 : Int32} {a188 : Int32}   {F : Nat} {L9 : Nat} {xs9 : Nat → Int32} {rec : Int32 → GM → Option GM} {M : GM} {r9 : GM} (hsc0 : gsl (xz x0) = L9 ∧ gsx (xz x0) = xs9) (hE : ∀ (x9 : GX)  (M9 : GM), XR x0 x9 → GC x9 cL_law 16 RL 11 → XB x9 ke → TZ (xz x9) [] → r9 = M9 → WG x9 M9 [(0, .ref (gsa (xz x9))), (1, .int a12)] 810 []) (hrec : ∀ (x9 : GX) (a13_9 : Int32) (M9 : GM), XR x0 x9 → GC x9 cL_law 16 RL 11 → XB x9 kr → TZ (xz x9) [] → rec a13_9 M9 = some r9 → WG x9 M9 [(0, .ref (gsa (xz x9))), (1, .int a12), (2, .ref (gad (xz x9) 122)), (3, .ref (gad (xz x9) 0)), (4, .int a13_9)] 56 []) (h : bk_L_law_560_56 F L9 xs9 rec a12 a185 b186 a187 a188 M = some r9) : WG x M [(0, .ref (gsa (xz x))), (1, .int a12), (2, .ref (gad (xz x) 122)), (3, .ref (gad (xz x) 0)), (4, .int a185), (5, .long b186), (8, .int a187)] 560 [.int a188] := by
  unfold bk_L_law_560_56 at h
  have hsc := hx.sc hsc0
  refine g_iload X (j := 6) dL_law_560 rfl ?_
  refine g_sipush X (v := 960) dL_law_562 (by decide) ?_
  refine g_icmp_ne X (tgt := 572) dL_law_565 (by decide) (fun hb => ?_) (fun hb => ?_)
  · have h := ite_f hb h
    refine g_iconst X (v := 0) dL_law_572 (by decide) ?_
    refine g_lv [0, 1, 2, 3, 4, 5] rfl ?_
    exact bw_L_law_573_56 hx X hk (B.le (by omega)) hz  hsc0 hE hrec h
  · have h := ite_t hb h
    refine g_iconst X (v := 1) dL_law_568 (by decide) ?_
    refine g_goto X (tgt := 573) dL_law_569 (by decide) ?_
    refine g_lv [0, 1, 2, 3, 4, 5] rfl ?_
    exact bw_L_law_573_56 hx X hk (B.le (by omega)) hz  hsc0 hE hrec h
def st_L_law_56 (F : Nat) (L9 : Nat) (xs9 : Nat → Int32) (a12 : Int32) (rec : Int32 → GM → Option GM) (a13 : Int32) (M : GM) : Option GM := if (4 : Int32) ≤ a13 then (some M) else (bndO (f_X11_draw F L9 xs9 (3 : Int32) M) (fun (v15, M16) => bnd v15 (fun v17 => bndO (lp_L_law_69 F L9 xs9 a12 a13 16 v17 M16) (fun M27 => bndO (f_X10_paint F M27) (fun (v30, M31) => if (15 : Int32) < v30 then (none) else (bndO (f_X10_stale F M31) (fun (v33, M34) => if v33 = 0 then (bndO (f_X10_paint F M34) (fun (v36, M37) => if v36 = 0 then (bndT (f_X10_digest F M37) (fun _ => none) (fun (w39, M40) => bnd w39 (fun w41 => bnd (0 : Int32) (fun v43 => bnd (0 : Int32) (fun v45 => bndO (lp_L_law_126 F L9 xs9 a12 a13 w41 F v43 v45 M40) (fun (v137, M138) => bnd (0 : Int32) (fun v140 => bnd (0 : Int32) (fun v142 => bndO (lp_L_law_420 F L9 xs9 a12 a13 w41 v137 F v140 v142 M138) (fun (v179, M180) => if (v179 + v137) = (960 : Int32) then (bndO (f_X10_greatest F M180) (fun (v183, M184) => if 0 ≤ v183 then (bk_L_law_560_56 F L9 xs9 rec a12 a13 w41 v179 (0 : Int32) M184) else (bk_L_law_560_56 F L9 xs9 rec a12 a13 w41 v179 (1 : Int32) M184))) else (none)))))))))) else (none))) else (none))))))))
def lp_L_law_56 (F : Nat) (L9 : Nat) (xs9 : Nat → Int32) (a12 : Int32) : Nat → Int32 → GM → Option GM
  | 0 => fun _ _ => none
  | f + 1 => fun a13 M => st_L_law_56 F L9 xs9 a12 (lp_L_law_56 F L9 xs9 a12 f) a13 M
set_option maxHeartbeats 4000000 in
set_option maxRecDepth 100000 in
theorem lw_L_law_56 {x0 : GX} {ke : Nat} {a12 : Int32}  {F : Nat} {L9 : Nat} {xs9 : Nat → Int32} {r9 : GM} (hsc0 : gsl (xz x0) = L9 ∧ gsx (xz x0) = xs9) (hE : ∀ (x9 : GX)  (M9 : GM), XR x0 x9 → GC x9 cL_law 16 RL 11 → XB x9 ke → TZ (xz x9) [] → r9 = M9 → WG x9 M9 [(0, .ref (gsa (xz x9))), (1, .int a12)] 810 []) : ∀ (f : Nat) (x : GX) (a13 : Int32) (M : GM), XR x0 x → GC x cL_law 16 RL 11 → XB x (f * 16 + ke) → TZ (xz x) [] → lp_L_law_56 F L9 xs9 a12 f a13 M = some r9 → WG x M [(0, .ref (gsa (xz x))), (1, .int a12), (2, .ref (gad (xz x) 122)), (3, .ref (gad (xz x) 0)), (4, .int a13)] 56 [] := by
  intro f
  induction f with
  | zero => intro x a13 M hx X B hz h; cases h
  | succ f ih =>
    intro x a13 M hx X B hz h
    have hrec := ih
    have h : st_L_law_56 F L9 xs9 a12 (lp_L_law_56 F L9 xs9 a12 f) a13 M = some r9 := h
    generalize lp_L_law_56 F L9 xs9 a12 f = rec at h hrec
    unfold st_L_law_56 at h
    have hsc := hx.sc hsc0
    have hk : ke ≤ f * 16 + ke := Nat.le_add_left _ _
    refine g_iload X (j := 4) dL_law_56 rfl ?_
    refine g_iconst X (v := 4) dL_law_58 (by decide) ?_
    refine g_icmp_ge X (tgt := 810) dL_law_59 (by decide) (fun hb => ?_) (fun hb => ?_)
    · have h := ite_t hb h
      refine g_lv [0, 1] rfl ?_
      exact hE x M hx X (B.le (by omega)) hz (Option.some.inj h).symm
    · have h := ite_f hb h
      refine g_aload_n X (j := 2) dL_law_62 rfl rfl ?_
      refine g_iconst X (v := 3) dL_law_63 (by decide) ?_
      obtain ⟨⟨v15, M16⟩, hc14, h⟩ := bndO_e h
      refine gc_L_18 X gT_c122 (ct_X11_draw X.htr hsc hc14) (by decide) (Nat.le_of_ble_eq_true rfl) dL_law_64 ?_
      refine g_topi (fun v17 e18 => ?_)
      have h := bnd_e e18 h
      refine g_istore X (lv' := [(5, .int v17), (0, .ref (gsa (xz x))), (1, .int a12), (2, .ref (gad (xz x) 122)), (3, .ref (gad (xz x) 0)), (4, .int a13)]) dL_law_67 (by decide) rfl ?_
      refine g_lv [1, 2, 3, 4, 5, 0] rfl ?_
      obtain ⟨M27, hl28, h⟩ := bndO_e h
      refine lw_L_law_69 (ke := 0 + (f * 16 + ke))  hsc0 (fun x M27_ hx X B hz e9 => ?_) 16 x v17 M16 hx X (B.le (by omega)) hz hl28
      cases e9
      have hsc := hx.sc hsc0
      refine g_aload_n X (j := 3) dL_law_89 rfl rfl ?_
      obtain ⟨⟨v30, M31⟩, hc29, h⟩ := bndO_e h
      refine gc_L_30 X gT_c0 (ct_X10_paint X.htr  hc29) (by decide) (Nat.le_of_ble_eq_true rfl) dL_law_90 ?_
      refine g_bipush X (v := 15) dL_law_93 (by decide) ?_
      refine g_icmp_gt X (tgt := 112) dL_law_95 (by decide) (fun hb => ?_) (fun hb => ?_)
      · have h := ite_t hb h
        refine g_iconst X (v := 0) dL_law_112 (by decide) ?_
        cases h
      · have h := ite_f hb h
        refine g_aload_n X (j := 3) dL_law_98 rfl rfl ?_
        obtain ⟨⟨v33, M34⟩, hc32, h⟩ := bndO_e h
        refine gc_L_36 X gT_c0 (ct_X10_stale X.htr  hc32) (by decide) (Nat.le_of_ble_eq_true rfl) dL_law_99 ?_
        refine g_if_ne X (tgt := 112) dL_law_102 (by decide) (fun hb => ?_) (fun hb => ?_)
        · have h := ite_f hb h
          refine g_iconst X (v := 0) dL_law_112 (by decide) ?_
          cases h
        · have h := ite_t hb h
          refine g_aload_n X (j := 3) dL_law_105 rfl rfl ?_
          obtain ⟨⟨v36, M37⟩, hc35, h⟩ := bndO_e h
          refine gc_L_30 X gT_c0 (ct_X10_paint X.htr  hc35) (by decide) (Nat.le_of_ble_eq_true rfl) dL_law_106 ?_
          refine g_if_eq X (tgt := 114) dL_law_109 (by decide) (fun hb => ?_) (fun hb => ?_)
          · have h := ite_t hb h
            refine g_aload_n X (j := 3) dL_law_114 rfl rfl ?_
            rcases bndT_e h with ⟨_, hc38, h⟩ | ⟨⟨w39, M40⟩, hc38, h⟩
            · cases h
            refine gc_L_39 X gT_c0 (ct_X10_digest X.htr  hc38) (by decide) (Nat.le_of_ble_eq_true rfl) dL_law_115 ?_
            refine g_topl (fun w41 e42 => ?_)
            have h := bnd_e e42 h
            refine g_lstore X (lv' := [(5, .long w41), (0, .ref (gsa (xz x))), (1, .int a12), (2, .ref (gad (xz x) 122)), (3, .ref (gad (xz x) 0)), (4, .int a13)]) dL_law_118 (by decide) rfl ?_
            refine g_iconst X (v := 0) dL_law_120 (by decide) ?_
            refine g_topi (fun v43 e44 => ?_)
            have h := bnd_e e44 h
            refine g_istore X (lv' := [(7, .int v43), (5, .long w41), (0, .ref (gsa (xz x))), (1, .int a12), (2, .ref (gad (xz x) 122)), (3, .ref (gad (xz x) 0)), (4, .int a13)]) dL_law_121 (by decide) rfl ?_
            refine g_iconst X (v := 0) dL_law_123 (by decide) ?_
            refine g_topi (fun v45 e46 => ?_)
            have h := bnd_e e46 h
            refine g_istore X (lv' := [(8, .int v45), (7, .int v43), (5, .long w41), (0, .ref (gsa (xz x))), (1, .int a12), (2, .ref (gad (xz x) 122)), (3, .ref (gad (xz x) 0)), (4, .int a13)]) dL_law_124 (by decide) rfl ?_
            refine g_lv [3, 4, 5, 6, 7, 2, 1, 0] rfl ?_
            obtain ⟨⟨v137, M138⟩, hl139, h⟩ := bndO_e h
            refine lw_L_law_126 (ke := 0 + (f * 16 + ke))  hsc0 (fun x v137_ M138_ hx X B hz e9 => ?_) F x v43 v45 M40 hx X (B.le (by omega)) hz hl139
            cases e9
            have hsc := hx.sc hsc0
            refine g_iconst X (v := 0) dL_law_414 (by decide) ?_
            refine g_topi (fun v140 e141 => ?_)
            have h := bnd_e e141 h
            refine g_istore X (lv' := [(8, .int v140), (0, .ref (gsa (xz x))), (1, .int a12), (2, .ref (gad (xz x) 122)), (3, .ref (gad (xz x) 0)), (4, .int a13), (5, .long w41), (7, .int v137)]) dL_law_415 (by decide) rfl ?_
            refine g_iconst X (v := 0) dL_law_417 (by decide) ?_
            refine g_topi (fun v142 e143 => ?_)
            have h := bnd_e e143 h
            refine g_istore X (lv' := [(9, .int v142), (8, .int v140), (0, .ref (gsa (xz x))), (1, .int a12), (2, .ref (gad (xz x) 122)), (3, .ref (gad (xz x) 0)), (4, .int a13), (5, .long w41), (7, .int v137)]) dL_law_418 (by decide) rfl ?_
            refine g_lv [2, 3, 4, 5, 6, 7, 8, 1, 0] rfl ?_
            obtain ⟨⟨v179, M180⟩, hl181, h⟩ := bndO_e h
            refine lw_L_law_420 (ke := 0 + (f * 16 + ke))  hsc0 (fun x v179_ M180_ hx X B hz e9 => ?_) F x v140 v142 M138 hx X (B.le (by omega)) hz hl181
            cases e9
            have hsc := hx.sc hsc0
            refine g_iload X (j := 7) dL_law_537 rfl ?_
            refine g_iload X (j := 6) dL_law_539 rfl ?_
            refine g_iadd X dL_law_541 ?_
            refine g_sipush X (v := 960) dL_law_542 (by decide) ?_
            refine g_icmp_ne X (tgt := 586) dL_law_545 (by decide) (fun hb => ?_) (fun hb => ?_)
            · have h := ite_f hb h
              refine g_iconst X (v := 0) dL_law_586 (by decide) ?_
              cases h
            · have h := ite_t hb h
              refine g_aload_n X (j := 3) dL_law_548 rfl rfl ?_
              obtain ⟨⟨v183, M184⟩, hc182, h⟩ := bndO_e h
              refine gc_L_92 X gT_c0 (ct_X10_greatest X.htr  hc182) (by decide) (Nat.le_of_ble_eq_true rfl) dL_law_549 ?_
              refine g_if_ge X (tgt := 559) dL_law_552 (by decide) (fun hb => ?_) (fun hb => ?_)
              · have h := ite_t hb h
                refine g_iconst X (v := 0) dL_law_559 (by decide) ?_
                refine g_lv [0, 1, 2, 3, 4, 5, 7] rfl ?_
                exact bw_L_law_560_56 hx X hk (B.le (by omega)) hz  hsc0 hE hrec h
              · have h := ite_f hb h
                refine g_iconst X (v := 1) dL_law_555 (by decide) ?_
                refine g_goto X (tgt := 560) dL_law_556 (by decide) ?_
                refine g_lv [0, 1, 2, 3, 4, 5, 7] rfl ?_
                exact bw_L_law_560_56 hx X hk (B.le (by omega)) hz  hsc0 hE hrec h
          · have h := ite_f hb h
            refine g_iconst X (v := 0) dL_law_112 (by decide) ?_
            cases h
def f_L_law (F : Nat) (L9 : Nat) (xs9 : Nat → Int32) (a1 : Int32) (M : GM) : Option GM := bndO (f_X11_draw F L9 xs9 (8 : Int32) M) (fun (v2, M3) => bndO (f_X11_draw F L9 xs9 (7 : Int32) M3) (fun (v5, M6) => bndO (f_X11_build F L9 xs9 ((3 : Int32) + v2) ((1 : Int32) + v5) M6) (fun (v8, M9) => if v8 = 0 then (none) else (bnd (0 : Int32) (fun v10 => bndO (lp_L_law_56 F L9 xs9 a1 16 v10 M9) (fun M279 => some M279))))))
set_option maxHeartbeats 4000000 in
set_option maxRecDepth 100000 in
theorem w_L_law {x0 x : GX} (hx : XR x0 x) (X : GC x cL_law 16 RL 11) {K : Nat} (B : XB x (304 + K)) (hz : TZ (xz x) []) {a1 : Int32} {F : Nat} {L9 : Nat} {xs9 : Nat → Int32} {M : GM} {r9 : GM} (hsc0 : gsl (xz x0) = L9 ∧ gsx (xz x0) = xs9) (hR : ∀ (x9 : GX) (M9 : GM), XR x0 x9 → GC x9 cL_law 16 RL 11 → XB x9 K → TZ (xz x9) [] → r9 = M9 → WG x9 M9 [(1, .int a1), (0, .ref (gsa (xz x9)))] 810 []) (h : f_L_law F L9 xs9 a1 M = some r9) : WG x M [(3, .ref (gad (xz x) 0)), (2, .ref (gad (xz x) 122)), (1, .int a1), (0, .ref (gsa (xz x)))] 28 [] := by
  unfold f_L_law at h
  have hsc := hx.sc hsc0
  refine g_aload_n X (j := 1) dL_law_28 rfl rfl ?_
  refine g_iconst X (v := 3) dL_law_29 (by decide) ?_
  refine g_aload_n X (j := 1) dL_law_30 rfl rfl ?_
  refine g_bipush X (v := 8) dL_law_31 (by decide) ?_
  obtain ⟨⟨v2, M3⟩, hc1, h⟩ := bndO_e h
  refine gc_L_18 X gT_c122 (ct_X11_draw X.htr hsc hc1) (by decide) (Nat.le_of_ble_eq_true rfl) dL_law_33 ?_
  refine g_iadd X dL_law_36 ?_
  refine g_iconst X (v := 1) dL_law_37 (by decide) ?_
  refine g_aload_n X (j := 1) dL_law_38 rfl rfl ?_
  refine g_bipush X (v := 7) dL_law_39 (by decide) ?_
  obtain ⟨⟨v5, M6⟩, hc4, h⟩ := bndO_e h
  refine gc_L_18 X gT_c122 (ct_X11_draw X.htr hsc hc4) (by decide) (Nat.le_of_ble_eq_true rfl) dL_law_41 ?_
  refine g_iadd X dL_law_44 ?_
  obtain ⟨⟨v8, M9⟩, hc7, h⟩ := bndO_e h
  refine gc_L_22 X hz (k := 256 + K) (B.le (by omega)) gT_c122 (ct_X11_build X.htr hsc hc7) (by decide) (Nat.le_of_ble_eq_true rfl) dL_law_45 (fun x hxn X B hz => ?_)
  rw [hxn.ad (g := 0) (by decide)]
  rw [hxn.ad (g := 122) (by decide)]
  have hx := hx.tr hxn
  rw [hxn.sa]
  have hsc := hx.sc hsc0
  refine g_if_ne X (tgt := 53) dL_law_48 (by decide) (fun hb => ?_) (fun hb => ?_)
  · have h := ite_f hb h
    refine g_iconst X (v := 0) dL_law_53 (by decide) ?_
    refine g_topi (fun v10 e11 => ?_)
    have h := bnd_e e11 h
    refine g_istore X (lv' := [(4, .int v10), (3, .ref (gad (xz x) 0)), (2, .ref (gad (xz x) 122)), (1, .int a1), (0, .ref (gsa (xz x)))]) dL_law_54 (by decide) rfl ?_
    refine g_lv [4, 3, 2, 1, 0] rfl ?_
    obtain ⟨M279, hl280, h⟩ := bndO_e h
    refine lw_L_law_56 (ke := K)  hsc0 (fun x M279_ hx X B hz e9 => ?_) 16 x v10 M9 hx X (B.le (by omega)) hz hl280
    cases e9
    have hsc := hx.sc hsc0
    refine g_lv [1, 0] rfl ?_
    exact hR x M279 hx X (B.le (by omega)) hz (Option.some.inj h).symm
  · have h := ite_t hb h
    refine g_iconst X (v := 0) dL_law_51 (by decide) ?_
    cases h
