/-! the law: decode rows, its calls -/
theorem dL_law_0 : decode cL_law 0 = .ok (.new 8, 3) := by decide +kernel
theorem dL_law_3 : decode cL_law 3 = .ok (.dup, 1) := by decide +kernel
theorem dL_law_4 : decode cL_law 4 = .ok (.invokespecial 106, 3) := by decide +kernel
theorem dL_law_7 : decode cL_law 7 = .ok (.astore_n 1, 1) := by decide +kernel
theorem dL_law_8 : decode cL_law 8 = .ok (.new 107, 3) := by decide +kernel
theorem dL_law_11 : decode cL_law 11 = .ok (.dup, 1) := by decide +kernel
theorem dL_law_12 : decode cL_law 12 = .ok (.invokespecial 109, 3) := by decide +kernel
theorem dL_law_15 : decode cL_law 15 = .ok (.astore_n 2, 1) := by decide +kernel
theorem dL_law_16 : decode cL_law 16 = .ok (.iconst 1, 1) := by decide +kernel
theorem dL_law_17 : decode cL_law 17 = .ok (.newarray .long, 2) := by decide +kernel
theorem dL_law_19 : decode cL_law 19 = .ok (.astore_n 3, 1) := by decide +kernel
theorem dL_law_20 : decode cL_law 20 = .ok (.iconst 0, 1) := by decide +kernel
theorem dL_law_21 : decode cL_law 21 = .ok (.istore 4, 2) := by decide +kernel
theorem dL_law_23 : decode cL_law 23 = .ok (.iload 4, 2) := by decide +kernel
theorem dL_law_25 : decode cL_law 25 = .ok (.aload_n 0, 1) := by decide +kernel
theorem dL_law_26 : decode cL_law 26 = .ok (.arraylength, 1) := by decide +kernel
theorem dL_law_27 : decode cL_law 27 = .ok (.bipush 7, 2) := by decide +kernel
theorem dL_law_29 : decode cL_law 29 = .ok (.isub, 1) := by decide +kernel
theorem dL_law_30 : decode cL_law 30 = .ok (.if_icmp .gt 2410, 3) := by decide +kernel
theorem dL_law_33 : decode cL_law 33 = .ok (.aload_n 0, 1) := by decide +kernel
theorem dL_law_34 : decode cL_law 34 = .ok (.iload 4, 2) := by decide +kernel
theorem dL_law_36 : decode cL_law 36 = .ok (.iaload, 1) := by decide +kernel
theorem dL_law_37 : decode cL_law 37 = .ok (.bipush 63, 2) := by decide +kernel
theorem dL_law_39 : decode cL_law 39 = .ok (.iand, 1) := by decide +kernel
theorem dL_law_40 : decode cL_law 40 = .ok (.tableswitch 2394 0 35 #[160, 278, 370, 438, 588, 679, 771, 862, 966, 1034, 1090, 1103, 1116, 1184, 1240, 1320, 1400, 1456, 1512, 1599, 1679, 1759, 1772, 1785, 1798, 1861, 1929, 1997, 2065, 2121, 2134, 2202, 2258, 2271, 2339, 2380], 160) := by decide +kernel
theorem dL_law_200 : decode cL_law 200 = .ok (.aload_n 1, 1) := by decide +kernel
theorem dL_law_201 : decode cL_law 201 = .ok (.aload_n 0, 1) := by decide +kernel
theorem dL_law_202 : decode cL_law 202 = .ok (.iload 4, 2) := by decide +kernel
theorem dL_law_204 : decode cL_law 204 = .ok (.iconst 1, 1) := by decide +kernel
theorem dL_law_205 : decode cL_law 205 = .ok (.iadd, 1) := by decide +kernel
theorem dL_law_206 : decode cL_law 206 = .ok (.iaload, 1) := by decide +kernel
theorem dL_law_207 : decode cL_law 207 = .ok (.aload_n 0, 1) := by decide +kernel
theorem dL_law_208 : decode cL_law 208 = .ok (.iload 4, 2) := by decide +kernel
theorem dL_law_210 : decode cL_law 210 = .ok (.iconst 2, 1) := by decide +kernel
theorem dL_law_211 : decode cL_law 211 = .ok (.iadd, 1) := by decide +kernel
theorem dL_law_212 : decode cL_law 212 = .ok (.iaload, 1) := by decide +kernel
theorem dL_law_213 : decode cL_law 213 = .ok (.aload_n 0, 1) := by decide +kernel
theorem dL_law_214 : decode cL_law 214 = .ok (.iload 4, 2) := by decide +kernel
theorem dL_law_216 : decode cL_law 216 = .ok (.iconst 3, 1) := by decide +kernel
theorem dL_law_217 : decode cL_law 217 = .ok (.iadd, 1) := by decide +kernel
theorem dL_law_218 : decode cL_law 218 = .ok (.iaload, 1) := by decide +kernel
theorem dL_law_219 : decode cL_law 219 = .ok (.aload_n 0, 1) := by decide +kernel
theorem dL_law_220 : decode cL_law 220 = .ok (.iload 4, 2) := by decide +kernel
theorem dL_law_222 : decode cL_law 222 = .ok (.iconst 4, 1) := by decide +kernel
theorem dL_law_223 : decode cL_law 223 = .ok (.iadd, 1) := by decide +kernel
theorem dL_law_224 : decode cL_law 224 = .ok (.iaload, 1) := by decide +kernel
theorem dL_law_225 : decode cL_law 225 = .ok (.aload_n 0, 1) := by decide +kernel
theorem dL_law_226 : decode cL_law 226 = .ok (.iload 4, 2) := by decide +kernel
theorem dL_law_228 : decode cL_law 228 = .ok (.iconst 5, 1) := by decide +kernel
theorem dL_law_229 : decode cL_law 229 = .ok (.iadd, 1) := by decide +kernel
theorem dL_law_230 : decode cL_law 230 = .ok (.iaload, 1) := by decide +kernel
theorem dL_law_231 : decode cL_law 231 = .ok (.aload_n 0, 1) := by decide +kernel
theorem dL_law_232 : decode cL_law 232 = .ok (.iload 4, 2) := by decide +kernel
theorem dL_law_234 : decode cL_law 234 = .ok (.bipush 6, 2) := by decide +kernel
theorem dL_law_236 : decode cL_law 236 = .ok (.iadd, 1) := by decide +kernel
theorem dL_law_237 : decode cL_law 237 = .ok (.iaload, 1) := by decide +kernel
theorem dL_law_238 : decode cL_law 238 = .ok (.aload_n 3, 1) := by decide +kernel
theorem dL_law_239 : decode cL_law 239 = .ok (.invokestatic 110, 3) := by decide +kernel
theorem dL_law_242 : decode cL_law 242 = .ok (.istore 5, 2) := by decide +kernel
theorem dL_law_244 : decode cL_law 244 = .ok (.aload_n 2, 1) := by decide +kernel
theorem dL_law_245 : decode cL_law 245 = .ok (.aload_n 0, 1) := by decide +kernel
theorem dL_law_246 : decode cL_law 246 = .ok (.iload 4, 2) := by decide +kernel
theorem dL_law_248 : decode cL_law 248 = .ok (.iconst 1, 1) := by decide +kernel
theorem dL_law_249 : decode cL_law 249 = .ok (.iadd, 1) := by decide +kernel
theorem dL_law_250 : decode cL_law 250 = .ok (.iaload, 1) := by decide +kernel
theorem dL_law_251 : decode cL_law 251 = .ok (.aload_n 0, 1) := by decide +kernel
theorem dL_law_252 : decode cL_law 252 = .ok (.iload 4, 2) := by decide +kernel
theorem dL_law_254 : decode cL_law 254 = .ok (.iconst 2, 1) := by decide +kernel
theorem dL_law_255 : decode cL_law 255 = .ok (.iadd, 1) := by decide +kernel
theorem dL_law_256 : decode cL_law 256 = .ok (.iaload, 1) := by decide +kernel
theorem dL_law_257 : decode cL_law 257 = .ok (.aload_n 0, 1) := by decide +kernel
theorem dL_law_258 : decode cL_law 258 = .ok (.iload 4, 2) := by decide +kernel
theorem dL_law_260 : decode cL_law 260 = .ok (.iconst 3, 1) := by decide +kernel
theorem dL_law_261 : decode cL_law 261 = .ok (.iadd, 1) := by decide +kernel
theorem dL_law_262 : decode cL_law 262 = .ok (.iaload, 1) := by decide +kernel
theorem dL_law_263 : decode cL_law 263 = .ok (.aload_n 0, 1) := by decide +kernel
theorem dL_law_264 : decode cL_law 264 = .ok (.iload 4, 2) := by decide +kernel
theorem dL_law_266 : decode cL_law 266 = .ok (.iconst 4, 1) := by decide +kernel
theorem dL_law_267 : decode cL_law 267 = .ok (.iadd, 1) := by decide +kernel
theorem dL_law_268 : decode cL_law 268 = .ok (.iaload, 1) := by decide +kernel
theorem dL_law_269 : decode cL_law 269 = .ok (.aload_n 0, 1) := by decide +kernel
theorem dL_law_270 : decode cL_law 270 = .ok (.iload 4, 2) := by decide +kernel
theorem dL_law_272 : decode cL_law 272 = .ok (.iconst 5, 1) := by decide +kernel
theorem dL_law_273 : decode cL_law 273 = .ok (.iadd, 1) := by decide +kernel
theorem dL_law_274 : decode cL_law 274 = .ok (.iaload, 1) := by decide +kernel
theorem dL_law_275 : decode cL_law 275 = .ok (.aload_n 0, 1) := by decide +kernel
theorem dL_law_276 : decode cL_law 276 = .ok (.iload 4, 2) := by decide +kernel
theorem dL_law_278 : decode cL_law 278 = .ok (.bipush 6, 2) := by decide +kernel
theorem dL_law_280 : decode cL_law 280 = .ok (.iadd, 1) := by decide +kernel
theorem dL_law_281 : decode cL_law 281 = .ok (.iaload, 1) := by decide +kernel
theorem dL_law_282 : decode cL_law 282 = .ok (.invokevirtual 115, 3) := by decide +kernel
theorem dL_law_285 : decode cL_law 285 = .ok (.istore 6, 2) := by decide +kernel
theorem dL_law_287 : decode cL_law 287 = .ok (.aload_n 2, 1) := by decide +kernel
theorem dL_law_288 : decode cL_law 288 = .ok (.invokevirtual 116, 3) := by decide +kernel
theorem dL_law_291 : decode cL_law 291 = .ok (.iload 5, 2) := by decide +kernel
theorem dL_law_293 : decode cL_law 293 = .ok (.if_icmp .eq 5, 3) := by decide +kernel
theorem dL_law_296 : decode cL_law 296 = .ok (.iconst 0, 1) := by decide +kernel
theorem dL_law_297 : decode cL_law 297 = .ok (.ireturn, 1) := by decide +kernel
theorem dL_law_298 : decode cL_law 298 = .ok (.iload 5, 2) := by decide +kernel
theorem dL_law_300 : decode cL_law 300 = .ok (.ifCond .ne 15, 3) := by decide +kernel
theorem dL_law_303 : decode cL_law 303 = .ok (.aload_n 3, 1) := by decide +kernel
theorem dL_law_304 : decode cL_law 304 = .ok (.iconst 0, 1) := by decide +kernel
theorem dL_law_305 : decode cL_law 305 = .ok (.laload, 1) := by decide +kernel
theorem dL_law_306 : decode cL_law 306 = .ok (.iload 6, 2) := by decide +kernel
theorem dL_law_308 : decode cL_law 308 = .ok (.i2l, 1) := by decide +kernel
theorem dL_law_309 : decode cL_law 309 = .ok (.lcmp, 1) := by decide +kernel
theorem dL_law_310 : decode cL_law 310 = .ok (.ifCond .eq 5, 3) := by decide +kernel
theorem dL_law_313 : decode cL_law 313 = .ok (.iconst 0, 1) := by decide +kernel
theorem dL_law_314 : decode cL_law 314 = .ok (.ireturn, 1) := by decide +kernel
theorem dL_law_315 : decode cL_law 315 = .ok (.goto 2119, 3) := by decide +kernel
theorem dL_law_318 : decode cL_law 318 = .ok (.aload_n 1, 1) := by decide +kernel
theorem dL_law_319 : decode cL_law 319 = .ok (.aload_n 0, 1) := by decide +kernel
theorem dL_law_320 : decode cL_law 320 = .ok (.iload 4, 2) := by decide +kernel
theorem dL_law_322 : decode cL_law 322 = .ok (.iconst 1, 1) := by decide +kernel
theorem dL_law_323 : decode cL_law 323 = .ok (.iadd, 1) := by decide +kernel
theorem dL_law_324 : decode cL_law 324 = .ok (.iaload, 1) := by decide +kernel
theorem dL_law_325 : decode cL_law 325 = .ok (.aload_n 0, 1) := by decide +kernel
theorem dL_law_326 : decode cL_law 326 = .ok (.iload 4, 2) := by decide +kernel
theorem dL_law_328 : decode cL_law 328 = .ok (.iconst 2, 1) := by decide +kernel
theorem dL_law_329 : decode cL_law 329 = .ok (.iadd, 1) := by decide +kernel
theorem dL_law_330 : decode cL_law 330 = .ok (.iaload, 1) := by decide +kernel
theorem dL_law_331 : decode cL_law 331 = .ok (.aload_n 0, 1) := by decide +kernel
theorem dL_law_332 : decode cL_law 332 = .ok (.iload 4, 2) := by decide +kernel
theorem dL_law_334 : decode cL_law 334 = .ok (.iconst 3, 1) := by decide +kernel
theorem dL_law_335 : decode cL_law 335 = .ok (.iadd, 1) := by decide +kernel
theorem dL_law_336 : decode cL_law 336 = .ok (.iaload, 1) := by decide +kernel
theorem dL_law_337 : decode cL_law 337 = .ok (.aload_n 0, 1) := by decide +kernel
theorem dL_law_338 : decode cL_law 338 = .ok (.iload 4, 2) := by decide +kernel
theorem dL_law_340 : decode cL_law 340 = .ok (.iconst 4, 1) := by decide +kernel
theorem dL_law_341 : decode cL_law 341 = .ok (.iadd, 1) := by decide +kernel
theorem dL_law_342 : decode cL_law 342 = .ok (.iaload, 1) := by decide +kernel
theorem dL_law_343 : decode cL_law 343 = .ok (.aload_n 3, 1) := by decide +kernel
theorem dL_law_344 : decode cL_law 344 = .ok (.invokestatic 120, 3) := by decide +kernel
theorem dL_law_347 : decode cL_law 347 = .ok (.istore 5, 2) := by decide +kernel
theorem dL_law_349 : decode cL_law 349 = .ok (.aload_n 2, 1) := by decide +kernel
theorem dL_law_350 : decode cL_law 350 = .ok (.aload_n 0, 1) := by decide +kernel
theorem dL_law_351 : decode cL_law 351 = .ok (.iload 4, 2) := by decide +kernel
theorem dL_law_353 : decode cL_law 353 = .ok (.iconst 1, 1) := by decide +kernel
theorem dL_law_354 : decode cL_law 354 = .ok (.iadd, 1) := by decide +kernel
theorem dL_law_355 : decode cL_law 355 = .ok (.iaload, 1) := by decide +kernel
theorem dL_law_356 : decode cL_law 356 = .ok (.aload_n 0, 1) := by decide +kernel
theorem dL_law_357 : decode cL_law 357 = .ok (.iload 4, 2) := by decide +kernel
theorem dL_law_359 : decode cL_law 359 = .ok (.iconst 2, 1) := by decide +kernel
theorem dL_law_360 : decode cL_law 360 = .ok (.iadd, 1) := by decide +kernel
theorem dL_law_361 : decode cL_law 361 = .ok (.iaload, 1) := by decide +kernel
theorem dL_law_362 : decode cL_law 362 = .ok (.aload_n 0, 1) := by decide +kernel
theorem dL_law_363 : decode cL_law 363 = .ok (.iload 4, 2) := by decide +kernel
theorem dL_law_365 : decode cL_law 365 = .ok (.iconst 3, 1) := by decide +kernel
theorem dL_law_366 : decode cL_law 366 = .ok (.iadd, 1) := by decide +kernel
theorem dL_law_367 : decode cL_law 367 = .ok (.iaload, 1) := by decide +kernel
theorem dL_law_368 : decode cL_law 368 = .ok (.aload_n 0, 1) := by decide +kernel
theorem dL_law_369 : decode cL_law 369 = .ok (.iload 4, 2) := by decide +kernel
theorem dL_law_371 : decode cL_law 371 = .ok (.iconst 4, 1) := by decide +kernel
theorem dL_law_372 : decode cL_law 372 = .ok (.iadd, 1) := by decide +kernel
theorem dL_law_373 : decode cL_law 373 = .ok (.iaload, 1) := by decide +kernel
theorem dL_law_374 : decode cL_law 374 = .ok (.invokevirtual 123, 3) := by decide +kernel
theorem dL_law_377 : decode cL_law 377 = .ok (.istore 6, 2) := by decide +kernel
theorem dL_law_379 : decode cL_law 379 = .ok (.aload_n 2, 1) := by decide +kernel
theorem dL_law_380 : decode cL_law 380 = .ok (.invokevirtual 116, 3) := by decide +kernel
theorem dL_law_383 : decode cL_law 383 = .ok (.iload 5, 2) := by decide +kernel
theorem dL_law_385 : decode cL_law 385 = .ok (.if_icmp .eq 5, 3) := by decide +kernel
theorem dL_law_388 : decode cL_law 388 = .ok (.iconst 0, 1) := by decide +kernel
theorem dL_law_389 : decode cL_law 389 = .ok (.ireturn, 1) := by decide +kernel
theorem dL_law_390 : decode cL_law 390 = .ok (.iload 5, 2) := by decide +kernel
theorem dL_law_392 : decode cL_law 392 = .ok (.ifCond .ne 15, 3) := by decide +kernel
theorem dL_law_395 : decode cL_law 395 = .ok (.aload_n 3, 1) := by decide +kernel
theorem dL_law_396 : decode cL_law 396 = .ok (.iconst 0, 1) := by decide +kernel
theorem dL_law_397 : decode cL_law 397 = .ok (.laload, 1) := by decide +kernel
theorem dL_law_398 : decode cL_law 398 = .ok (.iload 6, 2) := by decide +kernel
theorem dL_law_400 : decode cL_law 400 = .ok (.i2l, 1) := by decide +kernel
theorem dL_law_401 : decode cL_law 401 = .ok (.lcmp, 1) := by decide +kernel
theorem dL_law_402 : decode cL_law 402 = .ok (.ifCond .eq 5, 3) := by decide +kernel
theorem dL_law_405 : decode cL_law 405 = .ok (.iconst 0, 1) := by decide +kernel
theorem dL_law_406 : decode cL_law 406 = .ok (.ireturn, 1) := by decide +kernel
theorem dL_law_407 : decode cL_law 407 = .ok (.goto 2027, 3) := by decide +kernel
theorem dL_law_410 : decode cL_law 410 = .ok (.aload_n 1, 1) := by decide +kernel
theorem dL_law_411 : decode cL_law 411 = .ok (.aload_n 0, 1) := by decide +kernel
theorem dL_law_412 : decode cL_law 412 = .ok (.iload 4, 2) := by decide +kernel
theorem dL_law_414 : decode cL_law 414 = .ok (.iconst 1, 1) := by decide +kernel
theorem dL_law_415 : decode cL_law 415 = .ok (.iadd, 1) := by decide +kernel
theorem dL_law_416 : decode cL_law 416 = .ok (.iaload, 1) := by decide +kernel
theorem dL_law_417 : decode cL_law 417 = .ok (.aload_n 0, 1) := by decide +kernel
theorem dL_law_418 : decode cL_law 418 = .ok (.iload 4, 2) := by decide +kernel
theorem dL_law_420 : decode cL_law 420 = .ok (.iconst 2, 1) := by decide +kernel
theorem dL_law_421 : decode cL_law 421 = .ok (.iadd, 1) := by decide +kernel
theorem dL_law_422 : decode cL_law 422 = .ok (.iaload, 1) := by decide +kernel
theorem dL_law_423 : decode cL_law 423 = .ok (.aload_n 3, 1) := by decide +kernel
theorem dL_law_424 : decode cL_law 424 = .ok (.invokestatic 124, 3) := by decide +kernel
theorem dL_law_427 : decode cL_law 427 = .ok (.istore 5, 2) := by decide +kernel
theorem dL_law_429 : decode cL_law 429 = .ok (.aload_n 2, 1) := by decide +kernel
theorem dL_law_430 : decode cL_law 430 = .ok (.aload_n 0, 1) := by decide +kernel
theorem dL_law_431 : decode cL_law 431 = .ok (.iload 4, 2) := by decide +kernel
theorem dL_law_433 : decode cL_law 433 = .ok (.iconst 1, 1) := by decide +kernel
theorem dL_law_434 : decode cL_law 434 = .ok (.iadd, 1) := by decide +kernel
theorem dL_law_435 : decode cL_law 435 = .ok (.iaload, 1) := by decide +kernel
theorem dL_law_436 : decode cL_law 436 = .ok (.aload_n 0, 1) := by decide +kernel
theorem dL_law_437 : decode cL_law 437 = .ok (.iload 4, 2) := by decide +kernel
theorem dL_law_439 : decode cL_law 439 = .ok (.iconst 2, 1) := by decide +kernel
theorem dL_law_440 : decode cL_law 440 = .ok (.iadd, 1) := by decide +kernel
theorem dL_law_441 : decode cL_law 441 = .ok (.iaload, 1) := by decide +kernel
theorem dL_law_442 : decode cL_law 442 = .ok (.invokevirtual 127, 3) := by decide +kernel
theorem dL_law_445 : decode cL_law 445 = .ok (.istore 6, 2) := by decide +kernel
theorem dL_law_447 : decode cL_law 447 = .ok (.aload_n 2, 1) := by decide +kernel
theorem dL_law_448 : decode cL_law 448 = .ok (.invokevirtual 116, 3) := by decide +kernel
theorem dL_law_451 : decode cL_law 451 = .ok (.iload 5, 2) := by decide +kernel
theorem dL_law_453 : decode cL_law 453 = .ok (.if_icmp .eq 5, 3) := by decide +kernel
theorem dL_law_456 : decode cL_law 456 = .ok (.iconst 0, 1) := by decide +kernel
theorem dL_law_457 : decode cL_law 457 = .ok (.ireturn, 1) := by decide +kernel
theorem dL_law_458 : decode cL_law 458 = .ok (.iload 5, 2) := by decide +kernel
theorem dL_law_460 : decode cL_law 460 = .ok (.ifCond .ne 15, 3) := by decide +kernel
theorem dL_law_463 : decode cL_law 463 = .ok (.aload_n 3, 1) := by decide +kernel
theorem dL_law_464 : decode cL_law 464 = .ok (.iconst 0, 1) := by decide +kernel
theorem dL_law_465 : decode cL_law 465 = .ok (.laload, 1) := by decide +kernel
theorem dL_law_466 : decode cL_law 466 = .ok (.iload 6, 2) := by decide +kernel
theorem dL_law_468 : decode cL_law 468 = .ok (.i2l, 1) := by decide +kernel
theorem dL_law_469 : decode cL_law 469 = .ok (.lcmp, 1) := by decide +kernel
theorem dL_law_470 : decode cL_law 470 = .ok (.ifCond .eq 5, 3) := by decide +kernel
theorem dL_law_473 : decode cL_law 473 = .ok (.iconst 0, 1) := by decide +kernel
theorem dL_law_474 : decode cL_law 474 = .ok (.ireturn, 1) := by decide +kernel
theorem dL_law_475 : decode cL_law 475 = .ok (.goto 1959, 3) := by decide +kernel
theorem dL_law_478 : decode cL_law 478 = .ok (.aload_n 1, 1) := by decide +kernel
theorem dL_law_479 : decode cL_law 479 = .ok (.aload_n 0, 1) := by decide +kernel
theorem dL_law_480 : decode cL_law 480 = .ok (.iload 4, 2) := by decide +kernel
theorem dL_law_482 : decode cL_law 482 = .ok (.iconst 1, 1) := by decide +kernel
theorem dL_law_483 : decode cL_law 483 = .ok (.iadd, 1) := by decide +kernel
theorem dL_law_484 : decode cL_law 484 = .ok (.iaload, 1) := by decide +kernel
theorem dL_law_485 : decode cL_law 485 = .ok (.aload_n 0, 1) := by decide +kernel
theorem dL_law_486 : decode cL_law 486 = .ok (.iload 4, 2) := by decide +kernel
theorem dL_law_488 : decode cL_law 488 = .ok (.iconst 2, 1) := by decide +kernel
theorem dL_law_489 : decode cL_law 489 = .ok (.iadd, 1) := by decide +kernel
theorem dL_law_490 : decode cL_law 490 = .ok (.iaload, 1) := by decide +kernel
theorem dL_law_491 : decode cL_law 491 = .ok (.aload_n 0, 1) := by decide +kernel
theorem dL_law_492 : decode cL_law 492 = .ok (.iload 4, 2) := by decide +kernel
theorem dL_law_494 : decode cL_law 494 = .ok (.iconst 3, 1) := by decide +kernel
theorem dL_law_495 : decode cL_law 495 = .ok (.iadd, 1) := by decide +kernel
theorem dL_law_496 : decode cL_law 496 = .ok (.iaload, 1) := by decide +kernel
theorem dL_law_497 : decode cL_law 497 = .ok (.aload_n 0, 1) := by decide +kernel
theorem dL_law_498 : decode cL_law 498 = .ok (.iload 4, 2) := by decide +kernel
theorem dL_law_500 : decode cL_law 500 = .ok (.iconst 4, 1) := by decide +kernel
theorem dL_law_501 : decode cL_law 501 = .ok (.iadd, 1) := by decide +kernel
theorem dL_law_502 : decode cL_law 502 = .ok (.iaload, 1) := by decide +kernel
theorem dL_law_503 : decode cL_law 503 = .ok (.aload_n 0, 1) := by decide +kernel
theorem dL_law_504 : decode cL_law 504 = .ok (.iload 4, 2) := by decide +kernel
theorem dL_law_506 : decode cL_law 506 = .ok (.iconst 5, 1) := by decide +kernel
theorem dL_law_507 : decode cL_law 507 = .ok (.iadd, 1) := by decide +kernel
theorem dL_law_508 : decode cL_law 508 = .ok (.iaload, 1) := by decide +kernel
theorem dL_law_509 : decode cL_law 509 = .ok (.ifCond .eq 7, 3) := by decide +kernel
theorem dL_law_512 : decode cL_law 512 = .ok (.iconst 1, 1) := by decide +kernel
theorem dL_law_513 : decode cL_law 513 = .ok (.goto 4, 3) := by decide +kernel
theorem dL_law_516 : decode cL_law 516 = .ok (.iconst 0, 1) := by decide +kernel
theorem dL_law_517 : decode cL_law 517 = .ok (.aload_n 0, 1) := by decide +kernel
theorem dL_law_518 : decode cL_law 518 = .ok (.iload 4, 2) := by decide +kernel
theorem dL_law_520 : decode cL_law 520 = .ok (.bipush 6, 2) := by decide +kernel
theorem dL_law_522 : decode cL_law 522 = .ok (.iadd, 1) := by decide +kernel
theorem dL_law_523 : decode cL_law 523 = .ok (.iaload, 1) := by decide +kernel
theorem dL_law_524 : decode cL_law 524 = .ok (.ifCond .eq 7, 3) := by decide +kernel
theorem dL_law_527 : decode cL_law 527 = .ok (.iconst 1, 1) := by decide +kernel
theorem dL_law_528 : decode cL_law 528 = .ok (.goto 4, 3) := by decide +kernel
theorem dL_law_531 : decode cL_law 531 = .ok (.iconst 0, 1) := by decide +kernel
theorem dL_law_532 : decode cL_law 532 = .ok (.aload_n 3, 1) := by decide +kernel
theorem dL_law_533 : decode cL_law 533 = .ok (.invokestatic 128, 3) := by decide +kernel
theorem dL_law_536 : decode cL_law 536 = .ok (.istore 5, 2) := by decide +kernel
theorem dL_law_538 : decode cL_law 538 = .ok (.aload_n 2, 1) := by decide +kernel
theorem dL_law_539 : decode cL_law 539 = .ok (.aload_n 0, 1) := by decide +kernel
theorem dL_law_540 : decode cL_law 540 = .ok (.iload 4, 2) := by decide +kernel
theorem dL_law_542 : decode cL_law 542 = .ok (.iconst 1, 1) := by decide +kernel
theorem dL_law_543 : decode cL_law 543 = .ok (.iadd, 1) := by decide +kernel
theorem dL_law_544 : decode cL_law 544 = .ok (.iaload, 1) := by decide +kernel
theorem dL_law_545 : decode cL_law 545 = .ok (.aload_n 0, 1) := by decide +kernel
theorem dL_law_546 : decode cL_law 546 = .ok (.iload 4, 2) := by decide +kernel
theorem dL_law_548 : decode cL_law 548 = .ok (.iconst 2, 1) := by decide +kernel
theorem dL_law_549 : decode cL_law 549 = .ok (.iadd, 1) := by decide +kernel
theorem dL_law_550 : decode cL_law 550 = .ok (.iaload, 1) := by decide +kernel
theorem dL_law_551 : decode cL_law 551 = .ok (.aload_n 0, 1) := by decide +kernel
theorem dL_law_552 : decode cL_law 552 = .ok (.iload 4, 2) := by decide +kernel
theorem dL_law_554 : decode cL_law 554 = .ok (.iconst 3, 1) := by decide +kernel
theorem dL_law_555 : decode cL_law 555 = .ok (.iadd, 1) := by decide +kernel
theorem dL_law_556 : decode cL_law 556 = .ok (.iaload, 1) := by decide +kernel
theorem dL_law_557 : decode cL_law 557 = .ok (.aload_n 0, 1) := by decide +kernel
theorem dL_law_558 : decode cL_law 558 = .ok (.iload 4, 2) := by decide +kernel
theorem dL_law_560 : decode cL_law 560 = .ok (.iconst 4, 1) := by decide +kernel
theorem dL_law_561 : decode cL_law 561 = .ok (.iadd, 1) := by decide +kernel
theorem dL_law_562 : decode cL_law 562 = .ok (.iaload, 1) := by decide +kernel
theorem dL_law_563 : decode cL_law 563 = .ok (.aload_n 0, 1) := by decide +kernel
theorem dL_law_564 : decode cL_law 564 = .ok (.iload 4, 2) := by decide +kernel
theorem dL_law_566 : decode cL_law 566 = .ok (.iconst 5, 1) := by decide +kernel
theorem dL_law_567 : decode cL_law 567 = .ok (.iadd, 1) := by decide +kernel
theorem dL_law_568 : decode cL_law 568 = .ok (.iaload, 1) := by decide +kernel
theorem dL_law_569 : decode cL_law 569 = .ok (.ifCond .eq 7, 3) := by decide +kernel
theorem dL_law_572 : decode cL_law 572 = .ok (.iconst 1, 1) := by decide +kernel
theorem dL_law_573 : decode cL_law 573 = .ok (.goto 4, 3) := by decide +kernel
theorem dL_law_576 : decode cL_law 576 = .ok (.iconst 0, 1) := by decide +kernel
theorem dL_law_577 : decode cL_law 577 = .ok (.aload_n 0, 1) := by decide +kernel
theorem dL_law_578 : decode cL_law 578 = .ok (.iload 4, 2) := by decide +kernel
theorem dL_law_580 : decode cL_law 580 = .ok (.bipush 6, 2) := by decide +kernel
theorem dL_law_582 : decode cL_law 582 = .ok (.iadd, 1) := by decide +kernel
theorem dL_law_583 : decode cL_law 583 = .ok (.iaload, 1) := by decide +kernel
theorem dL_law_584 : decode cL_law 584 = .ok (.ifCond .eq 7, 3) := by decide +kernel
theorem dL_law_587 : decode cL_law 587 = .ok (.iconst 1, 1) := by decide +kernel
theorem dL_law_588 : decode cL_law 588 = .ok (.goto 4, 3) := by decide +kernel
theorem dL_law_591 : decode cL_law 591 = .ok (.iconst 0, 1) := by decide +kernel
theorem dL_law_592 : decode cL_law 592 = .ok (.invokevirtual 131, 3) := by decide +kernel
theorem dL_law_595 : decode cL_law 595 = .ok (.istore 6, 2) := by decide +kernel
theorem dL_law_597 : decode cL_law 597 = .ok (.aload_n 2, 1) := by decide +kernel
theorem dL_law_598 : decode cL_law 598 = .ok (.invokevirtual 116, 3) := by decide +kernel
theorem dL_law_601 : decode cL_law 601 = .ok (.iload 5, 2) := by decide +kernel
theorem dL_law_603 : decode cL_law 603 = .ok (.if_icmp .eq 5, 3) := by decide +kernel
theorem dL_law_606 : decode cL_law 606 = .ok (.iconst 0, 1) := by decide +kernel
theorem dL_law_607 : decode cL_law 607 = .ok (.ireturn, 1) := by decide +kernel
theorem dL_law_608 : decode cL_law 608 = .ok (.iload 5, 2) := by decide +kernel
theorem dL_law_610 : decode cL_law 610 = .ok (.ifCond .ne 15, 3) := by decide +kernel
theorem dL_law_613 : decode cL_law 613 = .ok (.aload_n 3, 1) := by decide +kernel
theorem dL_law_614 : decode cL_law 614 = .ok (.iconst 0, 1) := by decide +kernel
theorem dL_law_615 : decode cL_law 615 = .ok (.laload, 1) := by decide +kernel
theorem dL_law_616 : decode cL_law 616 = .ok (.iload 6, 2) := by decide +kernel
theorem dL_law_618 : decode cL_law 618 = .ok (.i2l, 1) := by decide +kernel
theorem dL_law_619 : decode cL_law 619 = .ok (.lcmp, 1) := by decide +kernel
theorem dL_law_620 : decode cL_law 620 = .ok (.ifCond .eq 5, 3) := by decide +kernel
theorem dL_law_623 : decode cL_law 623 = .ok (.iconst 0, 1) := by decide +kernel
theorem dL_law_624 : decode cL_law 624 = .ok (.ireturn, 1) := by decide +kernel
theorem dL_law_625 : decode cL_law 625 = .ok (.goto 1809, 3) := by decide +kernel
theorem dL_law_628 : decode cL_law 628 = .ok (.aload_n 1, 1) := by decide +kernel
theorem dL_law_629 : decode cL_law 629 = .ok (.aload_n 0, 1) := by decide +kernel
theorem dL_law_630 : decode cL_law 630 = .ok (.iload 4, 2) := by decide +kernel
theorem dL_law_632 : decode cL_law 632 = .ok (.iconst 1, 1) := by decide +kernel
theorem dL_law_633 : decode cL_law 633 = .ok (.iadd, 1) := by decide +kernel
theorem dL_law_634 : decode cL_law 634 = .ok (.iaload, 1) := by decide +kernel
theorem dL_law_635 : decode cL_law 635 = .ok (.aload_n 0, 1) := by decide +kernel
theorem dL_law_636 : decode cL_law 636 = .ok (.iload 4, 2) := by decide +kernel
theorem dL_law_638 : decode cL_law 638 = .ok (.iconst 2, 1) := by decide +kernel
theorem dL_law_639 : decode cL_law 639 = .ok (.iadd, 1) := by decide +kernel
theorem dL_law_640 : decode cL_law 640 = .ok (.iaload, 1) := by decide +kernel
theorem dL_law_641 : decode cL_law 641 = .ok (.ifCond .eq 7, 3) := by decide +kernel
theorem dL_law_644 : decode cL_law 644 = .ok (.iconst 1, 1) := by decide +kernel
theorem dL_law_645 : decode cL_law 645 = .ok (.goto 4, 3) := by decide +kernel
theorem dL_law_648 : decode cL_law 648 = .ok (.iconst 0, 1) := by decide +kernel
theorem dL_law_649 : decode cL_law 649 = .ok (.aload_n 3, 1) := by decide +kernel
theorem dL_law_650 : decode cL_law 650 = .ok (.invokestatic 132, 3) := by decide +kernel
theorem dL_law_653 : decode cL_law 653 = .ok (.istore 5, 2) := by decide +kernel
theorem dL_law_655 : decode cL_law 655 = .ok (.aload_n 2, 1) := by decide +kernel
theorem dL_law_656 : decode cL_law 656 = .ok (.aload_n 0, 1) := by decide +kernel
theorem dL_law_657 : decode cL_law 657 = .ok (.iload 4, 2) := by decide +kernel
theorem dL_law_659 : decode cL_law 659 = .ok (.iconst 1, 1) := by decide +kernel
theorem dL_law_660 : decode cL_law 660 = .ok (.iadd, 1) := by decide +kernel
theorem dL_law_661 : decode cL_law 661 = .ok (.iaload, 1) := by decide +kernel
theorem dL_law_662 : decode cL_law 662 = .ok (.aload_n 0, 1) := by decide +kernel
theorem dL_law_663 : decode cL_law 663 = .ok (.iload 4, 2) := by decide +kernel
theorem dL_law_665 : decode cL_law 665 = .ok (.iconst 2, 1) := by decide +kernel
theorem dL_law_666 : decode cL_law 666 = .ok (.iadd, 1) := by decide +kernel
theorem dL_law_667 : decode cL_law 667 = .ok (.iaload, 1) := by decide +kernel
theorem dL_law_668 : decode cL_law 668 = .ok (.ifCond .eq 7, 3) := by decide +kernel
theorem dL_law_671 : decode cL_law 671 = .ok (.iconst 1, 1) := by decide +kernel
theorem dL_law_672 : decode cL_law 672 = .ok (.goto 4, 3) := by decide +kernel
theorem dL_law_675 : decode cL_law 675 = .ok (.iconst 0, 1) := by decide +kernel
theorem dL_law_676 : decode cL_law 676 = .ok (.invokevirtual 135, 3) := by decide +kernel
theorem dL_law_679 : decode cL_law 679 = .ok (.istore 6, 2) := by decide +kernel
theorem dL_law_681 : decode cL_law 681 = .ok (.aload_n 2, 1) := by decide +kernel
theorem dL_law_682 : decode cL_law 682 = .ok (.invokevirtual 116, 3) := by decide +kernel
theorem dL_law_685 : decode cL_law 685 = .ok (.iload 5, 2) := by decide +kernel
theorem dL_law_687 : decode cL_law 687 = .ok (.if_icmp .eq 5, 3) := by decide +kernel
theorem dL_law_690 : decode cL_law 690 = .ok (.iconst 0, 1) := by decide +kernel
theorem dL_law_691 : decode cL_law 691 = .ok (.ireturn, 1) := by decide +kernel
theorem dL_law_692 : decode cL_law 692 = .ok (.iload 5, 2) := by decide +kernel
theorem dL_law_694 : decode cL_law 694 = .ok (.ifCond .ne 22, 3) := by decide +kernel
theorem dL_law_697 : decode cL_law 697 = .ok (.aload_n 3, 1) := by decide +kernel
theorem dL_law_698 : decode cL_law 698 = .ok (.iconst 0, 1) := by decide +kernel
theorem dL_law_699 : decode cL_law 699 = .ok (.laload, 1) := by decide +kernel
theorem dL_law_700 : decode cL_law 700 = .ok (.iload 6, 2) := by decide +kernel
theorem dL_law_702 : decode cL_law 702 = .ok (.ifCond .eq 7, 3) := by decide +kernel
theorem dL_law_705 : decode cL_law 705 = .ok (.lconst 1, 1) := by decide +kernel
theorem dL_law_706 : decode cL_law 706 = .ok (.goto 4, 3) := by decide +kernel
theorem dL_law_709 : decode cL_law 709 = .ok (.lconst 0, 1) := by decide +kernel
theorem dL_law_710 : decode cL_law 710 = .ok (.lcmp, 1) := by decide +kernel
theorem dL_law_711 : decode cL_law 711 = .ok (.ifCond .eq 5, 3) := by decide +kernel
theorem dL_law_714 : decode cL_law 714 = .ok (.iconst 0, 1) := by decide +kernel
theorem dL_law_715 : decode cL_law 715 = .ok (.ireturn, 1) := by decide +kernel
theorem dL_law_716 : decode cL_law 716 = .ok (.goto 1718, 3) := by decide +kernel
theorem dL_law_719 : decode cL_law 719 = .ok (.aload_n 1, 1) := by decide +kernel
theorem dL_law_720 : decode cL_law 720 = .ok (.aload_n 0, 1) := by decide +kernel
theorem dL_law_721 : decode cL_law 721 = .ok (.iload 4, 2) := by decide +kernel
theorem dL_law_723 : decode cL_law 723 = .ok (.iconst 1, 1) := by decide +kernel
theorem dL_law_724 : decode cL_law 724 = .ok (.iadd, 1) := by decide +kernel
theorem dL_law_725 : decode cL_law 725 = .ok (.iaload, 1) := by decide +kernel
theorem dL_law_726 : decode cL_law 726 = .ok (.aload_n 0, 1) := by decide +kernel
theorem dL_law_727 : decode cL_law 727 = .ok (.iload 4, 2) := by decide +kernel
theorem dL_law_729 : decode cL_law 729 = .ok (.iconst 2, 1) := by decide +kernel
theorem dL_law_730 : decode cL_law 730 = .ok (.iadd, 1) := by decide +kernel
theorem dL_law_731 : decode cL_law 731 = .ok (.iaload, 1) := by decide +kernel
theorem dL_law_732 : decode cL_law 732 = .ok (.aload_n 0, 1) := by decide +kernel
theorem dL_law_733 : decode cL_law 733 = .ok (.iload 4, 2) := by decide +kernel
theorem dL_law_735 : decode cL_law 735 = .ok (.iconst 3, 1) := by decide +kernel
theorem dL_law_736 : decode cL_law 736 = .ok (.iadd, 1) := by decide +kernel
theorem dL_law_737 : decode cL_law 737 = .ok (.iaload, 1) := by decide +kernel
theorem dL_law_738 : decode cL_law 738 = .ok (.aload_n 0, 1) := by decide +kernel
theorem dL_law_739 : decode cL_law 739 = .ok (.iload 4, 2) := by decide +kernel
theorem dL_law_741 : decode cL_law 741 = .ok (.iconst 4, 1) := by decide +kernel
theorem dL_law_742 : decode cL_law 742 = .ok (.iadd, 1) := by decide +kernel
theorem dL_law_743 : decode cL_law 743 = .ok (.iaload, 1) := by decide +kernel
theorem dL_law_744 : decode cL_law 744 = .ok (.aload_n 3, 1) := by decide +kernel
theorem dL_law_745 : decode cL_law 745 = .ok (.invokestatic 136, 3) := by decide +kernel
theorem dL_law_748 : decode cL_law 748 = .ok (.istore 5, 2) := by decide +kernel
theorem dL_law_750 : decode cL_law 750 = .ok (.aload_n 2, 1) := by decide +kernel
theorem dL_law_751 : decode cL_law 751 = .ok (.aload_n 0, 1) := by decide +kernel
theorem dL_law_752 : decode cL_law 752 = .ok (.iload 4, 2) := by decide +kernel
theorem dL_law_754 : decode cL_law 754 = .ok (.iconst 1, 1) := by decide +kernel
theorem dL_law_755 : decode cL_law 755 = .ok (.iadd, 1) := by decide +kernel
theorem dL_law_756 : decode cL_law 756 = .ok (.iaload, 1) := by decide +kernel
theorem dL_law_757 : decode cL_law 757 = .ok (.aload_n 0, 1) := by decide +kernel
theorem dL_law_758 : decode cL_law 758 = .ok (.iload 4, 2) := by decide +kernel
theorem dL_law_760 : decode cL_law 760 = .ok (.iconst 2, 1) := by decide +kernel
theorem dL_law_761 : decode cL_law 761 = .ok (.iadd, 1) := by decide +kernel
theorem dL_law_762 : decode cL_law 762 = .ok (.iaload, 1) := by decide +kernel
theorem dL_law_763 : decode cL_law 763 = .ok (.aload_n 0, 1) := by decide +kernel
theorem dL_law_764 : decode cL_law 764 = .ok (.iload 4, 2) := by decide +kernel
theorem dL_law_766 : decode cL_law 766 = .ok (.iconst 3, 1) := by decide +kernel
theorem dL_law_767 : decode cL_law 767 = .ok (.iadd, 1) := by decide +kernel
theorem dL_law_768 : decode cL_law 768 = .ok (.iaload, 1) := by decide +kernel
theorem dL_law_769 : decode cL_law 769 = .ok (.aload_n 0, 1) := by decide +kernel
theorem dL_law_770 : decode cL_law 770 = .ok (.iload 4, 2) := by decide +kernel
theorem dL_law_772 : decode cL_law 772 = .ok (.iconst 4, 1) := by decide +kernel
theorem dL_law_773 : decode cL_law 773 = .ok (.iadd, 1) := by decide +kernel
theorem dL_law_774 : decode cL_law 774 = .ok (.iaload, 1) := by decide +kernel
theorem dL_law_775 : decode cL_law 775 = .ok (.invokevirtual 138, 3) := by decide +kernel
theorem dL_law_778 : decode cL_law 778 = .ok (.istore 6, 2) := by decide +kernel
theorem dL_law_780 : decode cL_law 780 = .ok (.aload_n 2, 1) := by decide +kernel
theorem dL_law_781 : decode cL_law 781 = .ok (.invokevirtual 116, 3) := by decide +kernel
theorem dL_law_784 : decode cL_law 784 = .ok (.iload 5, 2) := by decide +kernel
theorem dL_law_786 : decode cL_law 786 = .ok (.if_icmp .eq 5, 3) := by decide +kernel
theorem dL_law_789 : decode cL_law 789 = .ok (.iconst 0, 1) := by decide +kernel
theorem dL_law_790 : decode cL_law 790 = .ok (.ireturn, 1) := by decide +kernel
theorem dL_law_791 : decode cL_law 791 = .ok (.iload 5, 2) := by decide +kernel
theorem dL_law_793 : decode cL_law 793 = .ok (.ifCond .ne 15, 3) := by decide +kernel
theorem dL_law_796 : decode cL_law 796 = .ok (.aload_n 3, 1) := by decide +kernel
theorem dL_law_797 : decode cL_law 797 = .ok (.iconst 0, 1) := by decide +kernel
theorem dL_law_798 : decode cL_law 798 = .ok (.laload, 1) := by decide +kernel
theorem dL_law_799 : decode cL_law 799 = .ok (.iload 6, 2) := by decide +kernel
theorem dL_law_801 : decode cL_law 801 = .ok (.i2l, 1) := by decide +kernel
theorem dL_law_802 : decode cL_law 802 = .ok (.lcmp, 1) := by decide +kernel
theorem dL_law_803 : decode cL_law 803 = .ok (.ifCond .eq 5, 3) := by decide +kernel
theorem dL_law_806 : decode cL_law 806 = .ok (.iconst 0, 1) := by decide +kernel
theorem dL_law_807 : decode cL_law 807 = .ok (.ireturn, 1) := by decide +kernel
theorem dL_law_808 : decode cL_law 808 = .ok (.goto 1626, 3) := by decide +kernel
theorem dL_law_811 : decode cL_law 811 = .ok (.aload_n 1, 1) := by decide +kernel
theorem dL_law_812 : decode cL_law 812 = .ok (.aload_n 0, 1) := by decide +kernel
theorem dL_law_813 : decode cL_law 813 = .ok (.iload 4, 2) := by decide +kernel
theorem dL_law_815 : decode cL_law 815 = .ok (.iconst 1, 1) := by decide +kernel
theorem dL_law_816 : decode cL_law 816 = .ok (.iadd, 1) := by decide +kernel
theorem dL_law_817 : decode cL_law 817 = .ok (.iaload, 1) := by decide +kernel
theorem dL_law_818 : decode cL_law 818 = .ok (.aload_n 0, 1) := by decide +kernel
theorem dL_law_819 : decode cL_law 819 = .ok (.iload 4, 2) := by decide +kernel
theorem dL_law_821 : decode cL_law 821 = .ok (.iconst 2, 1) := by decide +kernel
theorem dL_law_822 : decode cL_law 822 = .ok (.iadd, 1) := by decide +kernel
theorem dL_law_823 : decode cL_law 823 = .ok (.iaload, 1) := by decide +kernel
theorem dL_law_824 : decode cL_law 824 = .ok (.ifCond .eq 7, 3) := by decide +kernel
theorem dL_law_827 : decode cL_law 827 = .ok (.iconst 1, 1) := by decide +kernel
theorem dL_law_828 : decode cL_law 828 = .ok (.goto 4, 3) := by decide +kernel
theorem dL_law_831 : decode cL_law 831 = .ok (.iconst 0, 1) := by decide +kernel
theorem dL_law_832 : decode cL_law 832 = .ok (.aload_n 3, 1) := by decide +kernel
theorem dL_law_833 : decode cL_law 833 = .ok (.invokestatic 139, 3) := by decide +kernel
theorem dL_law_836 : decode cL_law 836 = .ok (.istore 5, 2) := by decide +kernel
theorem dL_law_838 : decode cL_law 838 = .ok (.aload_n 2, 1) := by decide +kernel
theorem dL_law_839 : decode cL_law 839 = .ok (.aload_n 0, 1) := by decide +kernel
theorem dL_law_840 : decode cL_law 840 = .ok (.iload 4, 2) := by decide +kernel
theorem dL_law_842 : decode cL_law 842 = .ok (.iconst 1, 1) := by decide +kernel
theorem dL_law_843 : decode cL_law 843 = .ok (.iadd, 1) := by decide +kernel
theorem dL_law_844 : decode cL_law 844 = .ok (.iaload, 1) := by decide +kernel
theorem dL_law_845 : decode cL_law 845 = .ok (.aload_n 0, 1) := by decide +kernel
theorem dL_law_846 : decode cL_law 846 = .ok (.iload 4, 2) := by decide +kernel
theorem dL_law_848 : decode cL_law 848 = .ok (.iconst 2, 1) := by decide +kernel
theorem dL_law_849 : decode cL_law 849 = .ok (.iadd, 1) := by decide +kernel
theorem dL_law_850 : decode cL_law 850 = .ok (.iaload, 1) := by decide +kernel
theorem dL_law_851 : decode cL_law 851 = .ok (.ifCond .eq 7, 3) := by decide +kernel
theorem dL_law_854 : decode cL_law 854 = .ok (.iconst 1, 1) := by decide +kernel
theorem dL_law_855 : decode cL_law 855 = .ok (.goto 4, 3) := by decide +kernel
theorem dL_law_858 : decode cL_law 858 = .ok (.iconst 0, 1) := by decide +kernel
theorem dL_law_859 : decode cL_law 859 = .ok (.invokevirtual 141, 3) := by decide +kernel
theorem dL_law_862 : decode cL_law 862 = .ok (.istore 6, 2) := by decide +kernel
theorem dL_law_864 : decode cL_law 864 = .ok (.aload_n 2, 1) := by decide +kernel
theorem dL_law_865 : decode cL_law 865 = .ok (.invokevirtual 116, 3) := by decide +kernel
theorem dL_law_868 : decode cL_law 868 = .ok (.iload 5, 2) := by decide +kernel
theorem dL_law_870 : decode cL_law 870 = .ok (.if_icmp .eq 5, 3) := by decide +kernel
theorem dL_law_873 : decode cL_law 873 = .ok (.iconst 0, 1) := by decide +kernel
theorem dL_law_874 : decode cL_law 874 = .ok (.ireturn, 1) := by decide +kernel
theorem dL_law_875 : decode cL_law 875 = .ok (.iload 5, 2) := by decide +kernel
theorem dL_law_877 : decode cL_law 877 = .ok (.ifCond .ne 22, 3) := by decide +kernel
theorem dL_law_880 : decode cL_law 880 = .ok (.aload_n 3, 1) := by decide +kernel
theorem dL_law_881 : decode cL_law 881 = .ok (.iconst 0, 1) := by decide +kernel
theorem dL_law_882 : decode cL_law 882 = .ok (.laload, 1) := by decide +kernel
theorem dL_law_883 : decode cL_law 883 = .ok (.iload 6, 2) := by decide +kernel
theorem dL_law_885 : decode cL_law 885 = .ok (.ifCond .eq 7, 3) := by decide +kernel
theorem dL_law_888 : decode cL_law 888 = .ok (.lconst 1, 1) := by decide +kernel
theorem dL_law_889 : decode cL_law 889 = .ok (.goto 4, 3) := by decide +kernel
theorem dL_law_892 : decode cL_law 892 = .ok (.lconst 0, 1) := by decide +kernel
theorem dL_law_893 : decode cL_law 893 = .ok (.lcmp, 1) := by decide +kernel
theorem dL_law_894 : decode cL_law 894 = .ok (.ifCond .eq 5, 3) := by decide +kernel
theorem dL_law_897 : decode cL_law 897 = .ok (.iconst 0, 1) := by decide +kernel
theorem dL_law_898 : decode cL_law 898 = .ok (.ireturn, 1) := by decide +kernel
theorem dL_law_899 : decode cL_law 899 = .ok (.goto 1535, 3) := by decide +kernel
theorem dL_law_902 : decode cL_law 902 = .ok (.aload_n 1, 1) := by decide +kernel
theorem dL_law_903 : decode cL_law 903 = .ok (.aload_n 0, 1) := by decide +kernel
theorem dL_law_904 : decode cL_law 904 = .ok (.iload 4, 2) := by decide +kernel
theorem dL_law_906 : decode cL_law 906 = .ok (.iconst 1, 1) := by decide +kernel
theorem dL_law_907 : decode cL_law 907 = .ok (.iadd, 1) := by decide +kernel
theorem dL_law_908 : decode cL_law 908 = .ok (.iaload, 1) := by decide +kernel
theorem dL_law_909 : decode cL_law 909 = .ok (.aload_n 0, 1) := by decide +kernel
theorem dL_law_910 : decode cL_law 910 = .ok (.iload 4, 2) := by decide +kernel
theorem dL_law_912 : decode cL_law 912 = .ok (.iconst 2, 1) := by decide +kernel
theorem dL_law_913 : decode cL_law 913 = .ok (.iadd, 1) := by decide +kernel
theorem dL_law_914 : decode cL_law 914 = .ok (.iaload, 1) := by decide +kernel
theorem dL_law_915 : decode cL_law 915 = .ok (.aload_n 0, 1) := by decide +kernel
theorem dL_law_916 : decode cL_law 916 = .ok (.iload 4, 2) := by decide +kernel
theorem dL_law_918 : decode cL_law 918 = .ok (.iconst 3, 1) := by decide +kernel
theorem dL_law_919 : decode cL_law 919 = .ok (.iadd, 1) := by decide +kernel
theorem dL_law_920 : decode cL_law 920 = .ok (.iaload, 1) := by decide +kernel
theorem dL_law_921 : decode cL_law 921 = .ok (.aload_n 0, 1) := by decide +kernel
theorem dL_law_922 : decode cL_law 922 = .ok (.iload 4, 2) := by decide +kernel
theorem dL_law_924 : decode cL_law 924 = .ok (.iconst 4, 1) := by decide +kernel
theorem dL_law_925 : decode cL_law 925 = .ok (.iadd, 1) := by decide +kernel
theorem dL_law_926 : decode cL_law 926 = .ok (.iaload, 1) := by decide +kernel
theorem dL_law_927 : decode cL_law 927 = .ok (.aload_n 0, 1) := by decide +kernel
theorem dL_law_928 : decode cL_law 928 = .ok (.iload 4, 2) := by decide +kernel
theorem dL_law_930 : decode cL_law 930 = .ok (.iconst 5, 1) := by decide +kernel
theorem dL_law_931 : decode cL_law 931 = .ok (.iadd, 1) := by decide +kernel
theorem dL_law_932 : decode cL_law 932 = .ok (.iaload, 1) := by decide +kernel
theorem dL_law_933 : decode cL_law 933 = .ok (.aload_n 3, 1) := by decide +kernel
theorem dL_law_934 : decode cL_law 934 = .ok (.invokestatic 142, 3) := by decide +kernel
theorem dL_law_937 : decode cL_law 937 = .ok (.istore 5, 2) := by decide +kernel
theorem dL_law_939 : decode cL_law 939 = .ok (.aload_n 2, 1) := by decide +kernel
theorem dL_law_940 : decode cL_law 940 = .ok (.aload_n 0, 1) := by decide +kernel
theorem dL_law_941 : decode cL_law 941 = .ok (.iload 4, 2) := by decide +kernel
theorem dL_law_943 : decode cL_law 943 = .ok (.iconst 1, 1) := by decide +kernel
theorem dL_law_944 : decode cL_law 944 = .ok (.iadd, 1) := by decide +kernel
theorem dL_law_945 : decode cL_law 945 = .ok (.iaload, 1) := by decide +kernel
theorem dL_law_946 : decode cL_law 946 = .ok (.aload_n 0, 1) := by decide +kernel
theorem dL_law_947 : decode cL_law 947 = .ok (.iload 4, 2) := by decide +kernel
theorem dL_law_949 : decode cL_law 949 = .ok (.iconst 2, 1) := by decide +kernel
theorem dL_law_950 : decode cL_law 950 = .ok (.iadd, 1) := by decide +kernel
theorem dL_law_951 : decode cL_law 951 = .ok (.iaload, 1) := by decide +kernel
theorem dL_law_952 : decode cL_law 952 = .ok (.aload_n 0, 1) := by decide +kernel
theorem dL_law_953 : decode cL_law 953 = .ok (.iload 4, 2) := by decide +kernel
theorem dL_law_955 : decode cL_law 955 = .ok (.iconst 3, 1) := by decide +kernel
theorem dL_law_956 : decode cL_law 956 = .ok (.iadd, 1) := by decide +kernel
theorem dL_law_957 : decode cL_law 957 = .ok (.iaload, 1) := by decide +kernel
theorem dL_law_958 : decode cL_law 958 = .ok (.aload_n 0, 1) := by decide +kernel
theorem dL_law_959 : decode cL_law 959 = .ok (.iload 4, 2) := by decide +kernel
theorem dL_law_961 : decode cL_law 961 = .ok (.iconst 4, 1) := by decide +kernel
theorem dL_law_962 : decode cL_law 962 = .ok (.iadd, 1) := by decide +kernel
theorem dL_law_963 : decode cL_law 963 = .ok (.iaload, 1) := by decide +kernel
theorem dL_law_964 : decode cL_law 964 = .ok (.aload_n 0, 1) := by decide +kernel
theorem dL_law_965 : decode cL_law 965 = .ok (.iload 4, 2) := by decide +kernel
theorem dL_law_967 : decode cL_law 967 = .ok (.iconst 5, 1) := by decide +kernel
theorem dL_law_968 : decode cL_law 968 = .ok (.iadd, 1) := by decide +kernel
theorem dL_law_969 : decode cL_law 969 = .ok (.iaload, 1) := by decide +kernel
theorem dL_law_970 : decode cL_law 970 = .ok (.invokevirtual 145, 3) := by decide +kernel
theorem dL_law_973 : decode cL_law 973 = .ok (.istore 6, 2) := by decide +kernel
theorem dL_law_975 : decode cL_law 975 = .ok (.aload_n 2, 1) := by decide +kernel
theorem dL_law_976 : decode cL_law 976 = .ok (.invokevirtual 116, 3) := by decide +kernel
theorem dL_law_979 : decode cL_law 979 = .ok (.iload 5, 2) := by decide +kernel
theorem dL_law_981 : decode cL_law 981 = .ok (.if_icmp .eq 5, 3) := by decide +kernel
theorem dL_law_984 : decode cL_law 984 = .ok (.iconst 0, 1) := by decide +kernel
theorem dL_law_985 : decode cL_law 985 = .ok (.ireturn, 1) := by decide +kernel
theorem dL_law_986 : decode cL_law 986 = .ok (.iload 5, 2) := by decide +kernel
theorem dL_law_988 : decode cL_law 988 = .ok (.ifCond .ne 15, 3) := by decide +kernel
theorem dL_law_991 : decode cL_law 991 = .ok (.aload_n 3, 1) := by decide +kernel
theorem dL_law_992 : decode cL_law 992 = .ok (.iconst 0, 1) := by decide +kernel
theorem dL_law_993 : decode cL_law 993 = .ok (.laload, 1) := by decide +kernel
theorem dL_law_994 : decode cL_law 994 = .ok (.iload 6, 2) := by decide +kernel
theorem dL_law_996 : decode cL_law 996 = .ok (.i2l, 1) := by decide +kernel
theorem dL_law_997 : decode cL_law 997 = .ok (.lcmp, 1) := by decide +kernel
theorem dL_law_998 : decode cL_law 998 = .ok (.ifCond .eq 5, 3) := by decide +kernel
theorem dL_law_1001 : decode cL_law 1001 = .ok (.iconst 0, 1) := by decide +kernel
theorem dL_law_1002 : decode cL_law 1002 = .ok (.ireturn, 1) := by decide +kernel
theorem dL_law_1003 : decode cL_law 1003 = .ok (.goto 1431, 3) := by decide +kernel
theorem dL_law_1006 : decode cL_law 1006 = .ok (.aload_n 1, 1) := by decide +kernel
theorem dL_law_1007 : decode cL_law 1007 = .ok (.aload_n 0, 1) := by decide +kernel
theorem dL_law_1008 : decode cL_law 1008 = .ok (.iload 4, 2) := by decide +kernel
theorem dL_law_1010 : decode cL_law 1010 = .ok (.iconst 1, 1) := by decide +kernel
theorem dL_law_1011 : decode cL_law 1011 = .ok (.iadd, 1) := by decide +kernel
theorem dL_law_1012 : decode cL_law 1012 = .ok (.iaload, 1) := by decide +kernel
theorem dL_law_1013 : decode cL_law 1013 = .ok (.aload_n 0, 1) := by decide +kernel
theorem dL_law_1014 : decode cL_law 1014 = .ok (.iload 4, 2) := by decide +kernel
theorem dL_law_1016 : decode cL_law 1016 = .ok (.iconst 2, 1) := by decide +kernel
theorem dL_law_1017 : decode cL_law 1017 = .ok (.iadd, 1) := by decide +kernel
theorem dL_law_1018 : decode cL_law 1018 = .ok (.iaload, 1) := by decide +kernel
theorem dL_law_1019 : decode cL_law 1019 = .ok (.aload_n 3, 1) := by decide +kernel
theorem dL_law_1020 : decode cL_law 1020 = .ok (.invokestatic 146, 3) := by decide +kernel
theorem dL_law_1023 : decode cL_law 1023 = .ok (.istore 5, 2) := by decide +kernel
theorem dL_law_1025 : decode cL_law 1025 = .ok (.aload_n 2, 1) := by decide +kernel
theorem dL_law_1026 : decode cL_law 1026 = .ok (.aload_n 0, 1) := by decide +kernel
theorem dL_law_1027 : decode cL_law 1027 = .ok (.iload 4, 2) := by decide +kernel
theorem dL_law_1029 : decode cL_law 1029 = .ok (.iconst 1, 1) := by decide +kernel
theorem dL_law_1030 : decode cL_law 1030 = .ok (.iadd, 1) := by decide +kernel
theorem dL_law_1031 : decode cL_law 1031 = .ok (.iaload, 1) := by decide +kernel
theorem dL_law_1032 : decode cL_law 1032 = .ok (.aload_n 0, 1) := by decide +kernel
theorem dL_law_1033 : decode cL_law 1033 = .ok (.iload 4, 2) := by decide +kernel
theorem dL_law_1035 : decode cL_law 1035 = .ok (.iconst 2, 1) := by decide +kernel
theorem dL_law_1036 : decode cL_law 1036 = .ok (.iadd, 1) := by decide +kernel
theorem dL_law_1037 : decode cL_law 1037 = .ok (.iaload, 1) := by decide +kernel
theorem dL_law_1038 : decode cL_law 1038 = .ok (.invokevirtual 148, 3) := by decide +kernel
theorem dL_law_1041 : decode cL_law 1041 = .ok (.istore 6, 2) := by decide +kernel
theorem dL_law_1043 : decode cL_law 1043 = .ok (.aload_n 2, 1) := by decide +kernel
theorem dL_law_1044 : decode cL_law 1044 = .ok (.invokevirtual 116, 3) := by decide +kernel
theorem dL_law_1047 : decode cL_law 1047 = .ok (.iload 5, 2) := by decide +kernel
theorem dL_law_1049 : decode cL_law 1049 = .ok (.if_icmp .eq 5, 3) := by decide +kernel
theorem dL_law_1052 : decode cL_law 1052 = .ok (.iconst 0, 1) := by decide +kernel
theorem dL_law_1053 : decode cL_law 1053 = .ok (.ireturn, 1) := by decide +kernel
theorem dL_law_1054 : decode cL_law 1054 = .ok (.iload 5, 2) := by decide +kernel
theorem dL_law_1056 : decode cL_law 1056 = .ok (.ifCond .ne 15, 3) := by decide +kernel
theorem dL_law_1059 : decode cL_law 1059 = .ok (.aload_n 3, 1) := by decide +kernel
theorem dL_law_1060 : decode cL_law 1060 = .ok (.iconst 0, 1) := by decide +kernel
theorem dL_law_1061 : decode cL_law 1061 = .ok (.laload, 1) := by decide +kernel
theorem dL_law_1062 : decode cL_law 1062 = .ok (.iload 6, 2) := by decide +kernel
theorem dL_law_1064 : decode cL_law 1064 = .ok (.i2l, 1) := by decide +kernel
theorem dL_law_1065 : decode cL_law 1065 = .ok (.lcmp, 1) := by decide +kernel
theorem dL_law_1066 : decode cL_law 1066 = .ok (.ifCond .eq 5, 3) := by decide +kernel
theorem dL_law_1069 : decode cL_law 1069 = .ok (.iconst 0, 1) := by decide +kernel
theorem dL_law_1070 : decode cL_law 1070 = .ok (.ireturn, 1) := by decide +kernel
theorem dL_law_1071 : decode cL_law 1071 = .ok (.goto 1363, 3) := by decide +kernel
theorem dL_law_1074 : decode cL_law 1074 = .ok (.aload_n 1, 1) := by decide +kernel
theorem dL_law_1075 : decode cL_law 1075 = .ok (.aload_n 0, 1) := by decide +kernel
theorem dL_law_1076 : decode cL_law 1076 = .ok (.iload 4, 2) := by decide +kernel
theorem dL_law_1078 : decode cL_law 1078 = .ok (.iconst 1, 1) := by decide +kernel
theorem dL_law_1079 : decode cL_law 1079 = .ok (.iadd, 1) := by decide +kernel
theorem dL_law_1080 : decode cL_law 1080 = .ok (.iaload, 1) := by decide +kernel
theorem dL_law_1081 : decode cL_law 1081 = .ok (.aload_n 3, 1) := by decide +kernel
theorem dL_law_1082 : decode cL_law 1082 = .ok (.invokestatic 149, 3) := by decide +kernel
theorem dL_law_1085 : decode cL_law 1085 = .ok (.istore 5, 2) := by decide +kernel
theorem dL_law_1087 : decode cL_law 1087 = .ok (.aload_n 2, 1) := by decide +kernel
theorem dL_law_1088 : decode cL_law 1088 = .ok (.aload_n 0, 1) := by decide +kernel
theorem dL_law_1089 : decode cL_law 1089 = .ok (.iload 4, 2) := by decide +kernel
theorem dL_law_1091 : decode cL_law 1091 = .ok (.iconst 1, 1) := by decide +kernel
theorem dL_law_1092 : decode cL_law 1092 = .ok (.iadd, 1) := by decide +kernel
theorem dL_law_1093 : decode cL_law 1093 = .ok (.iaload, 1) := by decide +kernel
theorem dL_law_1094 : decode cL_law 1094 = .ok (.invokevirtual 152, 3) := by decide +kernel
theorem dL_law_1097 : decode cL_law 1097 = .ok (.istore 6, 2) := by decide +kernel
theorem dL_law_1099 : decode cL_law 1099 = .ok (.aload_n 2, 1) := by decide +kernel
theorem dL_law_1100 : decode cL_law 1100 = .ok (.invokevirtual 116, 3) := by decide +kernel
theorem dL_law_1103 : decode cL_law 1103 = .ok (.iload 5, 2) := by decide +kernel
theorem dL_law_1105 : decode cL_law 1105 = .ok (.if_icmp .eq 5, 3) := by decide +kernel
theorem dL_law_1108 : decode cL_law 1108 = .ok (.iconst 0, 1) := by decide +kernel
theorem dL_law_1109 : decode cL_law 1109 = .ok (.ireturn, 1) := by decide +kernel
theorem dL_law_1110 : decode cL_law 1110 = .ok (.iload 5, 2) := by decide +kernel
theorem dL_law_1112 : decode cL_law 1112 = .ok (.ifCond .ne 15, 3) := by decide +kernel
theorem dL_law_1115 : decode cL_law 1115 = .ok (.aload_n 3, 1) := by decide +kernel
theorem dL_law_1116 : decode cL_law 1116 = .ok (.iconst 0, 1) := by decide +kernel
theorem dL_law_1117 : decode cL_law 1117 = .ok (.laload, 1) := by decide +kernel
theorem dL_law_1118 : decode cL_law 1118 = .ok (.iload 6, 2) := by decide +kernel
theorem dL_law_1120 : decode cL_law 1120 = .ok (.i2l, 1) := by decide +kernel
theorem dL_law_1121 : decode cL_law 1121 = .ok (.lcmp, 1) := by decide +kernel
theorem dL_law_1122 : decode cL_law 1122 = .ok (.ifCond .eq 5, 3) := by decide +kernel
theorem dL_law_1125 : decode cL_law 1125 = .ok (.iconst 0, 1) := by decide +kernel
theorem dL_law_1126 : decode cL_law 1126 = .ok (.ireturn, 1) := by decide +kernel
theorem dL_law_1127 : decode cL_law 1127 = .ok (.goto 1307, 3) := by decide +kernel
theorem dL_law_1130 : decode cL_law 1130 = .ok (.aload_n 1, 1) := by decide +kernel
theorem dL_law_1131 : decode cL_law 1131 = .ok (.invokevirtual 153, 3) := by decide +kernel
theorem dL_law_1134 : decode cL_law 1134 = .ok (.aload_n 2, 1) := by decide +kernel
theorem dL_law_1135 : decode cL_law 1135 = .ok (.invokevirtual 156, 3) := by decide +kernel
theorem dL_law_1138 : decode cL_law 1138 = .ok (.if_icmp .eq 1296, 3) := by decide +kernel
theorem dL_law_1141 : decode cL_law 1141 = .ok (.iconst 0, 1) := by decide +kernel
theorem dL_law_1142 : decode cL_law 1142 = .ok (.ireturn, 1) := by decide +kernel
theorem dL_law_1143 : decode cL_law 1143 = .ok (.aload_n 1, 1) := by decide +kernel
theorem dL_law_1144 : decode cL_law 1144 = .ok (.invokevirtual 157, 3) := by decide +kernel
theorem dL_law_1147 : decode cL_law 1147 = .ok (.aload_n 2, 1) := by decide +kernel
theorem dL_law_1148 : decode cL_law 1148 = .ok (.invokevirtual 160, 3) := by decide +kernel
theorem dL_law_1151 : decode cL_law 1151 = .ok (.if_icmp .eq 1283, 3) := by decide +kernel
theorem dL_law_1154 : decode cL_law 1154 = .ok (.iconst 0, 1) := by decide +kernel
theorem dL_law_1155 : decode cL_law 1155 = .ok (.ireturn, 1) := by decide +kernel
theorem dL_law_1156 : decode cL_law 1156 = .ok (.aload_n 1, 1) := by decide +kernel
theorem dL_law_1157 : decode cL_law 1157 = .ok (.aload_n 0, 1) := by decide +kernel
theorem dL_law_1158 : decode cL_law 1158 = .ok (.iload 4, 2) := by decide +kernel
theorem dL_law_1160 : decode cL_law 1160 = .ok (.iconst 1, 1) := by decide +kernel
theorem dL_law_1161 : decode cL_law 1161 = .ok (.iadd, 1) := by decide +kernel
theorem dL_law_1162 : decode cL_law 1162 = .ok (.iaload, 1) := by decide +kernel
theorem dL_law_1163 : decode cL_law 1163 = .ok (.aload_n 0, 1) := by decide +kernel
theorem dL_law_1164 : decode cL_law 1164 = .ok (.iload 4, 2) := by decide +kernel
theorem dL_law_1166 : decode cL_law 1166 = .ok (.iconst 2, 1) := by decide +kernel
theorem dL_law_1167 : decode cL_law 1167 = .ok (.iadd, 1) := by decide +kernel
theorem dL_law_1168 : decode cL_law 1168 = .ok (.iaload, 1) := by decide +kernel
theorem dL_law_1169 : decode cL_law 1169 = .ok (.aload_n 3, 1) := by decide +kernel
theorem dL_law_1170 : decode cL_law 1170 = .ok (.invokestatic 161, 3) := by decide +kernel
theorem dL_law_1173 : decode cL_law 1173 = .ok (.istore 5, 2) := by decide +kernel
theorem dL_law_1175 : decode cL_law 1175 = .ok (.aload_n 2, 1) := by decide +kernel
theorem dL_law_1176 : decode cL_law 1176 = .ok (.aload_n 0, 1) := by decide +kernel
theorem dL_law_1177 : decode cL_law 1177 = .ok (.iload 4, 2) := by decide +kernel
theorem dL_law_1179 : decode cL_law 1179 = .ok (.iconst 1, 1) := by decide +kernel
theorem dL_law_1180 : decode cL_law 1180 = .ok (.iadd, 1) := by decide +kernel
theorem dL_law_1181 : decode cL_law 1181 = .ok (.iaload, 1) := by decide +kernel
theorem dL_law_1182 : decode cL_law 1182 = .ok (.aload_n 0, 1) := by decide +kernel
theorem dL_law_1183 : decode cL_law 1183 = .ok (.iload 4, 2) := by decide +kernel
theorem dL_law_1185 : decode cL_law 1185 = .ok (.iconst 2, 1) := by decide +kernel
theorem dL_law_1186 : decode cL_law 1186 = .ok (.iadd, 1) := by decide +kernel
theorem dL_law_1187 : decode cL_law 1187 = .ok (.iaload, 1) := by decide +kernel
theorem dL_law_1188 : decode cL_law 1188 = .ok (.invokevirtual 163, 3) := by decide +kernel
theorem dL_law_1191 : decode cL_law 1191 = .ok (.istore 6, 2) := by decide +kernel
theorem dL_law_1193 : decode cL_law 1193 = .ok (.aload_n 2, 1) := by decide +kernel
theorem dL_law_1194 : decode cL_law 1194 = .ok (.invokevirtual 116, 3) := by decide +kernel
theorem dL_law_1197 : decode cL_law 1197 = .ok (.iload 5, 2) := by decide +kernel
theorem dL_law_1199 : decode cL_law 1199 = .ok (.if_icmp .eq 5, 3) := by decide +kernel
theorem dL_law_1202 : decode cL_law 1202 = .ok (.iconst 0, 1) := by decide +kernel
theorem dL_law_1203 : decode cL_law 1203 = .ok (.ireturn, 1) := by decide +kernel
theorem dL_law_1204 : decode cL_law 1204 = .ok (.iload 5, 2) := by decide +kernel
theorem dL_law_1206 : decode cL_law 1206 = .ok (.ifCond .ne 15, 3) := by decide +kernel
theorem dL_law_1209 : decode cL_law 1209 = .ok (.aload_n 3, 1) := by decide +kernel
theorem dL_law_1210 : decode cL_law 1210 = .ok (.iconst 0, 1) := by decide +kernel
theorem dL_law_1211 : decode cL_law 1211 = .ok (.laload, 1) := by decide +kernel
theorem dL_law_1212 : decode cL_law 1212 = .ok (.iload 6, 2) := by decide +kernel
theorem dL_law_1214 : decode cL_law 1214 = .ok (.i2l, 1) := by decide +kernel
theorem dL_law_1215 : decode cL_law 1215 = .ok (.lcmp, 1) := by decide +kernel
theorem dL_law_1216 : decode cL_law 1216 = .ok (.ifCond .eq 5, 3) := by decide +kernel
theorem dL_law_1219 : decode cL_law 1219 = .ok (.iconst 0, 1) := by decide +kernel
theorem dL_law_1220 : decode cL_law 1220 = .ok (.ireturn, 1) := by decide +kernel
theorem dL_law_1221 : decode cL_law 1221 = .ok (.goto 1213, 3) := by decide +kernel
theorem dL_law_1224 : decode cL_law 1224 = .ok (.aload_n 1, 1) := by decide +kernel
theorem dL_law_1225 : decode cL_law 1225 = .ok (.aload_n 0, 1) := by decide +kernel
theorem dL_law_1226 : decode cL_law 1226 = .ok (.iload 4, 2) := by decide +kernel
theorem dL_law_1228 : decode cL_law 1228 = .ok (.iconst 1, 1) := by decide +kernel
theorem dL_law_1229 : decode cL_law 1229 = .ok (.iadd, 1) := by decide +kernel
theorem dL_law_1230 : decode cL_law 1230 = .ok (.iaload, 1) := by decide +kernel
theorem dL_law_1231 : decode cL_law 1231 = .ok (.aload_n 3, 1) := by decide +kernel
theorem dL_law_1232 : decode cL_law 1232 = .ok (.invokestatic 164, 3) := by decide +kernel
theorem dL_law_1235 : decode cL_law 1235 = .ok (.istore 5, 2) := by decide +kernel
theorem dL_law_1237 : decode cL_law 1237 = .ok (.aload_n 2, 1) := by decide +kernel
theorem dL_law_1238 : decode cL_law 1238 = .ok (.aload_n 0, 1) := by decide +kernel
theorem dL_law_1239 : decode cL_law 1239 = .ok (.iload 4, 2) := by decide +kernel
theorem dL_law_1241 : decode cL_law 1241 = .ok (.iconst 1, 1) := by decide +kernel
theorem dL_law_1242 : decode cL_law 1242 = .ok (.iadd, 1) := by decide +kernel
theorem dL_law_1243 : decode cL_law 1243 = .ok (.iaload, 1) := by decide +kernel
theorem dL_law_1244 : decode cL_law 1244 = .ok (.invokevirtual 166, 3) := by decide +kernel
theorem dL_law_1247 : decode cL_law 1247 = .ok (.istore 6, 2) := by decide +kernel
theorem dL_law_1249 : decode cL_law 1249 = .ok (.aload_n 2, 1) := by decide +kernel
theorem dL_law_1250 : decode cL_law 1250 = .ok (.invokevirtual 116, 3) := by decide +kernel
theorem dL_law_1253 : decode cL_law 1253 = .ok (.iload 5, 2) := by decide +kernel
theorem dL_law_1255 : decode cL_law 1255 = .ok (.if_icmp .eq 5, 3) := by decide +kernel
theorem dL_law_1258 : decode cL_law 1258 = .ok (.iconst 0, 1) := by decide +kernel
theorem dL_law_1259 : decode cL_law 1259 = .ok (.ireturn, 1) := by decide +kernel
theorem dL_law_1260 : decode cL_law 1260 = .ok (.iload 5, 2) := by decide +kernel
theorem dL_law_1262 : decode cL_law 1262 = .ok (.ifCond .ne 15, 3) := by decide +kernel
theorem dL_law_1265 : decode cL_law 1265 = .ok (.aload_n 3, 1) := by decide +kernel
theorem dL_law_1266 : decode cL_law 1266 = .ok (.iconst 0, 1) := by decide +kernel
theorem dL_law_1267 : decode cL_law 1267 = .ok (.laload, 1) := by decide +kernel
theorem dL_law_1268 : decode cL_law 1268 = .ok (.iload 6, 2) := by decide +kernel
theorem dL_law_1270 : decode cL_law 1270 = .ok (.i2l, 1) := by decide +kernel
theorem dL_law_1271 : decode cL_law 1271 = .ok (.lcmp, 1) := by decide +kernel
theorem dL_law_1272 : decode cL_law 1272 = .ok (.ifCond .eq 5, 3) := by decide +kernel
theorem dL_law_1275 : decode cL_law 1275 = .ok (.iconst 0, 1) := by decide +kernel
theorem dL_law_1276 : decode cL_law 1276 = .ok (.ireturn, 1) := by decide +kernel
theorem dL_law_1277 : decode cL_law 1277 = .ok (.goto 1157, 3) := by decide +kernel
theorem dL_law_1280 : decode cL_law 1280 = .ok (.aload_n 1, 1) := by decide +kernel
theorem dL_law_1281 : decode cL_law 1281 = .ok (.aload_n 0, 1) := by decide +kernel
theorem dL_law_1282 : decode cL_law 1282 = .ok (.iload 4, 2) := by decide +kernel
theorem dL_law_1284 : decode cL_law 1284 = .ok (.iconst 1, 1) := by decide +kernel
theorem dL_law_1285 : decode cL_law 1285 = .ok (.iadd, 1) := by decide +kernel
theorem dL_law_1286 : decode cL_law 1286 = .ok (.iaload, 1) := by decide +kernel
theorem dL_law_1287 : decode cL_law 1287 = .ok (.aload_n 0, 1) := by decide +kernel
theorem dL_law_1288 : decode cL_law 1288 = .ok (.iload 4, 2) := by decide +kernel
theorem dL_law_1290 : decode cL_law 1290 = .ok (.iconst 2, 1) := by decide +kernel
theorem dL_law_1291 : decode cL_law 1291 = .ok (.iadd, 1) := by decide +kernel
theorem dL_law_1292 : decode cL_law 1292 = .ok (.iaload, 1) := by decide +kernel
theorem dL_law_1293 : decode cL_law 1293 = .ok (.aload_n 0, 1) := by decide +kernel
theorem dL_law_1294 : decode cL_law 1294 = .ok (.iload 4, 2) := by decide +kernel
theorem dL_law_1296 : decode cL_law 1296 = .ok (.iconst 3, 1) := by decide +kernel
theorem dL_law_1297 : decode cL_law 1297 = .ok (.iadd, 1) := by decide +kernel
theorem dL_law_1298 : decode cL_law 1298 = .ok (.iaload, 1) := by decide +kernel
theorem dL_law_1299 : decode cL_law 1299 = .ok (.aload_n 3, 1) := by decide +kernel
theorem dL_law_1300 : decode cL_law 1300 = .ok (.invokestatic 167, 3) := by decide +kernel
theorem dL_law_1303 : decode cL_law 1303 = .ok (.istore 5, 2) := by decide +kernel
theorem dL_law_1305 : decode cL_law 1305 = .ok (.aload_n 2, 1) := by decide +kernel
theorem dL_law_1306 : decode cL_law 1306 = .ok (.aload_n 0, 1) := by decide +kernel
theorem dL_law_1307 : decode cL_law 1307 = .ok (.iload 4, 2) := by decide +kernel
theorem dL_law_1309 : decode cL_law 1309 = .ok (.iconst 1, 1) := by decide +kernel
theorem dL_law_1310 : decode cL_law 1310 = .ok (.iadd, 1) := by decide +kernel
theorem dL_law_1311 : decode cL_law 1311 = .ok (.iaload, 1) := by decide +kernel
theorem dL_law_1312 : decode cL_law 1312 = .ok (.aload_n 0, 1) := by decide +kernel
theorem dL_law_1313 : decode cL_law 1313 = .ok (.iload 4, 2) := by decide +kernel
theorem dL_law_1315 : decode cL_law 1315 = .ok (.iconst 2, 1) := by decide +kernel
theorem dL_law_1316 : decode cL_law 1316 = .ok (.iadd, 1) := by decide +kernel
theorem dL_law_1317 : decode cL_law 1317 = .ok (.iaload, 1) := by decide +kernel
theorem dL_law_1318 : decode cL_law 1318 = .ok (.aload_n 0, 1) := by decide +kernel
theorem dL_law_1319 : decode cL_law 1319 = .ok (.iload 4, 2) := by decide +kernel
theorem dL_law_1321 : decode cL_law 1321 = .ok (.iconst 3, 1) := by decide +kernel
theorem dL_law_1322 : decode cL_law 1322 = .ok (.iadd, 1) := by decide +kernel
theorem dL_law_1323 : decode cL_law 1323 = .ok (.iaload, 1) := by decide +kernel
theorem dL_law_1324 : decode cL_law 1324 = .ok (.invokevirtual 170, 3) := by decide +kernel
theorem dL_law_1327 : decode cL_law 1327 = .ok (.istore 6, 2) := by decide +kernel
theorem dL_law_1329 : decode cL_law 1329 = .ok (.aload_n 2, 1) := by decide +kernel
theorem dL_law_1330 : decode cL_law 1330 = .ok (.invokevirtual 116, 3) := by decide +kernel
theorem dL_law_1333 : decode cL_law 1333 = .ok (.iload 5, 2) := by decide +kernel
theorem dL_law_1335 : decode cL_law 1335 = .ok (.if_icmp .eq 5, 3) := by decide +kernel
theorem dL_law_1338 : decode cL_law 1338 = .ok (.iconst 0, 1) := by decide +kernel
theorem dL_law_1339 : decode cL_law 1339 = .ok (.ireturn, 1) := by decide +kernel
theorem dL_law_1340 : decode cL_law 1340 = .ok (.iload 5, 2) := by decide +kernel
theorem dL_law_1342 : decode cL_law 1342 = .ok (.ifCond .ne 15, 3) := by decide +kernel
theorem dL_law_1345 : decode cL_law 1345 = .ok (.aload_n 3, 1) := by decide +kernel
theorem dL_law_1346 : decode cL_law 1346 = .ok (.iconst 0, 1) := by decide +kernel
theorem dL_law_1347 : decode cL_law 1347 = .ok (.laload, 1) := by decide +kernel
theorem dL_law_1348 : decode cL_law 1348 = .ok (.iload 6, 2) := by decide +kernel
theorem dL_law_1350 : decode cL_law 1350 = .ok (.i2l, 1) := by decide +kernel
theorem dL_law_1351 : decode cL_law 1351 = .ok (.lcmp, 1) := by decide +kernel
theorem dL_law_1352 : decode cL_law 1352 = .ok (.ifCond .eq 5, 3) := by decide +kernel
theorem dL_law_1355 : decode cL_law 1355 = .ok (.iconst 0, 1) := by decide +kernel
theorem dL_law_1356 : decode cL_law 1356 = .ok (.ireturn, 1) := by decide +kernel
theorem dL_law_1357 : decode cL_law 1357 = .ok (.goto 1077, 3) := by decide +kernel
theorem dL_law_1360 : decode cL_law 1360 = .ok (.aload_n 1, 1) := by decide +kernel
theorem dL_law_1361 : decode cL_law 1361 = .ok (.aload_n 0, 1) := by decide +kernel
theorem dL_law_1362 : decode cL_law 1362 = .ok (.iload 4, 2) := by decide +kernel
theorem dL_law_1364 : decode cL_law 1364 = .ok (.iconst 1, 1) := by decide +kernel
theorem dL_law_1365 : decode cL_law 1365 = .ok (.iadd, 1) := by decide +kernel
theorem dL_law_1366 : decode cL_law 1366 = .ok (.iaload, 1) := by decide +kernel
theorem dL_law_1367 : decode cL_law 1367 = .ok (.aload_n 0, 1) := by decide +kernel
theorem dL_law_1368 : decode cL_law 1368 = .ok (.iload 4, 2) := by decide +kernel
theorem dL_law_1370 : decode cL_law 1370 = .ok (.iconst 2, 1) := by decide +kernel
theorem dL_law_1371 : decode cL_law 1371 = .ok (.iadd, 1) := by decide +kernel
theorem dL_law_1372 : decode cL_law 1372 = .ok (.iaload, 1) := by decide +kernel
theorem dL_law_1373 : decode cL_law 1373 = .ok (.aload_n 0, 1) := by decide +kernel
theorem dL_law_1374 : decode cL_law 1374 = .ok (.iload 4, 2) := by decide +kernel
theorem dL_law_1376 : decode cL_law 1376 = .ok (.iconst 3, 1) := by decide +kernel
theorem dL_law_1377 : decode cL_law 1377 = .ok (.iadd, 1) := by decide +kernel
theorem dL_law_1378 : decode cL_law 1378 = .ok (.iaload, 1) := by decide +kernel
theorem dL_law_1379 : decode cL_law 1379 = .ok (.aload_n 3, 1) := by decide +kernel
theorem dL_law_1380 : decode cL_law 1380 = .ok (.invokestatic 171, 3) := by decide +kernel
theorem dL_law_1383 : decode cL_law 1383 = .ok (.istore 5, 2) := by decide +kernel
theorem dL_law_1385 : decode cL_law 1385 = .ok (.aload_n 2, 1) := by decide +kernel
theorem dL_law_1386 : decode cL_law 1386 = .ok (.aload_n 0, 1) := by decide +kernel
theorem dL_law_1387 : decode cL_law 1387 = .ok (.iload 4, 2) := by decide +kernel
theorem dL_law_1389 : decode cL_law 1389 = .ok (.iconst 1, 1) := by decide +kernel
theorem dL_law_1390 : decode cL_law 1390 = .ok (.iadd, 1) := by decide +kernel
theorem dL_law_1391 : decode cL_law 1391 = .ok (.iaload, 1) := by decide +kernel
theorem dL_law_1392 : decode cL_law 1392 = .ok (.aload_n 0, 1) := by decide +kernel
theorem dL_law_1393 : decode cL_law 1393 = .ok (.iload 4, 2) := by decide +kernel
theorem dL_law_1395 : decode cL_law 1395 = .ok (.iconst 2, 1) := by decide +kernel
theorem dL_law_1396 : decode cL_law 1396 = .ok (.iadd, 1) := by decide +kernel
theorem dL_law_1397 : decode cL_law 1397 = .ok (.iaload, 1) := by decide +kernel
theorem dL_law_1398 : decode cL_law 1398 = .ok (.aload_n 0, 1) := by decide +kernel
theorem dL_law_1399 : decode cL_law 1399 = .ok (.iload 4, 2) := by decide +kernel
theorem dL_law_1401 : decode cL_law 1401 = .ok (.iconst 3, 1) := by decide +kernel
theorem dL_law_1402 : decode cL_law 1402 = .ok (.iadd, 1) := by decide +kernel
theorem dL_law_1403 : decode cL_law 1403 = .ok (.iaload, 1) := by decide +kernel
theorem dL_law_1404 : decode cL_law 1404 = .ok (.invokevirtual 173, 3) := by decide +kernel
theorem dL_law_1407 : decode cL_law 1407 = .ok (.istore 6, 2) := by decide +kernel
theorem dL_law_1409 : decode cL_law 1409 = .ok (.aload_n 2, 1) := by decide +kernel
theorem dL_law_1410 : decode cL_law 1410 = .ok (.invokevirtual 116, 3) := by decide +kernel
theorem dL_law_1413 : decode cL_law 1413 = .ok (.iload 5, 2) := by decide +kernel
theorem dL_law_1415 : decode cL_law 1415 = .ok (.if_icmp .eq 5, 3) := by decide +kernel
theorem dL_law_1418 : decode cL_law 1418 = .ok (.iconst 0, 1) := by decide +kernel
theorem dL_law_1419 : decode cL_law 1419 = .ok (.ireturn, 1) := by decide +kernel
theorem dL_law_1420 : decode cL_law 1420 = .ok (.iload 5, 2) := by decide +kernel
theorem dL_law_1422 : decode cL_law 1422 = .ok (.ifCond .ne 15, 3) := by decide +kernel
theorem dL_law_1425 : decode cL_law 1425 = .ok (.aload_n 3, 1) := by decide +kernel
theorem dL_law_1426 : decode cL_law 1426 = .ok (.iconst 0, 1) := by decide +kernel
theorem dL_law_1427 : decode cL_law 1427 = .ok (.laload, 1) := by decide +kernel
theorem dL_law_1428 : decode cL_law 1428 = .ok (.iload 6, 2) := by decide +kernel
theorem dL_law_1430 : decode cL_law 1430 = .ok (.i2l, 1) := by decide +kernel
theorem dL_law_1431 : decode cL_law 1431 = .ok (.lcmp, 1) := by decide +kernel
theorem dL_law_1432 : decode cL_law 1432 = .ok (.ifCond .eq 5, 3) := by decide +kernel
theorem dL_law_1435 : decode cL_law 1435 = .ok (.iconst 0, 1) := by decide +kernel
theorem dL_law_1436 : decode cL_law 1436 = .ok (.ireturn, 1) := by decide +kernel
theorem dL_law_1437 : decode cL_law 1437 = .ok (.goto 997, 3) := by decide +kernel
theorem dL_law_1440 : decode cL_law 1440 = .ok (.aload_n 1, 1) := by decide +kernel
theorem dL_law_1441 : decode cL_law 1441 = .ok (.aload_n 0, 1) := by decide +kernel
theorem dL_law_1442 : decode cL_law 1442 = .ok (.iload 4, 2) := by decide +kernel
theorem dL_law_1444 : decode cL_law 1444 = .ok (.iconst 1, 1) := by decide +kernel
theorem dL_law_1445 : decode cL_law 1445 = .ok (.iadd, 1) := by decide +kernel
theorem dL_law_1446 : decode cL_law 1446 = .ok (.iaload, 1) := by decide +kernel
theorem dL_law_1447 : decode cL_law 1447 = .ok (.aload_n 3, 1) := by decide +kernel
theorem dL_law_1448 : decode cL_law 1448 = .ok (.invokestatic 174, 3) := by decide +kernel
theorem dL_law_1451 : decode cL_law 1451 = .ok (.istore 5, 2) := by decide +kernel
theorem dL_law_1453 : decode cL_law 1453 = .ok (.aload_n 2, 1) := by decide +kernel
theorem dL_law_1454 : decode cL_law 1454 = .ok (.aload_n 0, 1) := by decide +kernel
theorem dL_law_1455 : decode cL_law 1455 = .ok (.iload 4, 2) := by decide +kernel
theorem dL_law_1457 : decode cL_law 1457 = .ok (.iconst 1, 1) := by decide +kernel
theorem dL_law_1458 : decode cL_law 1458 = .ok (.iadd, 1) := by decide +kernel
theorem dL_law_1459 : decode cL_law 1459 = .ok (.iaload, 1) := by decide +kernel
theorem dL_law_1460 : decode cL_law 1460 = .ok (.invokevirtual 176, 3) := by decide +kernel
theorem dL_law_1463 : decode cL_law 1463 = .ok (.istore 6, 2) := by decide +kernel
theorem dL_law_1465 : decode cL_law 1465 = .ok (.aload_n 2, 1) := by decide +kernel
theorem dL_law_1466 : decode cL_law 1466 = .ok (.invokevirtual 116, 3) := by decide +kernel
theorem dL_law_1469 : decode cL_law 1469 = .ok (.iload 5, 2) := by decide +kernel
theorem dL_law_1471 : decode cL_law 1471 = .ok (.if_icmp .eq 5, 3) := by decide +kernel
theorem dL_law_1474 : decode cL_law 1474 = .ok (.iconst 0, 1) := by decide +kernel
theorem dL_law_1475 : decode cL_law 1475 = .ok (.ireturn, 1) := by decide +kernel
theorem dL_law_1476 : decode cL_law 1476 = .ok (.iload 5, 2) := by decide +kernel
theorem dL_law_1478 : decode cL_law 1478 = .ok (.ifCond .ne 15, 3) := by decide +kernel
theorem dL_law_1481 : decode cL_law 1481 = .ok (.aload_n 3, 1) := by decide +kernel
theorem dL_law_1482 : decode cL_law 1482 = .ok (.iconst 0, 1) := by decide +kernel
theorem dL_law_1483 : decode cL_law 1483 = .ok (.laload, 1) := by decide +kernel
theorem dL_law_1484 : decode cL_law 1484 = .ok (.iload 6, 2) := by decide +kernel
theorem dL_law_1486 : decode cL_law 1486 = .ok (.i2l, 1) := by decide +kernel
theorem dL_law_1487 : decode cL_law 1487 = .ok (.lcmp, 1) := by decide +kernel
theorem dL_law_1488 : decode cL_law 1488 = .ok (.ifCond .eq 5, 3) := by decide +kernel
theorem dL_law_1491 : decode cL_law 1491 = .ok (.iconst 0, 1) := by decide +kernel
theorem dL_law_1492 : decode cL_law 1492 = .ok (.ireturn, 1) := by decide +kernel
theorem dL_law_1493 : decode cL_law 1493 = .ok (.goto 941, 3) := by decide +kernel
theorem dL_law_1496 : decode cL_law 1496 = .ok (.aload_n 1, 1) := by decide +kernel
theorem dL_law_1497 : decode cL_law 1497 = .ok (.aload_n 0, 1) := by decide +kernel
theorem dL_law_1498 : decode cL_law 1498 = .ok (.iload 4, 2) := by decide +kernel
theorem dL_law_1500 : decode cL_law 1500 = .ok (.iconst 1, 1) := by decide +kernel
theorem dL_law_1501 : decode cL_law 1501 = .ok (.iadd, 1) := by decide +kernel
theorem dL_law_1502 : decode cL_law 1502 = .ok (.iaload, 1) := by decide +kernel
theorem dL_law_1503 : decode cL_law 1503 = .ok (.aload_n 3, 1) := by decide +kernel
theorem dL_law_1504 : decode cL_law 1504 = .ok (.invokestatic 177, 3) := by decide +kernel
theorem dL_law_1507 : decode cL_law 1507 = .ok (.istore 5, 2) := by decide +kernel
theorem dL_law_1509 : decode cL_law 1509 = .ok (.aload_n 2, 1) := by decide +kernel
theorem dL_law_1510 : decode cL_law 1510 = .ok (.aload_n 0, 1) := by decide +kernel
theorem dL_law_1511 : decode cL_law 1511 = .ok (.iload 4, 2) := by decide +kernel
theorem dL_law_1513 : decode cL_law 1513 = .ok (.iconst 1, 1) := by decide +kernel
theorem dL_law_1514 : decode cL_law 1514 = .ok (.iadd, 1) := by decide +kernel
theorem dL_law_1515 : decode cL_law 1515 = .ok (.iaload, 1) := by decide +kernel
theorem dL_law_1516 : decode cL_law 1516 = .ok (.invokevirtual 179, 3) := by decide +kernel
theorem dL_law_1519 : decode cL_law 1519 = .ok (.istore 6, 2) := by decide +kernel
theorem dL_law_1521 : decode cL_law 1521 = .ok (.aload_n 2, 1) := by decide +kernel
theorem dL_law_1522 : decode cL_law 1522 = .ok (.invokevirtual 116, 3) := by decide +kernel
theorem dL_law_1525 : decode cL_law 1525 = .ok (.iload 5, 2) := by decide +kernel
theorem dL_law_1527 : decode cL_law 1527 = .ok (.if_icmp .eq 5, 3) := by decide +kernel
theorem dL_law_1530 : decode cL_law 1530 = .ok (.iconst 0, 1) := by decide +kernel
theorem dL_law_1531 : decode cL_law 1531 = .ok (.ireturn, 1) := by decide +kernel
theorem dL_law_1532 : decode cL_law 1532 = .ok (.iload 5, 2) := by decide +kernel
theorem dL_law_1534 : decode cL_law 1534 = .ok (.ifCond .ne 15, 3) := by decide +kernel
theorem dL_law_1537 : decode cL_law 1537 = .ok (.aload_n 3, 1) := by decide +kernel
theorem dL_law_1538 : decode cL_law 1538 = .ok (.iconst 0, 1) := by decide +kernel
theorem dL_law_1539 : decode cL_law 1539 = .ok (.laload, 1) := by decide +kernel
theorem dL_law_1540 : decode cL_law 1540 = .ok (.iload 6, 2) := by decide +kernel
theorem dL_law_1542 : decode cL_law 1542 = .ok (.i2l, 1) := by decide +kernel
theorem dL_law_1543 : decode cL_law 1543 = .ok (.lcmp, 1) := by decide +kernel
theorem dL_law_1544 : decode cL_law 1544 = .ok (.ifCond .eq 5, 3) := by decide +kernel
theorem dL_law_1547 : decode cL_law 1547 = .ok (.iconst 0, 1) := by decide +kernel
theorem dL_law_1548 : decode cL_law 1548 = .ok (.ireturn, 1) := by decide +kernel
theorem dL_law_1549 : decode cL_law 1549 = .ok (.goto 885, 3) := by decide +kernel
theorem dL_law_1552 : decode cL_law 1552 = .ok (.aload_n 1, 1) := by decide +kernel
theorem dL_law_1553 : decode cL_law 1553 = .ok (.aload_n 0, 1) := by decide +kernel
theorem dL_law_1554 : decode cL_law 1554 = .ok (.iload 4, 2) := by decide +kernel
theorem dL_law_1556 : decode cL_law 1556 = .ok (.iconst 1, 1) := by decide +kernel
theorem dL_law_1557 : decode cL_law 1557 = .ok (.iadd, 1) := by decide +kernel
theorem dL_law_1558 : decode cL_law 1558 = .ok (.iaload, 1) := by decide +kernel
theorem dL_law_1559 : decode cL_law 1559 = .ok (.aload_n 0, 1) := by decide +kernel
theorem dL_law_1560 : decode cL_law 1560 = .ok (.iload 4, 2) := by decide +kernel
theorem dL_law_1562 : decode cL_law 1562 = .ok (.iconst 2, 1) := by decide +kernel
theorem dL_law_1563 : decode cL_law 1563 = .ok (.iadd, 1) := by decide +kernel
theorem dL_law_1564 : decode cL_law 1564 = .ok (.iaload, 1) := by decide +kernel
theorem dL_law_1565 : decode cL_law 1565 = .ok (.aload_n 0, 1) := by decide +kernel
theorem dL_law_1566 : decode cL_law 1566 = .ok (.iload 4, 2) := by decide +kernel
theorem dL_law_1568 : decode cL_law 1568 = .ok (.iconst 3, 1) := by decide +kernel
theorem dL_law_1569 : decode cL_law 1569 = .ok (.iadd, 1) := by decide +kernel
theorem dL_law_1570 : decode cL_law 1570 = .ok (.iaload, 1) := by decide +kernel
theorem dL_law_1571 : decode cL_law 1571 = .ok (.aload_n 3, 1) := by decide +kernel
theorem dL_law_1572 : decode cL_law 1572 = .ok (.invokestatic 180, 3) := by decide +kernel
theorem dL_law_1575 : decode cL_law 1575 = .ok (.istore 5, 2) := by decide +kernel
theorem dL_law_1577 : decode cL_law 1577 = .ok (.aload_n 2, 1) := by decide +kernel
theorem dL_law_1578 : decode cL_law 1578 = .ok (.aload_n 0, 1) := by decide +kernel
theorem dL_law_1579 : decode cL_law 1579 = .ok (.iload 4, 2) := by decide +kernel
theorem dL_law_1581 : decode cL_law 1581 = .ok (.iconst 1, 1) := by decide +kernel
theorem dL_law_1582 : decode cL_law 1582 = .ok (.iadd, 1) := by decide +kernel
theorem dL_law_1583 : decode cL_law 1583 = .ok (.iaload, 1) := by decide +kernel
theorem dL_law_1584 : decode cL_law 1584 = .ok (.aload_n 0, 1) := by decide +kernel
theorem dL_law_1585 : decode cL_law 1585 = .ok (.iload 4, 2) := by decide +kernel
theorem dL_law_1587 : decode cL_law 1587 = .ok (.iconst 2, 1) := by decide +kernel
theorem dL_law_1588 : decode cL_law 1588 = .ok (.iadd, 1) := by decide +kernel
theorem dL_law_1589 : decode cL_law 1589 = .ok (.iaload, 1) := by decide +kernel
theorem dL_law_1590 : decode cL_law 1590 = .ok (.aload_n 0, 1) := by decide +kernel
theorem dL_law_1591 : decode cL_law 1591 = .ok (.iload 4, 2) := by decide +kernel
theorem dL_law_1593 : decode cL_law 1593 = .ok (.iconst 3, 1) := by decide +kernel
theorem dL_law_1594 : decode cL_law 1594 = .ok (.iadd, 1) := by decide +kernel
theorem dL_law_1595 : decode cL_law 1595 = .ok (.iaload, 1) := by decide +kernel
theorem dL_law_1596 : decode cL_law 1596 = .ok (.invokevirtual 182, 3) := by decide +kernel
theorem dL_law_1599 : decode cL_law 1599 = .ok (.istore 6, 2) := by decide +kernel
theorem dL_law_1601 : decode cL_law 1601 = .ok (.aload_n 2, 1) := by decide +kernel
theorem dL_law_1602 : decode cL_law 1602 = .ok (.invokevirtual 116, 3) := by decide +kernel
theorem dL_law_1605 : decode cL_law 1605 = .ok (.iload 5, 2) := by decide +kernel
theorem dL_law_1607 : decode cL_law 1607 = .ok (.if_icmp .eq 5, 3) := by decide +kernel
theorem dL_law_1610 : decode cL_law 1610 = .ok (.iconst 0, 1) := by decide +kernel
theorem dL_law_1611 : decode cL_law 1611 = .ok (.ireturn, 1) := by decide +kernel
theorem dL_law_1612 : decode cL_law 1612 = .ok (.iload 5, 2) := by decide +kernel
theorem dL_law_1614 : decode cL_law 1614 = .ok (.ifCond .ne 22, 3) := by decide +kernel
theorem dL_law_1617 : decode cL_law 1617 = .ok (.aload_n 3, 1) := by decide +kernel
theorem dL_law_1618 : decode cL_law 1618 = .ok (.iconst 0, 1) := by decide +kernel
theorem dL_law_1619 : decode cL_law 1619 = .ok (.laload, 1) := by decide +kernel
theorem dL_law_1620 : decode cL_law 1620 = .ok (.iload 6, 2) := by decide +kernel
theorem dL_law_1622 : decode cL_law 1622 = .ok (.ifCond .eq 7, 3) := by decide +kernel
theorem dL_law_1625 : decode cL_law 1625 = .ok (.lconst 1, 1) := by decide +kernel
theorem dL_law_1626 : decode cL_law 1626 = .ok (.goto 4, 3) := by decide +kernel
theorem dL_law_1629 : decode cL_law 1629 = .ok (.lconst 0, 1) := by decide +kernel
theorem dL_law_1630 : decode cL_law 1630 = .ok (.lcmp, 1) := by decide +kernel
theorem dL_law_1631 : decode cL_law 1631 = .ok (.ifCond .eq 5, 3) := by decide +kernel
theorem dL_law_1634 : decode cL_law 1634 = .ok (.iconst 0, 1) := by decide +kernel
theorem dL_law_1635 : decode cL_law 1635 = .ok (.ireturn, 1) := by decide +kernel
theorem dL_law_1636 : decode cL_law 1636 = .ok (.goto 798, 3) := by decide +kernel
theorem dL_law_1639 : decode cL_law 1639 = .ok (.aload_n 1, 1) := by decide +kernel
theorem dL_law_1640 : decode cL_law 1640 = .ok (.aload_n 0, 1) := by decide +kernel
theorem dL_law_1641 : decode cL_law 1641 = .ok (.iload 4, 2) := by decide +kernel
theorem dL_law_1643 : decode cL_law 1643 = .ok (.iconst 1, 1) := by decide +kernel
theorem dL_law_1644 : decode cL_law 1644 = .ok (.iadd, 1) := by decide +kernel
theorem dL_law_1645 : decode cL_law 1645 = .ok (.iaload, 1) := by decide +kernel
theorem dL_law_1646 : decode cL_law 1646 = .ok (.aload_n 0, 1) := by decide +kernel
theorem dL_law_1647 : decode cL_law 1647 = .ok (.iload 4, 2) := by decide +kernel
theorem dL_law_1649 : decode cL_law 1649 = .ok (.iconst 2, 1) := by decide +kernel
theorem dL_law_1650 : decode cL_law 1650 = .ok (.iadd, 1) := by decide +kernel
theorem dL_law_1651 : decode cL_law 1651 = .ok (.iaload, 1) := by decide +kernel
theorem dL_law_1652 : decode cL_law 1652 = .ok (.aload_n 0, 1) := by decide +kernel
theorem dL_law_1653 : decode cL_law 1653 = .ok (.iload 4, 2) := by decide +kernel
theorem dL_law_1655 : decode cL_law 1655 = .ok (.iconst 3, 1) := by decide +kernel
theorem dL_law_1656 : decode cL_law 1656 = .ok (.iadd, 1) := by decide +kernel
theorem dL_law_1657 : decode cL_law 1657 = .ok (.iaload, 1) := by decide +kernel
theorem dL_law_1658 : decode cL_law 1658 = .ok (.aload_n 3, 1) := by decide +kernel
theorem dL_law_1659 : decode cL_law 1659 = .ok (.invokestatic 183, 3) := by decide +kernel
theorem dL_law_1662 : decode cL_law 1662 = .ok (.istore 5, 2) := by decide +kernel
theorem dL_law_1664 : decode cL_law 1664 = .ok (.aload_n 2, 1) := by decide +kernel
theorem dL_law_1665 : decode cL_law 1665 = .ok (.aload_n 0, 1) := by decide +kernel
theorem dL_law_1666 : decode cL_law 1666 = .ok (.iload 4, 2) := by decide +kernel
theorem dL_law_1668 : decode cL_law 1668 = .ok (.iconst 1, 1) := by decide +kernel
theorem dL_law_1669 : decode cL_law 1669 = .ok (.iadd, 1) := by decide +kernel
theorem dL_law_1670 : decode cL_law 1670 = .ok (.iaload, 1) := by decide +kernel
theorem dL_law_1671 : decode cL_law 1671 = .ok (.aload_n 0, 1) := by decide +kernel
theorem dL_law_1672 : decode cL_law 1672 = .ok (.iload 4, 2) := by decide +kernel
theorem dL_law_1674 : decode cL_law 1674 = .ok (.iconst 2, 1) := by decide +kernel
theorem dL_law_1675 : decode cL_law 1675 = .ok (.iadd, 1) := by decide +kernel
theorem dL_law_1676 : decode cL_law 1676 = .ok (.iaload, 1) := by decide +kernel
theorem dL_law_1677 : decode cL_law 1677 = .ok (.aload_n 0, 1) := by decide +kernel
theorem dL_law_1678 : decode cL_law 1678 = .ok (.iload 4, 2) := by decide +kernel
theorem dL_law_1680 : decode cL_law 1680 = .ok (.iconst 3, 1) := by decide +kernel
theorem dL_law_1681 : decode cL_law 1681 = .ok (.iadd, 1) := by decide +kernel
theorem dL_law_1682 : decode cL_law 1682 = .ok (.iaload, 1) := by decide +kernel
theorem dL_law_1683 : decode cL_law 1683 = .ok (.invokevirtual 185, 3) := by decide +kernel
theorem dL_law_1686 : decode cL_law 1686 = .ok (.istore 6, 2) := by decide +kernel
theorem dL_law_1688 : decode cL_law 1688 = .ok (.aload_n 2, 1) := by decide +kernel
theorem dL_law_1689 : decode cL_law 1689 = .ok (.invokevirtual 116, 3) := by decide +kernel
theorem dL_law_1692 : decode cL_law 1692 = .ok (.iload 5, 2) := by decide +kernel
theorem dL_law_1694 : decode cL_law 1694 = .ok (.if_icmp .eq 5, 3) := by decide +kernel
theorem dL_law_1697 : decode cL_law 1697 = .ok (.iconst 0, 1) := by decide +kernel
theorem dL_law_1698 : decode cL_law 1698 = .ok (.ireturn, 1) := by decide +kernel
theorem dL_law_1699 : decode cL_law 1699 = .ok (.iload 5, 2) := by decide +kernel
theorem dL_law_1701 : decode cL_law 1701 = .ok (.ifCond .ne 15, 3) := by decide +kernel
theorem dL_law_1704 : decode cL_law 1704 = .ok (.aload_n 3, 1) := by decide +kernel
theorem dL_law_1705 : decode cL_law 1705 = .ok (.iconst 0, 1) := by decide +kernel
theorem dL_law_1706 : decode cL_law 1706 = .ok (.laload, 1) := by decide +kernel
theorem dL_law_1707 : decode cL_law 1707 = .ok (.iload 6, 2) := by decide +kernel
theorem dL_law_1709 : decode cL_law 1709 = .ok (.i2l, 1) := by decide +kernel
theorem dL_law_1710 : decode cL_law 1710 = .ok (.lcmp, 1) := by decide +kernel
theorem dL_law_1711 : decode cL_law 1711 = .ok (.ifCond .eq 5, 3) := by decide +kernel
theorem dL_law_1714 : decode cL_law 1714 = .ok (.iconst 0, 1) := by decide +kernel
theorem dL_law_1715 : decode cL_law 1715 = .ok (.ireturn, 1) := by decide +kernel
theorem dL_law_1716 : decode cL_law 1716 = .ok (.goto 718, 3) := by decide +kernel
theorem dL_law_1719 : decode cL_law 1719 = .ok (.aload_n 1, 1) := by decide +kernel
theorem dL_law_1720 : decode cL_law 1720 = .ok (.aload_n 0, 1) := by decide +kernel
theorem dL_law_1721 : decode cL_law 1721 = .ok (.iload 4, 2) := by decide +kernel
theorem dL_law_1723 : decode cL_law 1723 = .ok (.iconst 1, 1) := by decide +kernel
theorem dL_law_1724 : decode cL_law 1724 = .ok (.iadd, 1) := by decide +kernel
theorem dL_law_1725 : decode cL_law 1725 = .ok (.iaload, 1) := by decide +kernel
theorem dL_law_1726 : decode cL_law 1726 = .ok (.aload_n 0, 1) := by decide +kernel
theorem dL_law_1727 : decode cL_law 1727 = .ok (.iload 4, 2) := by decide +kernel
theorem dL_law_1729 : decode cL_law 1729 = .ok (.iconst 2, 1) := by decide +kernel
theorem dL_law_1730 : decode cL_law 1730 = .ok (.iadd, 1) := by decide +kernel
theorem dL_law_1731 : decode cL_law 1731 = .ok (.iaload, 1) := by decide +kernel
theorem dL_law_1732 : decode cL_law 1732 = .ok (.aload_n 0, 1) := by decide +kernel
theorem dL_law_1733 : decode cL_law 1733 = .ok (.iload 4, 2) := by decide +kernel
theorem dL_law_1735 : decode cL_law 1735 = .ok (.iconst 3, 1) := by decide +kernel
theorem dL_law_1736 : decode cL_law 1736 = .ok (.iadd, 1) := by decide +kernel
theorem dL_law_1737 : decode cL_law 1737 = .ok (.iaload, 1) := by decide +kernel
theorem dL_law_1738 : decode cL_law 1738 = .ok (.aload_n 3, 1) := by decide +kernel
theorem dL_law_1739 : decode cL_law 1739 = .ok (.invokestatic 186, 3) := by decide +kernel
theorem dL_law_1742 : decode cL_law 1742 = .ok (.istore 5, 2) := by decide +kernel
theorem dL_law_1744 : decode cL_law 1744 = .ok (.aload_n 2, 1) := by decide +kernel
theorem dL_law_1745 : decode cL_law 1745 = .ok (.aload_n 0, 1) := by decide +kernel
theorem dL_law_1746 : decode cL_law 1746 = .ok (.iload 4, 2) := by decide +kernel
theorem dL_law_1748 : decode cL_law 1748 = .ok (.iconst 1, 1) := by decide +kernel
theorem dL_law_1749 : decode cL_law 1749 = .ok (.iadd, 1) := by decide +kernel
theorem dL_law_1750 : decode cL_law 1750 = .ok (.iaload, 1) := by decide +kernel
theorem dL_law_1751 : decode cL_law 1751 = .ok (.aload_n 0, 1) := by decide +kernel
theorem dL_law_1752 : decode cL_law 1752 = .ok (.iload 4, 2) := by decide +kernel
theorem dL_law_1754 : decode cL_law 1754 = .ok (.iconst 2, 1) := by decide +kernel
theorem dL_law_1755 : decode cL_law 1755 = .ok (.iadd, 1) := by decide +kernel
theorem dL_law_1756 : decode cL_law 1756 = .ok (.iaload, 1) := by decide +kernel
theorem dL_law_1757 : decode cL_law 1757 = .ok (.aload_n 0, 1) := by decide +kernel
theorem dL_law_1758 : decode cL_law 1758 = .ok (.iload 4, 2) := by decide +kernel
theorem dL_law_1760 : decode cL_law 1760 = .ok (.iconst 3, 1) := by decide +kernel
theorem dL_law_1761 : decode cL_law 1761 = .ok (.iadd, 1) := by decide +kernel
theorem dL_law_1762 : decode cL_law 1762 = .ok (.iaload, 1) := by decide +kernel
theorem dL_law_1763 : decode cL_law 1763 = .ok (.invokevirtual 188, 3) := by decide +kernel
theorem dL_law_1766 : decode cL_law 1766 = .ok (.istore 6, 2) := by decide +kernel
theorem dL_law_1768 : decode cL_law 1768 = .ok (.aload_n 2, 1) := by decide +kernel
theorem dL_law_1769 : decode cL_law 1769 = .ok (.invokevirtual 116, 3) := by decide +kernel
theorem dL_law_1772 : decode cL_law 1772 = .ok (.iload 5, 2) := by decide +kernel
theorem dL_law_1774 : decode cL_law 1774 = .ok (.if_icmp .eq 5, 3) := by decide +kernel
theorem dL_law_1777 : decode cL_law 1777 = .ok (.iconst 0, 1) := by decide +kernel
theorem dL_law_1778 : decode cL_law 1778 = .ok (.ireturn, 1) := by decide +kernel
theorem dL_law_1779 : decode cL_law 1779 = .ok (.iload 5, 2) := by decide +kernel
theorem dL_law_1781 : decode cL_law 1781 = .ok (.ifCond .ne 15, 3) := by decide +kernel
theorem dL_law_1784 : decode cL_law 1784 = .ok (.aload_n 3, 1) := by decide +kernel
theorem dL_law_1785 : decode cL_law 1785 = .ok (.iconst 0, 1) := by decide +kernel
theorem dL_law_1786 : decode cL_law 1786 = .ok (.laload, 1) := by decide +kernel
theorem dL_law_1787 : decode cL_law 1787 = .ok (.iload 6, 2) := by decide +kernel
theorem dL_law_1789 : decode cL_law 1789 = .ok (.i2l, 1) := by decide +kernel
theorem dL_law_1790 : decode cL_law 1790 = .ok (.lcmp, 1) := by decide +kernel
theorem dL_law_1791 : decode cL_law 1791 = .ok (.ifCond .eq 5, 3) := by decide +kernel
theorem dL_law_1794 : decode cL_law 1794 = .ok (.iconst 0, 1) := by decide +kernel
theorem dL_law_1795 : decode cL_law 1795 = .ok (.ireturn, 1) := by decide +kernel
theorem dL_law_1796 : decode cL_law 1796 = .ok (.goto 638, 3) := by decide +kernel
theorem dL_law_1799 : decode cL_law 1799 = .ok (.aload_n 1, 1) := by decide +kernel
theorem dL_law_1800 : decode cL_law 1800 = .ok (.invokevirtual 189, 3) := by decide +kernel
theorem dL_law_1803 : decode cL_law 1803 = .ok (.aload_n 2, 1) := by decide +kernel
theorem dL_law_1804 : decode cL_law 1804 = .ok (.invokevirtual 192, 3) := by decide +kernel
theorem dL_law_1807 : decode cL_law 1807 = .ok (.if_icmp .eq 627, 3) := by decide +kernel
theorem dL_law_1810 : decode cL_law 1810 = .ok (.iconst 0, 1) := by decide +kernel
theorem dL_law_1811 : decode cL_law 1811 = .ok (.ireturn, 1) := by decide +kernel
theorem dL_law_1812 : decode cL_law 1812 = .ok (.aload_n 1, 1) := by decide +kernel
theorem dL_law_1813 : decode cL_law 1813 = .ok (.invokevirtual 193, 3) := by decide +kernel
theorem dL_law_1816 : decode cL_law 1816 = .ok (.aload_n 2, 1) := by decide +kernel
theorem dL_law_1817 : decode cL_law 1817 = .ok (.invokevirtual 196, 3) := by decide +kernel
theorem dL_law_1820 : decode cL_law 1820 = .ok (.if_icmp .eq 614, 3) := by decide +kernel
theorem dL_law_1823 : decode cL_law 1823 = .ok (.iconst 0, 1) := by decide +kernel
theorem dL_law_1824 : decode cL_law 1824 = .ok (.ireturn, 1) := by decide +kernel
theorem dL_law_1825 : decode cL_law 1825 = .ok (.aload_n 1, 1) := by decide +kernel
theorem dL_law_1826 : decode cL_law 1826 = .ok (.invokevirtual 197, 3) := by decide +kernel
theorem dL_law_1829 : decode cL_law 1829 = .ok (.aload_n 2, 1) := by decide +kernel
theorem dL_law_1830 : decode cL_law 1830 = .ok (.invokevirtual 200, 3) := by decide +kernel
theorem dL_law_1833 : decode cL_law 1833 = .ok (.if_icmp .eq 601, 3) := by decide +kernel
theorem dL_law_1836 : decode cL_law 1836 = .ok (.iconst 0, 1) := by decide +kernel
theorem dL_law_1837 : decode cL_law 1837 = .ok (.ireturn, 1) := by decide +kernel
theorem dL_law_1838 : decode cL_law 1838 = .ok (.aload_n 1, 1) := by decide +kernel
theorem dL_law_1839 : decode cL_law 1839 = .ok (.aload_n 0, 1) := by decide +kernel
theorem dL_law_1840 : decode cL_law 1840 = .ok (.iload 4, 2) := by decide +kernel
theorem dL_law_1842 : decode cL_law 1842 = .ok (.iconst 1, 1) := by decide +kernel
theorem dL_law_1843 : decode cL_law 1843 = .ok (.iadd, 1) := by decide +kernel
theorem dL_law_1844 : decode cL_law 1844 = .ok (.iaload, 1) := by decide +kernel
theorem dL_law_1845 : decode cL_law 1845 = .ok (.aload_n 3, 1) := by decide +kernel
theorem dL_law_1846 : decode cL_law 1846 = .ok (.invokestatic 201, 3) := by decide +kernel
theorem dL_law_1849 : decode cL_law 1849 = .ok (.istore 5, 2) := by decide +kernel
theorem dL_law_1851 : decode cL_law 1851 = .ok (.aload_n 2, 1) := by decide +kernel
theorem dL_law_1852 : decode cL_law 1852 = .ok (.aload_n 0, 1) := by decide +kernel
theorem dL_law_1853 : decode cL_law 1853 = .ok (.iload 4, 2) := by decide +kernel
theorem dL_law_1855 : decode cL_law 1855 = .ok (.iconst 1, 1) := by decide +kernel
theorem dL_law_1856 : decode cL_law 1856 = .ok (.iadd, 1) := by decide +kernel
theorem dL_law_1857 : decode cL_law 1857 = .ok (.iaload, 1) := by decide +kernel
theorem dL_law_1858 : decode cL_law 1858 = .ok (.invokevirtual 203, 3) := by decide +kernel
theorem dL_law_1861 : decode cL_law 1861 = .ok (.istore 6, 2) := by decide +kernel
theorem dL_law_1863 : decode cL_law 1863 = .ok (.aload_n 2, 1) := by decide +kernel
theorem dL_law_1864 : decode cL_law 1864 = .ok (.invokevirtual 116, 3) := by decide +kernel
theorem dL_law_1867 : decode cL_law 1867 = .ok (.iload 5, 2) := by decide +kernel
theorem dL_law_1869 : decode cL_law 1869 = .ok (.if_icmp .eq 5, 3) := by decide +kernel
theorem dL_law_1872 : decode cL_law 1872 = .ok (.iconst 0, 1) := by decide +kernel
theorem dL_law_1873 : decode cL_law 1873 = .ok (.ireturn, 1) := by decide +kernel
theorem dL_law_1874 : decode cL_law 1874 = .ok (.iload 5, 2) := by decide +kernel
theorem dL_law_1876 : decode cL_law 1876 = .ok (.ifCond .ne 22, 3) := by decide +kernel
theorem dL_law_1879 : decode cL_law 1879 = .ok (.aload_n 3, 1) := by decide +kernel
theorem dL_law_1880 : decode cL_law 1880 = .ok (.iconst 0, 1) := by decide +kernel
theorem dL_law_1881 : decode cL_law 1881 = .ok (.laload, 1) := by decide +kernel
theorem dL_law_1882 : decode cL_law 1882 = .ok (.iload 6, 2) := by decide +kernel
theorem dL_law_1884 : decode cL_law 1884 = .ok (.ifCond .eq 7, 3) := by decide +kernel
theorem dL_law_1887 : decode cL_law 1887 = .ok (.lconst 1, 1) := by decide +kernel
theorem dL_law_1888 : decode cL_law 1888 = .ok (.goto 4, 3) := by decide +kernel
theorem dL_law_1891 : decode cL_law 1891 = .ok (.lconst 0, 1) := by decide +kernel
theorem dL_law_1892 : decode cL_law 1892 = .ok (.lcmp, 1) := by decide +kernel
theorem dL_law_1893 : decode cL_law 1893 = .ok (.ifCond .eq 5, 3) := by decide +kernel
theorem dL_law_1896 : decode cL_law 1896 = .ok (.iconst 0, 1) := by decide +kernel
theorem dL_law_1897 : decode cL_law 1897 = .ok (.ireturn, 1) := by decide +kernel
theorem dL_law_1898 : decode cL_law 1898 = .ok (.goto 536, 3) := by decide +kernel
theorem dL_law_1901 : decode cL_law 1901 = .ok (.aload_n 1, 1) := by decide +kernel
theorem dL_law_1902 : decode cL_law 1902 = .ok (.aload_n 0, 1) := by decide +kernel
theorem dL_law_1903 : decode cL_law 1903 = .ok (.iload 4, 2) := by decide +kernel
theorem dL_law_1905 : decode cL_law 1905 = .ok (.iconst 1, 1) := by decide +kernel
theorem dL_law_1906 : decode cL_law 1906 = .ok (.iadd, 1) := by decide +kernel
theorem dL_law_1907 : decode cL_law 1907 = .ok (.iaload, 1) := by decide +kernel
theorem dL_law_1908 : decode cL_law 1908 = .ok (.aload_n 0, 1) := by decide +kernel
theorem dL_law_1909 : decode cL_law 1909 = .ok (.iload 4, 2) := by decide +kernel
theorem dL_law_1911 : decode cL_law 1911 = .ok (.iconst 2, 1) := by decide +kernel
theorem dL_law_1912 : decode cL_law 1912 = .ok (.iadd, 1) := by decide +kernel
theorem dL_law_1913 : decode cL_law 1913 = .ok (.iaload, 1) := by decide +kernel
theorem dL_law_1914 : decode cL_law 1914 = .ok (.aload_n 3, 1) := by decide +kernel
theorem dL_law_1915 : decode cL_law 1915 = .ok (.invokestatic 204, 3) := by decide +kernel
theorem dL_law_1918 : decode cL_law 1918 = .ok (.istore 5, 2) := by decide +kernel
theorem dL_law_1920 : decode cL_law 1920 = .ok (.aload_n 2, 1) := by decide +kernel
theorem dL_law_1921 : decode cL_law 1921 = .ok (.aload_n 0, 1) := by decide +kernel
theorem dL_law_1922 : decode cL_law 1922 = .ok (.iload 4, 2) := by decide +kernel
theorem dL_law_1924 : decode cL_law 1924 = .ok (.iconst 1, 1) := by decide +kernel
theorem dL_law_1925 : decode cL_law 1925 = .ok (.iadd, 1) := by decide +kernel
theorem dL_law_1926 : decode cL_law 1926 = .ok (.iaload, 1) := by decide +kernel
theorem dL_law_1927 : decode cL_law 1927 = .ok (.aload_n 0, 1) := by decide +kernel
theorem dL_law_1928 : decode cL_law 1928 = .ok (.iload 4, 2) := by decide +kernel
theorem dL_law_1930 : decode cL_law 1930 = .ok (.iconst 2, 1) := by decide +kernel
theorem dL_law_1931 : decode cL_law 1931 = .ok (.iadd, 1) := by decide +kernel
theorem dL_law_1932 : decode cL_law 1932 = .ok (.iaload, 1) := by decide +kernel
theorem dL_law_1933 : decode cL_law 1933 = .ok (.invokevirtual 206, 3) := by decide +kernel
theorem dL_law_1936 : decode cL_law 1936 = .ok (.istore 6, 2) := by decide +kernel
theorem dL_law_1938 : decode cL_law 1938 = .ok (.aload_n 2, 1) := by decide +kernel
theorem dL_law_1939 : decode cL_law 1939 = .ok (.invokevirtual 116, 3) := by decide +kernel
theorem dL_law_1942 : decode cL_law 1942 = .ok (.iload 5, 2) := by decide +kernel
theorem dL_law_1944 : decode cL_law 1944 = .ok (.if_icmp .eq 5, 3) := by decide +kernel
theorem dL_law_1947 : decode cL_law 1947 = .ok (.iconst 0, 1) := by decide +kernel
theorem dL_law_1948 : decode cL_law 1948 = .ok (.ireturn, 1) := by decide +kernel
theorem dL_law_1949 : decode cL_law 1949 = .ok (.iload 5, 2) := by decide +kernel
theorem dL_law_1951 : decode cL_law 1951 = .ok (.ifCond .ne 15, 3) := by decide +kernel
theorem dL_law_1954 : decode cL_law 1954 = .ok (.aload_n 3, 1) := by decide +kernel
theorem dL_law_1955 : decode cL_law 1955 = .ok (.iconst 0, 1) := by decide +kernel
theorem dL_law_1956 : decode cL_law 1956 = .ok (.laload, 1) := by decide +kernel
theorem dL_law_1957 : decode cL_law 1957 = .ok (.iload 6, 2) := by decide +kernel
theorem dL_law_1959 : decode cL_law 1959 = .ok (.i2l, 1) := by decide +kernel
theorem dL_law_1960 : decode cL_law 1960 = .ok (.lcmp, 1) := by decide +kernel
theorem dL_law_1961 : decode cL_law 1961 = .ok (.ifCond .eq 5, 3) := by decide +kernel
theorem dL_law_1964 : decode cL_law 1964 = .ok (.iconst 0, 1) := by decide +kernel
theorem dL_law_1965 : decode cL_law 1965 = .ok (.ireturn, 1) := by decide +kernel
theorem dL_law_1966 : decode cL_law 1966 = .ok (.goto 468, 3) := by decide +kernel
theorem dL_law_1969 : decode cL_law 1969 = .ok (.aload_n 1, 1) := by decide +kernel
theorem dL_law_1970 : decode cL_law 1970 = .ok (.aload_n 0, 1) := by decide +kernel
theorem dL_law_1971 : decode cL_law 1971 = .ok (.iload 4, 2) := by decide +kernel
theorem dL_law_1973 : decode cL_law 1973 = .ok (.iconst 1, 1) := by decide +kernel
theorem dL_law_1974 : decode cL_law 1974 = .ok (.iadd, 1) := by decide +kernel
theorem dL_law_1975 : decode cL_law 1975 = .ok (.iaload, 1) := by decide +kernel
theorem dL_law_1976 : decode cL_law 1976 = .ok (.aload_n 0, 1) := by decide +kernel
theorem dL_law_1977 : decode cL_law 1977 = .ok (.iload 4, 2) := by decide +kernel
theorem dL_law_1979 : decode cL_law 1979 = .ok (.iconst 2, 1) := by decide +kernel
theorem dL_law_1980 : decode cL_law 1980 = .ok (.iadd, 1) := by decide +kernel
theorem dL_law_1981 : decode cL_law 1981 = .ok (.iaload, 1) := by decide +kernel
theorem dL_law_1982 : decode cL_law 1982 = .ok (.aload_n 3, 1) := by decide +kernel
theorem dL_law_1983 : decode cL_law 1983 = .ok (.invokestatic 207, 3) := by decide +kernel
theorem dL_law_1986 : decode cL_law 1986 = .ok (.istore 5, 2) := by decide +kernel
theorem dL_law_1988 : decode cL_law 1988 = .ok (.aload_n 2, 1) := by decide +kernel
theorem dL_law_1989 : decode cL_law 1989 = .ok (.aload_n 0, 1) := by decide +kernel
theorem dL_law_1990 : decode cL_law 1990 = .ok (.iload 4, 2) := by decide +kernel
theorem dL_law_1992 : decode cL_law 1992 = .ok (.iconst 1, 1) := by decide +kernel
theorem dL_law_1993 : decode cL_law 1993 = .ok (.iadd, 1) := by decide +kernel
theorem dL_law_1994 : decode cL_law 1994 = .ok (.iaload, 1) := by decide +kernel
theorem dL_law_1995 : decode cL_law 1995 = .ok (.aload_n 0, 1) := by decide +kernel
theorem dL_law_1996 : decode cL_law 1996 = .ok (.iload 4, 2) := by decide +kernel
theorem dL_law_1998 : decode cL_law 1998 = .ok (.iconst 2, 1) := by decide +kernel
theorem dL_law_1999 : decode cL_law 1999 = .ok (.iadd, 1) := by decide +kernel
theorem dL_law_2000 : decode cL_law 2000 = .ok (.iaload, 1) := by decide +kernel
theorem dL_law_2001 : decode cL_law 2001 = .ok (.invokevirtual 209, 3) := by decide +kernel
theorem dL_law_2004 : decode cL_law 2004 = .ok (.istore 6, 2) := by decide +kernel
theorem dL_law_2006 : decode cL_law 2006 = .ok (.aload_n 2, 1) := by decide +kernel
theorem dL_law_2007 : decode cL_law 2007 = .ok (.invokevirtual 116, 3) := by decide +kernel
theorem dL_law_2010 : decode cL_law 2010 = .ok (.iload 5, 2) := by decide +kernel
theorem dL_law_2012 : decode cL_law 2012 = .ok (.if_icmp .eq 5, 3) := by decide +kernel
theorem dL_law_2015 : decode cL_law 2015 = .ok (.iconst 0, 1) := by decide +kernel
theorem dL_law_2016 : decode cL_law 2016 = .ok (.ireturn, 1) := by decide +kernel
theorem dL_law_2017 : decode cL_law 2017 = .ok (.iload 5, 2) := by decide +kernel
theorem dL_law_2019 : decode cL_law 2019 = .ok (.ifCond .ne 15, 3) := by decide +kernel
theorem dL_law_2022 : decode cL_law 2022 = .ok (.aload_n 3, 1) := by decide +kernel
theorem dL_law_2023 : decode cL_law 2023 = .ok (.iconst 0, 1) := by decide +kernel
theorem dL_law_2024 : decode cL_law 2024 = .ok (.laload, 1) := by decide +kernel
theorem dL_law_2025 : decode cL_law 2025 = .ok (.iload 6, 2) := by decide +kernel
theorem dL_law_2027 : decode cL_law 2027 = .ok (.i2l, 1) := by decide +kernel
theorem dL_law_2028 : decode cL_law 2028 = .ok (.lcmp, 1) := by decide +kernel
theorem dL_law_2029 : decode cL_law 2029 = .ok (.ifCond .eq 5, 3) := by decide +kernel
theorem dL_law_2032 : decode cL_law 2032 = .ok (.iconst 0, 1) := by decide +kernel
theorem dL_law_2033 : decode cL_law 2033 = .ok (.ireturn, 1) := by decide +kernel
theorem dL_law_2034 : decode cL_law 2034 = .ok (.goto 400, 3) := by decide +kernel
theorem dL_law_2037 : decode cL_law 2037 = .ok (.aload_n 1, 1) := by decide +kernel
theorem dL_law_2038 : decode cL_law 2038 = .ok (.aload_n 0, 1) := by decide +kernel
theorem dL_law_2039 : decode cL_law 2039 = .ok (.iload 4, 2) := by decide +kernel
theorem dL_law_2041 : decode cL_law 2041 = .ok (.iconst 1, 1) := by decide +kernel
theorem dL_law_2042 : decode cL_law 2042 = .ok (.iadd, 1) := by decide +kernel
theorem dL_law_2043 : decode cL_law 2043 = .ok (.iaload, 1) := by decide +kernel
theorem dL_law_2044 : decode cL_law 2044 = .ok (.aload_n 0, 1) := by decide +kernel
theorem dL_law_2045 : decode cL_law 2045 = .ok (.iload 4, 2) := by decide +kernel
theorem dL_law_2047 : decode cL_law 2047 = .ok (.iconst 2, 1) := by decide +kernel
theorem dL_law_2048 : decode cL_law 2048 = .ok (.iadd, 1) := by decide +kernel
theorem dL_law_2049 : decode cL_law 2049 = .ok (.iaload, 1) := by decide +kernel
theorem dL_law_2050 : decode cL_law 2050 = .ok (.aload_n 3, 1) := by decide +kernel
theorem dL_law_2051 : decode cL_law 2051 = .ok (.invokestatic 210, 3) := by decide +kernel
theorem dL_law_2054 : decode cL_law 2054 = .ok (.istore 5, 2) := by decide +kernel
theorem dL_law_2056 : decode cL_law 2056 = .ok (.aload_n 2, 1) := by decide +kernel
theorem dL_law_2057 : decode cL_law 2057 = .ok (.aload_n 0, 1) := by decide +kernel
theorem dL_law_2058 : decode cL_law 2058 = .ok (.iload 4, 2) := by decide +kernel
theorem dL_law_2060 : decode cL_law 2060 = .ok (.iconst 1, 1) := by decide +kernel
theorem dL_law_2061 : decode cL_law 2061 = .ok (.iadd, 1) := by decide +kernel
theorem dL_law_2062 : decode cL_law 2062 = .ok (.iaload, 1) := by decide +kernel
theorem dL_law_2063 : decode cL_law 2063 = .ok (.aload_n 0, 1) := by decide +kernel
theorem dL_law_2064 : decode cL_law 2064 = .ok (.iload 4, 2) := by decide +kernel
theorem dL_law_2066 : decode cL_law 2066 = .ok (.iconst 2, 1) := by decide +kernel
theorem dL_law_2067 : decode cL_law 2067 = .ok (.iadd, 1) := by decide +kernel
theorem dL_law_2068 : decode cL_law 2068 = .ok (.iaload, 1) := by decide +kernel
theorem dL_law_2069 : decode cL_law 2069 = .ok (.invokevirtual 212, 3) := by decide +kernel
theorem dL_law_2072 : decode cL_law 2072 = .ok (.istore 6, 2) := by decide +kernel
theorem dL_law_2074 : decode cL_law 2074 = .ok (.aload_n 2, 1) := by decide +kernel
theorem dL_law_2075 : decode cL_law 2075 = .ok (.invokevirtual 116, 3) := by decide +kernel
theorem dL_law_2078 : decode cL_law 2078 = .ok (.iload 5, 2) := by decide +kernel
theorem dL_law_2080 : decode cL_law 2080 = .ok (.if_icmp .eq 5, 3) := by decide +kernel
theorem dL_law_2083 : decode cL_law 2083 = .ok (.iconst 0, 1) := by decide +kernel
theorem dL_law_2084 : decode cL_law 2084 = .ok (.ireturn, 1) := by decide +kernel
theorem dL_law_2085 : decode cL_law 2085 = .ok (.iload 5, 2) := by decide +kernel
theorem dL_law_2087 : decode cL_law 2087 = .ok (.ifCond .ne 15, 3) := by decide +kernel
theorem dL_law_2090 : decode cL_law 2090 = .ok (.aload_n 3, 1) := by decide +kernel
theorem dL_law_2091 : decode cL_law 2091 = .ok (.iconst 0, 1) := by decide +kernel
theorem dL_law_2092 : decode cL_law 2092 = .ok (.laload, 1) := by decide +kernel
theorem dL_law_2093 : decode cL_law 2093 = .ok (.iload 6, 2) := by decide +kernel
theorem dL_law_2095 : decode cL_law 2095 = .ok (.i2l, 1) := by decide +kernel
theorem dL_law_2096 : decode cL_law 2096 = .ok (.lcmp, 1) := by decide +kernel
theorem dL_law_2097 : decode cL_law 2097 = .ok (.ifCond .eq 5, 3) := by decide +kernel
theorem dL_law_2100 : decode cL_law 2100 = .ok (.iconst 0, 1) := by decide +kernel
theorem dL_law_2101 : decode cL_law 2101 = .ok (.ireturn, 1) := by decide +kernel
theorem dL_law_2102 : decode cL_law 2102 = .ok (.goto 332, 3) := by decide +kernel
theorem dL_law_2105 : decode cL_law 2105 = .ok (.aload_n 1, 1) := by decide +kernel
theorem dL_law_2106 : decode cL_law 2106 = .ok (.aload_n 0, 1) := by decide +kernel
theorem dL_law_2107 : decode cL_law 2107 = .ok (.iload 4, 2) := by decide +kernel
theorem dL_law_2109 : decode cL_law 2109 = .ok (.iconst 1, 1) := by decide +kernel
theorem dL_law_2110 : decode cL_law 2110 = .ok (.iadd, 1) := by decide +kernel
theorem dL_law_2111 : decode cL_law 2111 = .ok (.iaload, 1) := by decide +kernel
theorem dL_law_2112 : decode cL_law 2112 = .ok (.aload_n 3, 1) := by decide +kernel
theorem dL_law_2113 : decode cL_law 2113 = .ok (.invokestatic 213, 3) := by decide +kernel
theorem dL_law_2116 : decode cL_law 2116 = .ok (.istore 5, 2) := by decide +kernel
theorem dL_law_2118 : decode cL_law 2118 = .ok (.aload_n 2, 1) := by decide +kernel
theorem dL_law_2119 : decode cL_law 2119 = .ok (.aload_n 0, 1) := by decide +kernel
theorem dL_law_2120 : decode cL_law 2120 = .ok (.iload 4, 2) := by decide +kernel
theorem dL_law_2122 : decode cL_law 2122 = .ok (.iconst 1, 1) := by decide +kernel
theorem dL_law_2123 : decode cL_law 2123 = .ok (.iadd, 1) := by decide +kernel
theorem dL_law_2124 : decode cL_law 2124 = .ok (.iaload, 1) := by decide +kernel
theorem dL_law_2125 : decode cL_law 2125 = .ok (.invokevirtual 215, 3) := by decide +kernel
theorem dL_law_2128 : decode cL_law 2128 = .ok (.istore 6, 2) := by decide +kernel
theorem dL_law_2130 : decode cL_law 2130 = .ok (.aload_n 2, 1) := by decide +kernel
theorem dL_law_2131 : decode cL_law 2131 = .ok (.invokevirtual 116, 3) := by decide +kernel
theorem dL_law_2134 : decode cL_law 2134 = .ok (.iload 5, 2) := by decide +kernel
theorem dL_law_2136 : decode cL_law 2136 = .ok (.if_icmp .eq 5, 3) := by decide +kernel
theorem dL_law_2139 : decode cL_law 2139 = .ok (.iconst 0, 1) := by decide +kernel
theorem dL_law_2140 : decode cL_law 2140 = .ok (.ireturn, 1) := by decide +kernel
theorem dL_law_2141 : decode cL_law 2141 = .ok (.iload 5, 2) := by decide +kernel
theorem dL_law_2143 : decode cL_law 2143 = .ok (.ifCond .ne 15, 3) := by decide +kernel
theorem dL_law_2146 : decode cL_law 2146 = .ok (.aload_n 3, 1) := by decide +kernel
theorem dL_law_2147 : decode cL_law 2147 = .ok (.iconst 0, 1) := by decide +kernel
theorem dL_law_2148 : decode cL_law 2148 = .ok (.laload, 1) := by decide +kernel
theorem dL_law_2149 : decode cL_law 2149 = .ok (.iload 6, 2) := by decide +kernel
theorem dL_law_2151 : decode cL_law 2151 = .ok (.i2l, 1) := by decide +kernel
theorem dL_law_2152 : decode cL_law 2152 = .ok (.lcmp, 1) := by decide +kernel
theorem dL_law_2153 : decode cL_law 2153 = .ok (.ifCond .eq 5, 3) := by decide +kernel
theorem dL_law_2156 : decode cL_law 2156 = .ok (.iconst 0, 1) := by decide +kernel
theorem dL_law_2157 : decode cL_law 2157 = .ok (.ireturn, 1) := by decide +kernel
theorem dL_law_2158 : decode cL_law 2158 = .ok (.goto 276, 3) := by decide +kernel
theorem dL_law_2161 : decode cL_law 2161 = .ok (.aload_n 1, 1) := by decide +kernel
theorem dL_law_2162 : decode cL_law 2162 = .ok (.invokevirtual 216, 3) := by decide +kernel
theorem dL_law_2165 : decode cL_law 2165 = .ok (.aload_n 2, 1) := by decide +kernel
theorem dL_law_2166 : decode cL_law 2166 = .ok (.invokevirtual 219, 3) := by decide +kernel
theorem dL_law_2169 : decode cL_law 2169 = .ok (.if_icmp .eq 265, 3) := by decide +kernel
theorem dL_law_2172 : decode cL_law 2172 = .ok (.iconst 0, 1) := by decide +kernel
theorem dL_law_2173 : decode cL_law 2173 = .ok (.ireturn, 1) := by decide +kernel
theorem dL_law_2174 : decode cL_law 2174 = .ok (.aload_n 1, 1) := by decide +kernel
theorem dL_law_2175 : decode cL_law 2175 = .ok (.aload_n 0, 1) := by decide +kernel
theorem dL_law_2176 : decode cL_law 2176 = .ok (.iload 4, 2) := by decide +kernel
theorem dL_law_2178 : decode cL_law 2178 = .ok (.iconst 1, 1) := by decide +kernel
theorem dL_law_2179 : decode cL_law 2179 = .ok (.iadd, 1) := by decide +kernel
theorem dL_law_2180 : decode cL_law 2180 = .ok (.iaload, 1) := by decide +kernel
theorem dL_law_2181 : decode cL_law 2181 = .ok (.aload_n 0, 1) := by decide +kernel
theorem dL_law_2182 : decode cL_law 2182 = .ok (.iload 4, 2) := by decide +kernel
theorem dL_law_2184 : decode cL_law 2184 = .ok (.iconst 2, 1) := by decide +kernel
theorem dL_law_2185 : decode cL_law 2185 = .ok (.iadd, 1) := by decide +kernel
theorem dL_law_2186 : decode cL_law 2186 = .ok (.iaload, 1) := by decide +kernel
theorem dL_law_2187 : decode cL_law 2187 = .ok (.aload_n 3, 1) := by decide +kernel
theorem dL_law_2188 : decode cL_law 2188 = .ok (.invokestatic 220, 3) := by decide +kernel
theorem dL_law_2191 : decode cL_law 2191 = .ok (.istore 5, 2) := by decide +kernel
theorem dL_law_2193 : decode cL_law 2193 = .ok (.aload_n 2, 1) := by decide +kernel
theorem dL_law_2194 : decode cL_law 2194 = .ok (.aload_n 0, 1) := by decide +kernel
theorem dL_law_2195 : decode cL_law 2195 = .ok (.iload 4, 2) := by decide +kernel
theorem dL_law_2197 : decode cL_law 2197 = .ok (.iconst 1, 1) := by decide +kernel
theorem dL_law_2198 : decode cL_law 2198 = .ok (.iadd, 1) := by decide +kernel
theorem dL_law_2199 : decode cL_law 2199 = .ok (.iaload, 1) := by decide +kernel
theorem dL_law_2200 : decode cL_law 2200 = .ok (.aload_n 0, 1) := by decide +kernel
theorem dL_law_2201 : decode cL_law 2201 = .ok (.iload 4, 2) := by decide +kernel
theorem dL_law_2203 : decode cL_law 2203 = .ok (.iconst 2, 1) := by decide +kernel
theorem dL_law_2204 : decode cL_law 2204 = .ok (.iadd, 1) := by decide +kernel
theorem dL_law_2205 : decode cL_law 2205 = .ok (.iaload, 1) := by decide +kernel
theorem dL_law_2206 : decode cL_law 2206 = .ok (.invokevirtual 222, 3) := by decide +kernel
theorem dL_law_2209 : decode cL_law 2209 = .ok (.istore 6, 2) := by decide +kernel
theorem dL_law_2211 : decode cL_law 2211 = .ok (.aload_n 2, 1) := by decide +kernel
theorem dL_law_2212 : decode cL_law 2212 = .ok (.invokevirtual 116, 3) := by decide +kernel
theorem dL_law_2215 : decode cL_law 2215 = .ok (.iload 5, 2) := by decide +kernel
theorem dL_law_2217 : decode cL_law 2217 = .ok (.if_icmp .eq 5, 3) := by decide +kernel
theorem dL_law_2220 : decode cL_law 2220 = .ok (.iconst 0, 1) := by decide +kernel
theorem dL_law_2221 : decode cL_law 2221 = .ok (.ireturn, 1) := by decide +kernel
theorem dL_law_2222 : decode cL_law 2222 = .ok (.iload 5, 2) := by decide +kernel
theorem dL_law_2224 : decode cL_law 2224 = .ok (.ifCond .ne 15, 3) := by decide +kernel
theorem dL_law_2227 : decode cL_law 2227 = .ok (.aload_n 3, 1) := by decide +kernel
theorem dL_law_2228 : decode cL_law 2228 = .ok (.iconst 0, 1) := by decide +kernel
theorem dL_law_2229 : decode cL_law 2229 = .ok (.laload, 1) := by decide +kernel
theorem dL_law_2230 : decode cL_law 2230 = .ok (.iload 6, 2) := by decide +kernel
theorem dL_law_2232 : decode cL_law 2232 = .ok (.i2l, 1) := by decide +kernel
theorem dL_law_2233 : decode cL_law 2233 = .ok (.lcmp, 1) := by decide +kernel
theorem dL_law_2234 : decode cL_law 2234 = .ok (.ifCond .eq 5, 3) := by decide +kernel
theorem dL_law_2237 : decode cL_law 2237 = .ok (.iconst 0, 1) := by decide +kernel
theorem dL_law_2238 : decode cL_law 2238 = .ok (.ireturn, 1) := by decide +kernel
theorem dL_law_2239 : decode cL_law 2239 = .ok (.goto 195, 3) := by decide +kernel
theorem dL_law_2242 : decode cL_law 2242 = .ok (.aload_n 1, 1) := by decide +kernel
theorem dL_law_2243 : decode cL_law 2243 = .ok (.aload_n 0, 1) := by decide +kernel
theorem dL_law_2244 : decode cL_law 2244 = .ok (.iload 4, 2) := by decide +kernel
theorem dL_law_2246 : decode cL_law 2246 = .ok (.iconst 1, 1) := by decide +kernel
theorem dL_law_2247 : decode cL_law 2247 = .ok (.iadd, 1) := by decide +kernel
theorem dL_law_2248 : decode cL_law 2248 = .ok (.iaload, 1) := by decide +kernel
theorem dL_law_2249 : decode cL_law 2249 = .ok (.aload_n 3, 1) := by decide +kernel
theorem dL_law_2250 : decode cL_law 2250 = .ok (.invokestatic 223, 3) := by decide +kernel
theorem dL_law_2253 : decode cL_law 2253 = .ok (.istore 5, 2) := by decide +kernel
theorem dL_law_2255 : decode cL_law 2255 = .ok (.aload_n 2, 1) := by decide +kernel
theorem dL_law_2256 : decode cL_law 2256 = .ok (.aload_n 0, 1) := by decide +kernel
theorem dL_law_2257 : decode cL_law 2257 = .ok (.iload 4, 2) := by decide +kernel
theorem dL_law_2259 : decode cL_law 2259 = .ok (.iconst 1, 1) := by decide +kernel
theorem dL_law_2260 : decode cL_law 2260 = .ok (.iadd, 1) := by decide +kernel
theorem dL_law_2261 : decode cL_law 2261 = .ok (.iaload, 1) := by decide +kernel
theorem dL_law_2262 : decode cL_law 2262 = .ok (.invokevirtual 225, 3) := by decide +kernel
theorem dL_law_2265 : decode cL_law 2265 = .ok (.istore 6, 2) := by decide +kernel
theorem dL_law_2267 : decode cL_law 2267 = .ok (.aload_n 2, 1) := by decide +kernel
theorem dL_law_2268 : decode cL_law 2268 = .ok (.invokevirtual 116, 3) := by decide +kernel
theorem dL_law_2271 : decode cL_law 2271 = .ok (.iload 5, 2) := by decide +kernel
theorem dL_law_2273 : decode cL_law 2273 = .ok (.if_icmp .eq 5, 3) := by decide +kernel
theorem dL_law_2276 : decode cL_law 2276 = .ok (.iconst 0, 1) := by decide +kernel
theorem dL_law_2277 : decode cL_law 2277 = .ok (.ireturn, 1) := by decide +kernel
theorem dL_law_2278 : decode cL_law 2278 = .ok (.iload 5, 2) := by decide +kernel
theorem dL_law_2280 : decode cL_law 2280 = .ok (.ifCond .ne 15, 3) := by decide +kernel
theorem dL_law_2283 : decode cL_law 2283 = .ok (.aload_n 3, 1) := by decide +kernel
theorem dL_law_2284 : decode cL_law 2284 = .ok (.iconst 0, 1) := by decide +kernel
theorem dL_law_2285 : decode cL_law 2285 = .ok (.laload, 1) := by decide +kernel
theorem dL_law_2286 : decode cL_law 2286 = .ok (.iload 6, 2) := by decide +kernel
theorem dL_law_2288 : decode cL_law 2288 = .ok (.i2l, 1) := by decide +kernel
theorem dL_law_2289 : decode cL_law 2289 = .ok (.lcmp, 1) := by decide +kernel
theorem dL_law_2290 : decode cL_law 2290 = .ok (.ifCond .eq 5, 3) := by decide +kernel
theorem dL_law_2293 : decode cL_law 2293 = .ok (.iconst 0, 1) := by decide +kernel
theorem dL_law_2294 : decode cL_law 2294 = .ok (.ireturn, 1) := by decide +kernel
theorem dL_law_2295 : decode cL_law 2295 = .ok (.goto 139, 3) := by decide +kernel
theorem dL_law_2298 : decode cL_law 2298 = .ok (.aload_n 1, 1) := by decide +kernel
theorem dL_law_2299 : decode cL_law 2299 = .ok (.invokevirtual 226, 3) := by decide +kernel
theorem dL_law_2302 : decode cL_law 2302 = .ok (.aload_n 2, 1) := by decide +kernel
theorem dL_law_2303 : decode cL_law 2303 = .ok (.invokevirtual 229, 3) := by decide +kernel
theorem dL_law_2306 : decode cL_law 2306 = .ok (.if_icmp .eq 128, 3) := by decide +kernel
theorem dL_law_2309 : decode cL_law 2309 = .ok (.iconst 0, 1) := by decide +kernel
theorem dL_law_2310 : decode cL_law 2310 = .ok (.ireturn, 1) := by decide +kernel
theorem dL_law_2311 : decode cL_law 2311 = .ok (.aload_n 1, 1) := by decide +kernel
theorem dL_law_2312 : decode cL_law 2312 = .ok (.aload_n 0, 1) := by decide +kernel
theorem dL_law_2313 : decode cL_law 2313 = .ok (.iload 4, 2) := by decide +kernel
theorem dL_law_2315 : decode cL_law 2315 = .ok (.iconst 1, 1) := by decide +kernel
theorem dL_law_2316 : decode cL_law 2316 = .ok (.iadd, 1) := by decide +kernel
theorem dL_law_2317 : decode cL_law 2317 = .ok (.iaload, 1) := by decide +kernel
theorem dL_law_2318 : decode cL_law 2318 = .ok (.aload_n 0, 1) := by decide +kernel
theorem dL_law_2319 : decode cL_law 2319 = .ok (.iload 4, 2) := by decide +kernel
theorem dL_law_2321 : decode cL_law 2321 = .ok (.iconst 2, 1) := by decide +kernel
theorem dL_law_2322 : decode cL_law 2322 = .ok (.iadd, 1) := by decide +kernel
theorem dL_law_2323 : decode cL_law 2323 = .ok (.iaload, 1) := by decide +kernel
theorem dL_law_2324 : decode cL_law 2324 = .ok (.aload_n 3, 1) := by decide +kernel
theorem dL_law_2325 : decode cL_law 2325 = .ok (.invokestatic 230, 3) := by decide +kernel
theorem dL_law_2328 : decode cL_law 2328 = .ok (.istore 5, 2) := by decide +kernel
theorem dL_law_2330 : decode cL_law 2330 = .ok (.aload_n 2, 1) := by decide +kernel
theorem dL_law_2331 : decode cL_law 2331 = .ok (.aload_n 0, 1) := by decide +kernel
theorem dL_law_2332 : decode cL_law 2332 = .ok (.iload 4, 2) := by decide +kernel
theorem dL_law_2334 : decode cL_law 2334 = .ok (.iconst 1, 1) := by decide +kernel
theorem dL_law_2335 : decode cL_law 2335 = .ok (.iadd, 1) := by decide +kernel
theorem dL_law_2336 : decode cL_law 2336 = .ok (.iaload, 1) := by decide +kernel
theorem dL_law_2337 : decode cL_law 2337 = .ok (.aload_n 0, 1) := by decide +kernel
theorem dL_law_2338 : decode cL_law 2338 = .ok (.iload 4, 2) := by decide +kernel
theorem dL_law_2340 : decode cL_law 2340 = .ok (.iconst 2, 1) := by decide +kernel
theorem dL_law_2341 : decode cL_law 2341 = .ok (.iadd, 1) := by decide +kernel
theorem dL_law_2342 : decode cL_law 2342 = .ok (.iaload, 1) := by decide +kernel
theorem dL_law_2343 : decode cL_law 2343 = .ok (.invokevirtual 232, 3) := by decide +kernel
theorem dL_law_2346 : decode cL_law 2346 = .ok (.istore 6, 2) := by decide +kernel
theorem dL_law_2348 : decode cL_law 2348 = .ok (.aload_n 2, 1) := by decide +kernel
theorem dL_law_2349 : decode cL_law 2349 = .ok (.invokevirtual 116, 3) := by decide +kernel
theorem dL_law_2352 : decode cL_law 2352 = .ok (.iload 5, 2) := by decide +kernel
theorem dL_law_2354 : decode cL_law 2354 = .ok (.if_icmp .eq 5, 3) := by decide +kernel
theorem dL_law_2357 : decode cL_law 2357 = .ok (.iconst 0, 1) := by decide +kernel
theorem dL_law_2358 : decode cL_law 2358 = .ok (.ireturn, 1) := by decide +kernel
theorem dL_law_2359 : decode cL_law 2359 = .ok (.iload 5, 2) := by decide +kernel
theorem dL_law_2361 : decode cL_law 2361 = .ok (.ifCond .ne 15, 3) := by decide +kernel
theorem dL_law_2364 : decode cL_law 2364 = .ok (.aload_n 3, 1) := by decide +kernel
theorem dL_law_2365 : decode cL_law 2365 = .ok (.iconst 0, 1) := by decide +kernel
theorem dL_law_2366 : decode cL_law 2366 = .ok (.laload, 1) := by decide +kernel
theorem dL_law_2367 : decode cL_law 2367 = .ok (.iload 6, 2) := by decide +kernel
theorem dL_law_2369 : decode cL_law 2369 = .ok (.i2l, 1) := by decide +kernel
theorem dL_law_2370 : decode cL_law 2370 = .ok (.lcmp, 1) := by decide +kernel
theorem dL_law_2371 : decode cL_law 2371 = .ok (.ifCond .eq 5, 3) := by decide +kernel
theorem dL_law_2374 : decode cL_law 2374 = .ok (.iconst 0, 1) := by decide +kernel
theorem dL_law_2375 : decode cL_law 2375 = .ok (.ireturn, 1) := by decide +kernel
theorem dL_law_2376 : decode cL_law 2376 = .ok (.goto 58, 3) := by decide +kernel
theorem dL_law_2379 : decode cL_law 2379 = .ok (.aload_n 1, 1) := by decide +kernel
theorem dL_law_2380 : decode cL_law 2380 = .ok (.invokevirtual 233, 3) := by decide +kernel
theorem dL_law_2383 : decode cL_law 2383 = .ok (.dstore 5, 2) := by decide +kernel
theorem dL_law_2385 : decode cL_law 2385 = .ok (.aload_n 2, 1) := by decide +kernel
theorem dL_law_2386 : decode cL_law 2386 = .ok (.invokevirtual 237, 3) := by decide +kernel
theorem dL_law_2389 : decode cL_law 2389 = .ok (.dstore 7, 2) := by decide +kernel
theorem dL_law_2391 : decode cL_law 2391 = .ok (.dload 5, 2) := by decide +kernel
theorem dL_law_2393 : decode cL_law 2393 = .ok (.dload 7, 2) := by decide +kernel
theorem dL_law_2395 : decode cL_law 2395 = .ok (.dcmp .l, 1) := by decide +kernel
theorem dL_law_2396 : decode cL_law 2396 = .ok (.ifCond .eq 21, 3) := by decide +kernel
theorem dL_law_2399 : decode cL_law 2399 = .ok (.dload 5, 2) := by decide +kernel
theorem dL_law_2401 : decode cL_law 2401 = .ok (.dload 5, 2) := by decide +kernel
theorem dL_law_2403 : decode cL_law 2403 = .ok (.dcmp .l, 1) := by decide +kernel
theorem dL_law_2404 : decode cL_law 2404 = .ok (.ifCond .eq 11, 3) := by decide +kernel
theorem dL_law_2407 : decode cL_law 2407 = .ok (.dload 7, 2) := by decide +kernel
theorem dL_law_2409 : decode cL_law 2409 = .ok (.dload 7, 2) := by decide +kernel
theorem dL_law_2411 : decode cL_law 2411 = .ok (.dcmp .l, 1) := by decide +kernel
theorem dL_law_2412 : decode cL_law 2412 = .ok (.ifCond .ne 5, 3) := by decide +kernel
theorem dL_law_2415 : decode cL_law 2415 = .ok (.iconst 0, 1) := by decide +kernel
theorem dL_law_2416 : decode cL_law 2416 = .ok (.ireturn, 1) := by decide +kernel
theorem dL_law_2417 : decode cL_law 2417 = .ok (.goto 17, 3) := by decide +kernel
theorem dL_law_2420 : decode cL_law 2420 = .ok (.aload_n 1, 1) := by decide +kernel
theorem dL_law_2421 : decode cL_law 2421 = .ok (.invokevirtual 238, 3) := by decide +kernel
theorem dL_law_2424 : decode cL_law 2424 = .ok (.aload_n 2, 1) := by decide +kernel
theorem dL_law_2425 : decode cL_law 2425 = .ok (.invokevirtual 242, 3) := by decide +kernel
theorem dL_law_2428 : decode cL_law 2428 = .ok (.lcmp, 1) := by decide +kernel
theorem dL_law_2429 : decode cL_law 2429 = .ok (.ifCond .eq 5, 3) := by decide +kernel
theorem dL_law_2432 : decode cL_law 2432 = .ok (.iconst 0, 1) := by decide +kernel
theorem dL_law_2433 : decode cL_law 2433 = .ok (.ireturn, 1) := by decide +kernel
theorem dL_law_2434 : decode cL_law 2434 = .ok (.iinc 4 7, 3) := by decide +kernel
theorem dL_law_2437 : decode cL_law 2437 = .ok (.goto (-2414), 3) := by decide +kernel
theorem dL_law_2440 : decode cL_law 2440 = .ok (.iconst 1, 1) := by decide +kernel
theorem dL_law_2441 : decode cL_law 2441 = .ok (.ireturn, 1) := by decide +kernel
theorem q_51 : (.initialized RL : Cond) ∈ GW := gw_mem 51 (by decide +kernel) (by decide +kernel)
theorem q_427 : (.methodLink RL 153 yX10_corners : Cond) ∈ GW := gw_mem 427 (by decide +kernel) (by decide +kernel)
theorem q_431 : (.methodLink RL 157 yX10_panes : Cond) ∈ GW := gw_mem 431 (by decide +kernel) (by decide +kernel)
theorem q_435 : (.methodLink RL 189 yX10_clear : Cond) ∈ GW := gw_mem 435 (by decide +kernel) (by decide +kernel)
theorem q_436 : (.instanceMethod yX10_clear : Cond) ∈ GW := gw_mem 436 (by decide +kernel) (by decide +kernel)
theorem q_437 : (.selects RX10 yX10_clear yX10_clear : Cond) ∈ GW := gw_mem 437 (by decide +kernel) (by decide +kernel)
theorem q_438 : (.code yX10_clear cX10_clear 1 (some .int) : Cond) ∈ GW := gw_mem 438 (by decide +kernel) (by decide +kernel)
theorem q_610 : (.methodLink RL 193 yX10_paint : Cond) ∈ GW := gw_mem 610 (by decide +kernel) (by decide +kernel)
theorem q_611 : (.instanceMethod yX10_paint : Cond) ∈ GW := gw_mem 611 (by decide +kernel) (by decide +kernel)
theorem q_612 : (.selects RX10 yX10_paint yX10_paint : Cond) ∈ GW := gw_mem 612 (by decide +kernel) (by decide +kernel)
theorem q_613 : (.code yX10_paint cX10_paint 2 (some .int) : Cond) ∈ GW := gw_mem 613 (by decide +kernel) (by decide +kernel)
theorem q_621 : (.methodLink RL 197 yX10_stale : Cond) ∈ GW := gw_mem 621 (by decide +kernel) (by decide +kernel)
theorem q_622 : (.instanceMethod yX10_stale : Cond) ∈ GW := gw_mem 622 (by decide +kernel) (by decide +kernel)
theorem q_623 : (.selects RX10 yX10_stale yX10_stale : Cond) ∈ GW := gw_mem 623 (by decide +kernel) (by decide +kernel)
theorem q_624 : (.code yX10_stale cX10_stale 1 (some .int) : Cond) ∈ GW := gw_mem 624 (by decide +kernel) (by decide +kernel)
theorem q_625 : (.methodLink RL 216 yX10_colours : Cond) ∈ GW := gw_mem 625 (by decide +kernel) (by decide +kernel)
theorem q_641 : (.methodLink RL 226 yX10_greatest : Cond) ∈ GW := gw_mem 641 (by decide +kernel) (by decide +kernel)
theorem q_642 : (.instanceMethod yX10_greatest : Cond) ∈ GW := gw_mem 642 (by decide +kernel) (by decide +kernel)
theorem q_643 : (.selects RX10 yX10_greatest yX10_greatest : Cond) ∈ GW := gw_mem 643 (by decide +kernel) (by decide +kernel)
theorem q_644 : (.code yX10_greatest cX10_greatest 5 (some .int) : Cond) ∈ GW := gw_mem 644 (by decide +kernel) (by decide +kernel)
theorem q_646 : (.methodLink RL 233 yX10_brightness : Cond) ∈ GW := gw_mem 646 (by decide +kernel) (by decide +kernel)
theorem q_647 : (.instanceMethod yX10_brightness : Cond) ∈ GW := gw_mem 647 (by decide +kernel) (by decide +kernel)
theorem q_648 : (.selects RX10 yX10_brightness yX10_brightness : Cond) ∈ GW := gw_mem 648 (by decide +kernel) (by decide +kernel)
theorem q_649 : (.code yX10_brightness cX10_brightness 7 (some .double) : Cond) ∈ GW := gw_mem 649 (by decide +kernel) (by decide +kernel)
theorem q_651 : (.methodLink RL 238 yX10_digest : Cond) ∈ GW := gw_mem 651 (by decide +kernel) (by decide +kernel)
theorem q_652 : (.instanceMethod yX10_digest : Cond) ∈ GW := gw_mem 652 (by decide +kernel) (by decide +kernel)
theorem q_653 : (.selects RX10 yX10_digest yX10_digest : Cond) ∈ GW := gw_mem 653 (by decide +kernel) (by decide +kernel)
theorem q_654 : (.code yX10_digest cX10_digest 5 (some .long) : Cond) ∈ GW := gw_mem 654 (by decide +kernel) (by decide +kernel)
theorem q_806 : (.methodLink RL 110 yL_addCorner : Cond) ∈ GW := gw_mem 806 (by decide +kernel) (by decide +kernel)
theorem q_807 : (.static yL_addCorner : Cond) ∈ GW := gw_mem 807 (by decide +kernel) (by decide +kernel)
theorem q_860 : (.methodLink RL 120 yL_moveCorner : Cond) ∈ GW := gw_mem 860 (by decide +kernel) (by decide +kernel)
theorem q_861 : (.static yL_moveCorner : Cond) ∈ GW := gw_mem 861 (by decide +kernel) (by decide +kernel)
theorem q_872 : (.methodLink RL 124 yL_setColour : Cond) ∈ GW := gw_mem 872 (by decide +kernel) (by decide +kernel)
theorem q_873 : (.static yL_setColour : Cond) ∈ GW := gw_mem 873 (by decide +kernel) (by decide +kernel)
theorem q_879 : (.methodLink RL 128 yL_addPane : Cond) ∈ GW := gw_mem 879 (by decide +kernel) (by decide +kernel)
theorem q_880 : (.static yL_addPane : Cond) ∈ GW := gw_mem 880 (by decide +kernel) (by decide +kernel)
theorem q_893 : (.methodLink RL 132 yL_show : Cond) ∈ GW := gw_mem 893 (by decide +kernel) (by decide +kernel)
theorem q_894 : (.static yL_show : Cond) ∈ GW := gw_mem 894 (by decide +kernel) (by decide +kernel)
theorem q_900 : (.methodLink RL 136 yL_setPattern : Cond) ∈ GW := gw_mem 900 (by decide +kernel) (by decide +kernel)
theorem q_901 : (.static yL_setPattern : Cond) ∈ GW := gw_mem 901 (by decide +kernel) (by decide +kernel)
theorem q_912 : (.methodLink RL 139 yL_setRepeats : Cond) ∈ GW := gw_mem 912 (by decide +kernel) (by decide +kernel)
theorem q_913 : (.static yL_setRepeats : Cond) ∈ GW := gw_mem 913 (by decide +kernel) (by decide +kernel)
theorem q_919 : (.methodLink RL 142 yL_setCamera : Cond) ∈ GW := gw_mem 919 (by decide +kernel) (by decide +kernel)
theorem q_920 : (.static yL_setCamera : Cond) ∈ GW := gw_mem 920 (by decide +kernel) (by decide +kernel)
theorem q_936 : (.methodLink RL 146 yL_setLens : Cond) ∈ GW := gw_mem 936 (by decide +kernel) (by decide +kernel)
theorem q_937 : (.static yL_setLens : Cond) ∈ GW := gw_mem 937 (by decide +kernel) (by decide +kernel)
theorem q_945 : (.methodLink RL 149 yL_setBackground : Cond) ∈ GW := gw_mem 945 (by decide +kernel) (by decide +kernel)
theorem q_946 : (.static yL_setBackground : Cond) ∈ GW := gw_mem 946 (by decide +kernel) (by decide +kernel)
theorem q_952 : (.methodLink RL 161 yL_seen : Cond) ∈ GW := gw_mem 952 (by decide +kernel) (by decide +kernel)
theorem q_953 : (.static yL_seen : Cond) ∈ GW := gw_mem 953 (by decide +kernel) (by decide +kernel)
theorem q_956 : (.methodLink RL 164 yL_polygonOf : Cond) ∈ GW := gw_mem 956 (by decide +kernel) (by decide +kernel)
theorem q_957 : (.static yL_polygonOf : Cond) ∈ GW := gw_mem 957 (by decide +kernel) (by decide +kernel)
theorem q_960 : (.methodLink RL 167 yL_cornerOf : Cond) ∈ GW := gw_mem 960 (by decide +kernel) (by decide +kernel)
theorem q_961 : (.static yL_cornerOf : Cond) ∈ GW := gw_mem 961 (by decide +kernel) (by decide +kernel)
theorem q_968 : (.methodLink RL 171 yL_screenOf : Cond) ∈ GW := gw_mem 968 (by decide +kernel) (by decide +kernel)
theorem q_969 : (.static yL_screenOf : Cond) ∈ GW := gw_mem 969 (by decide +kernel) (by decide +kernel)
theorem q_972 : (.methodLink RL 174 yL_piecesOf : Cond) ∈ GW := gw_mem 972 (by decide +kernel) (by decide +kernel)
theorem q_973 : (.static yL_piecesOf : Cond) ∈ GW := gw_mem 973 (by decide +kernel) (by decide +kernel)
theorem q_976 : (.methodLink RL 177 yL_pointsOf : Cond) ∈ GW := gw_mem 976 (by decide +kernel) (by decide +kernel)
theorem q_977 : (.static yL_pointsOf : Cond) ∈ GW := gw_mem 977 (by decide +kernel) (by decide +kernel)
theorem q_980 : (.methodLink RL 180 yL_liesIn : Cond) ∈ GW := gw_mem 980 (by decide +kernel) (by decide +kernel)
theorem q_981 : (.static yL_liesIn : Cond) ∈ GW := gw_mem 981 (by decide +kernel) (by decide +kernel)
theorem q_987 : (.methodLink RL 183 yL_depthOf : Cond) ∈ GW := gw_mem 987 (by decide +kernel) (by decide +kernel)
theorem q_988 : (.static yL_depthOf : Cond) ∈ GW := gw_mem 988 (by decide +kernel) (by decide +kernel)
theorem q_994 : (.methodLink RL 186 yL_colourOf : Cond) ∈ GW := gw_mem 994 (by decide +kernel) (by decide +kernel)
theorem q_995 : (.static yL_colourOf : Cond) ∈ GW := gw_mem 995 (by decide +kernel) (by decide +kernel)
theorem q_1001 : (.methodLink RL 201 yL_isStale : Cond) ∈ GW := gw_mem 1001 (by decide +kernel) (by decide +kernel)
theorem q_1002 : (.static yL_isStale : Cond) ∈ GW := gw_mem 1002 (by decide +kernel) (by decide +kernel)
theorem q_1009 : (.methodLink RL 204 yL_colourAt : Cond) ∈ GW := gw_mem 1009 (by decide +kernel) (by decide +kernel)
theorem q_1010 : (.static yL_colourAt : Cond) ∈ GW := gw_mem 1010 (by decide +kernel) (by decide +kernel)
theorem q_1013 : (.methodLink RL 207 yL_depthAt : Cond) ∈ GW := gw_mem 1013 (by decide +kernel) (by decide +kernel)
theorem q_1014 : (.static yL_depthAt : Cond) ∈ GW := gw_mem 1014 (by decide +kernel) (by decide +kernel)
theorem q_1017 : (.methodLink RL 210 yL_paneAt : Cond) ∈ GW := gw_mem 1017 (by decide +kernel) (by decide +kernel)
theorem q_1018 : (.static yL_paneAt : Cond) ∈ GW := gw_mem 1018 (by decide +kernel) (by decide +kernel)
theorem q_1021 : (.methodLink RL 213 yL_pointsWith : Cond) ∈ GW := gw_mem 1021 (by decide +kernel) (by decide +kernel)
theorem q_1022 : (.static yL_pointsWith : Cond) ∈ GW := gw_mem 1022 (by decide +kernel) (by decide +kernel)
theorem q_1025 : (.methodLink RL 220 yL_colourNow : Cond) ∈ GW := gw_mem 1025 (by decide +kernel) (by decide +kernel)
theorem q_1026 : (.static yL_colourNow : Cond) ∈ GW := gw_mem 1026 (by decide +kernel) (by decide +kernel)
theorem q_1032 : (.methodLink RL 223 yL_seenOf : Cond) ∈ GW := gw_mem 1032 (by decide +kernel) (by decide +kernel)
theorem q_1033 : (.static yL_seenOf : Cond) ∈ GW := gw_mem 1033 (by decide +kernel) (by decide +kernel)
theorem q_1039 : (.methodLink RL 230 yL_glassAt : Cond) ∈ GW := gw_mem 1039 (by decide +kernel) (by decide +kernel)
theorem q_1040 : (.static yL_glassAt : Cond) ∈ GW := gw_mem 1040 (by decide +kernel) (by decide +kernel)
theorem q_1191 : (.methodLink RL 116 yX11_thrown : Cond) ∈ GW := gw_mem 1191 (by decide +kernel) (by decide +kernel)
theorem q_1192 : (.instanceMethod yX11_thrown : Cond) ∈ GW := gw_mem 1192 (by decide +kernel) (by decide +kernel)
theorem q_1193 : (.selects RX11 yX11_thrown yX11_thrown : Cond) ∈ GW := gw_mem 1193 (by decide +kernel) (by decide +kernel)
theorem q_1194 : (.code yX11_thrown cX11_thrown 1 (some .int) : Cond) ∈ GW := gw_mem 1194 (by decide +kernel) (by decide +kernel)
theorem q_1195 : (.methodLink RL 115 yX11_addCorner : Cond) ∈ GW := gw_mem 1195 (by decide +kernel) (by decide +kernel)
theorem q_1196 : (.instanceMethod yX11_addCorner : Cond) ∈ GW := gw_mem 1196 (by decide +kernel) (by decide +kernel)
theorem q_1197 : (.selects RX11 yX11_addCorner yX11_addCorner : Cond) ∈ GW := gw_mem 1197 (by decide +kernel) (by decide +kernel)
theorem q_1198 : (.code yX11_addCorner cX11_addCorner 7 (some .int) : Cond) ∈ GW := gw_mem 1198 (by decide +kernel) (by decide +kernel)
theorem q_1217 : (.methodLink RL 123 yX11_moveCorner : Cond) ∈ GW := gw_mem 1217 (by decide +kernel) (by decide +kernel)
theorem q_1218 : (.instanceMethod yX11_moveCorner : Cond) ∈ GW := gw_mem 1218 (by decide +kernel) (by decide +kernel)
theorem q_1219 : (.selects RX11 yX11_moveCorner yX11_moveCorner : Cond) ∈ GW := gw_mem 1219 (by decide +kernel) (by decide +kernel)
theorem q_1220 : (.code yX11_moveCorner cX11_moveCorner 7 (some .int) : Cond) ∈ GW := gw_mem 1220 (by decide +kernel) (by decide +kernel)
theorem q_1225 : (.methodLink RL 127 yX11_setColour : Cond) ∈ GW := gw_mem 1225 (by decide +kernel) (by decide +kernel)
theorem q_1226 : (.instanceMethod yX11_setColour : Cond) ∈ GW := gw_mem 1226 (by decide +kernel) (by decide +kernel)
theorem q_1227 : (.selects RX11 yX11_setColour yX11_setColour : Cond) ∈ GW := gw_mem 1227 (by decide +kernel) (by decide +kernel)
theorem q_1228 : (.code yX11_setColour cX11_setColour 4 (some .int) : Cond) ∈ GW := gw_mem 1228 (by decide +kernel) (by decide +kernel)
theorem q_1229 : (.methodLink RL 131 yX11_addPane : Cond) ∈ GW := gw_mem 1229 (by decide +kernel) (by decide +kernel)
theorem q_1230 : (.instanceMethod yX11_addPane : Cond) ∈ GW := gw_mem 1230 (by decide +kernel) (by decide +kernel)
theorem q_1231 : (.selects RX11 yX11_addPane yX11_addPane : Cond) ∈ GW := gw_mem 1231 (by decide +kernel) (by decide +kernel)
theorem q_1232 : (.code yX11_addPane cX11_addPane 7 (some .int) : Cond) ∈ GW := gw_mem 1232 (by decide +kernel) (by decide +kernel)
theorem q_1233 : (.methodLink RL 135 yX11_show : Cond) ∈ GW := gw_mem 1233 (by decide +kernel) (by decide +kernel)
theorem q_1234 : (.instanceMethod yX11_show : Cond) ∈ GW := gw_mem 1234 (by decide +kernel) (by decide +kernel)
theorem q_1235 : (.selects RX11 yX11_show yX11_show : Cond) ∈ GW := gw_mem 1235 (by decide +kernel) (by decide +kernel)
theorem q_1236 : (.code yX11_show cX11_show 4 (some .boolean) : Cond) ∈ GW := gw_mem 1236 (by decide +kernel) (by decide +kernel)
theorem q_1245 : (.methodLink RL 138 yX11_setPattern : Cond) ∈ GW := gw_mem 1245 (by decide +kernel) (by decide +kernel)
theorem q_1246 : (.instanceMethod yX11_setPattern : Cond) ∈ GW := gw_mem 1246 (by decide +kernel) (by decide +kernel)
theorem q_1247 : (.selects RX11 yX11_setPattern yX11_setPattern : Cond) ∈ GW := gw_mem 1247 (by decide +kernel) (by decide +kernel)
theorem q_1248 : (.code yX11_setPattern cX11_setPattern 7 (some .int) : Cond) ∈ GW := gw_mem 1248 (by decide +kernel) (by decide +kernel)
theorem q_1252 : (.methodLink RL 141 yX11_setRepeats : Cond) ∈ GW := gw_mem 1252 (by decide +kernel) (by decide +kernel)
theorem q_1253 : (.instanceMethod yX11_setRepeats : Cond) ∈ GW := gw_mem 1253 (by decide +kernel) (by decide +kernel)
theorem q_1254 : (.selects RX11 yX11_setRepeats yX11_setRepeats : Cond) ∈ GW := gw_mem 1254 (by decide +kernel) (by decide +kernel)
theorem q_1255 : (.code yX11_setRepeats cX11_setRepeats 4 (some .boolean) : Cond) ∈ GW := gw_mem 1255 (by decide +kernel) (by decide +kernel)
theorem q_1256 : (.methodLink RL 145 yX11_setCamera : Cond) ∈ GW := gw_mem 1256 (by decide +kernel) (by decide +kernel)
theorem q_1257 : (.instanceMethod yX11_setCamera : Cond) ∈ GW := gw_mem 1257 (by decide +kernel) (by decide +kernel)
theorem q_1258 : (.selects RX11 yX11_setCamera yX11_setCamera : Cond) ∈ GW := gw_mem 1258 (by decide +kernel) (by decide +kernel)
theorem q_1259 : (.code yX11_setCamera cX11_setCamera 6 (some .int) : Cond) ∈ GW := gw_mem 1259 (by decide +kernel) (by decide +kernel)
theorem q_1268 : (.methodLink RL 148 yX11_setLens : Cond) ∈ GW := gw_mem 1268 (by decide +kernel) (by decide +kernel)
theorem q_1269 : (.instanceMethod yX11_setLens : Cond) ∈ GW := gw_mem 1269 (by decide +kernel) (by decide +kernel)
theorem q_1270 : (.selects RX11 yX11_setLens yX11_setLens : Cond) ∈ GW := gw_mem 1270 (by decide +kernel) (by decide +kernel)
theorem q_1271 : (.code yX11_setLens cX11_setLens 3 (some .int) : Cond) ∈ GW := gw_mem 1271 (by decide +kernel) (by decide +kernel)
theorem q_1272 : (.methodLink RL 152 yX11_setBackground : Cond) ∈ GW := gw_mem 1272 (by decide +kernel) (by decide +kernel)
theorem q_1273 : (.instanceMethod yX11_setBackground : Cond) ∈ GW := gw_mem 1273 (by decide +kernel) (by decide +kernel)
theorem q_1274 : (.selects RX11 yX11_setBackground yX11_setBackground : Cond) ∈ GW := gw_mem 1274 (by decide +kernel) (by decide +kernel)
theorem q_1275 : (.code yX11_setBackground cX11_setBackground 3 (some .int) : Cond) ∈ GW := gw_mem 1275 (by decide +kernel) (by decide +kernel)
theorem q_1276 : (.methodLink RL 156 yX11_corners : Cond) ∈ GW := gw_mem 1276 (by decide +kernel) (by decide +kernel)
theorem q_1277 : (.instanceMethod yX11_corners : Cond) ∈ GW := gw_mem 1277 (by decide +kernel) (by decide +kernel)
theorem q_1278 : (.selects RX11 yX11_corners yX11_corners : Cond) ∈ GW := gw_mem 1278 (by decide +kernel) (by decide +kernel)
theorem q_1279 : (.code yX11_corners cX11_corners 1 (some .int) : Cond) ∈ GW := gw_mem 1279 (by decide +kernel) (by decide +kernel)
theorem q_1284 : (.methodLink RL 160 yX11_panes : Cond) ∈ GW := gw_mem 1284 (by decide +kernel) (by decide +kernel)
theorem q_1285 : (.instanceMethod yX11_panes : Cond) ∈ GW := gw_mem 1285 (by decide +kernel) (by decide +kernel)
theorem q_1286 : (.selects RX11 yX11_panes yX11_panes : Cond) ∈ GW := gw_mem 1286 (by decide +kernel) (by decide +kernel)
theorem q_1287 : (.code yX11_panes cX11_panes 1 (some .int) : Cond) ∈ GW := gw_mem 1287 (by decide +kernel) (by decide +kernel)
theorem q_1288 : (.methodLink RL 163 yX11_seen : Cond) ∈ GW := gw_mem 1288 (by decide +kernel) (by decide +kernel)
theorem q_1289 : (.instanceMethod yX11_seen : Cond) ∈ GW := gw_mem 1289 (by decide +kernel) (by decide +kernel)
theorem q_1290 : (.selects RX11 yX11_seen yX11_seen : Cond) ∈ GW := gw_mem 1290 (by decide +kernel) (by decide +kernel)
theorem q_1291 : (.code yX11_seen cX11_seen 3 (some .int) : Cond) ∈ GW := gw_mem 1291 (by decide +kernel) (by decide +kernel)
theorem q_1292 : (.methodLink RL 166 yX11_polygonOf : Cond) ∈ GW := gw_mem 1292 (by decide +kernel) (by decide +kernel)
theorem q_1293 : (.instanceMethod yX11_polygonOf : Cond) ∈ GW := gw_mem 1293 (by decide +kernel) (by decide +kernel)
theorem q_1294 : (.selects RX11 yX11_polygonOf yX11_polygonOf : Cond) ∈ GW := gw_mem 1294 (by decide +kernel) (by decide +kernel)
theorem q_1295 : (.code yX11_polygonOf cX11_polygonOf 2 (some .int) : Cond) ∈ GW := gw_mem 1295 (by decide +kernel) (by decide +kernel)
theorem q_1325 : (.methodLink RL 170 yX11_cornerOf : Cond) ∈ GW := gw_mem 1325 (by decide +kernel) (by decide +kernel)
theorem q_1326 : (.instanceMethod yX11_cornerOf : Cond) ∈ GW := gw_mem 1326 (by decide +kernel) (by decide +kernel)
theorem q_1327 : (.selects RX11 yX11_cornerOf yX11_cornerOf : Cond) ∈ GW := gw_mem 1327 (by decide +kernel) (by decide +kernel)
theorem q_1328 : (.code yX11_cornerOf cX11_cornerOf 4 (some .int) : Cond) ∈ GW := gw_mem 1328 (by decide +kernel) (by decide +kernel)
theorem q_1332 : (.methodLink RL 173 yX11_screenOf : Cond) ∈ GW := gw_mem 1332 (by decide +kernel) (by decide +kernel)
theorem q_1333 : (.instanceMethod yX11_screenOf : Cond) ∈ GW := gw_mem 1333 (by decide +kernel) (by decide +kernel)
theorem q_1334 : (.selects RX11 yX11_screenOf yX11_screenOf : Cond) ∈ GW := gw_mem 1334 (by decide +kernel) (by decide +kernel)
theorem q_1335 : (.code yX11_screenOf cX11_screenOf 4 (some .int) : Cond) ∈ GW := gw_mem 1335 (by decide +kernel) (by decide +kernel)
theorem q_1365 : (.methodLink RL 176 yX11_piecesOf : Cond) ∈ GW := gw_mem 1365 (by decide +kernel) (by decide +kernel)
theorem q_1366 : (.instanceMethod yX11_piecesOf : Cond) ∈ GW := gw_mem 1366 (by decide +kernel) (by decide +kernel)
theorem q_1367 : (.selects RX11 yX11_piecesOf yX11_piecesOf : Cond) ∈ GW := gw_mem 1367 (by decide +kernel) (by decide +kernel)
theorem q_1368 : (.code yX11_piecesOf cX11_piecesOf 2 (some .int) : Cond) ∈ GW := gw_mem 1368 (by decide +kernel) (by decide +kernel)
theorem q_1388 : (.methodLink RL 179 yX11_pointsOf : Cond) ∈ GW := gw_mem 1388 (by decide +kernel) (by decide +kernel)
theorem q_1389 : (.instanceMethod yX11_pointsOf : Cond) ∈ GW := gw_mem 1389 (by decide +kernel) (by decide +kernel)
theorem q_1390 : (.selects RX11 yX11_pointsOf yX11_pointsOf : Cond) ∈ GW := gw_mem 1390 (by decide +kernel) (by decide +kernel)
theorem q_1391 : (.code yX11_pointsOf cX11_pointsOf 2 (some .int) : Cond) ∈ GW := gw_mem 1391 (by decide +kernel) (by decide +kernel)
theorem q_1405 : (.methodLink RL 182 yX11_liesIn : Cond) ∈ GW := gw_mem 1405 (by decide +kernel) (by decide +kernel)
theorem q_1406 : (.instanceMethod yX11_liesIn : Cond) ∈ GW := gw_mem 1406 (by decide +kernel) (by decide +kernel)
theorem q_1407 : (.selects RX11 yX11_liesIn yX11_liesIn : Cond) ∈ GW := gw_mem 1407 (by decide +kernel) (by decide +kernel)
theorem q_1408 : (.code yX11_liesIn cX11_liesIn 4 (some .boolean) : Cond) ∈ GW := gw_mem 1408 (by decide +kernel) (by decide +kernel)
theorem q_1416 : (.methodLink RL 185 yX11_depthOf : Cond) ∈ GW := gw_mem 1416 (by decide +kernel) (by decide +kernel)
theorem q_1417 : (.instanceMethod yX11_depthOf : Cond) ∈ GW := gw_mem 1417 (by decide +kernel) (by decide +kernel)
theorem q_1418 : (.selects RX11 yX11_depthOf yX11_depthOf : Cond) ∈ GW := gw_mem 1418 (by decide +kernel) (by decide +kernel)
theorem q_1419 : (.code yX11_depthOf cX11_depthOf 4 (some .int) : Cond) ∈ GW := gw_mem 1419 (by decide +kernel) (by decide +kernel)
theorem q_1424 : (.methodLink RL 188 yX11_colourOf : Cond) ∈ GW := gw_mem 1424 (by decide +kernel) (by decide +kernel)
theorem q_1425 : (.instanceMethod yX11_colourOf : Cond) ∈ GW := gw_mem 1425 (by decide +kernel) (by decide +kernel)
theorem q_1426 : (.selects RX11 yX11_colourOf yX11_colourOf : Cond) ∈ GW := gw_mem 1426 (by decide +kernel) (by decide +kernel)
theorem q_1427 : (.code yX11_colourOf cX11_colourOf 4 (some .int) : Cond) ∈ GW := gw_mem 1427 (by decide +kernel) (by decide +kernel)
theorem q_1444 : (.methodLink RL 192 yX11_clear : Cond) ∈ GW := gw_mem 1444 (by decide +kernel) (by decide +kernel)
theorem q_1445 : (.instanceMethod yX11_clear : Cond) ∈ GW := gw_mem 1445 (by decide +kernel) (by decide +kernel)
theorem q_1446 : (.selects RX11 yX11_clear yX11_clear : Cond) ∈ GW := gw_mem 1446 (by decide +kernel) (by decide +kernel)
theorem q_1447 : (.code yX11_clear cX11_clear 1 (some .int) : Cond) ∈ GW := gw_mem 1447 (by decide +kernel) (by decide +kernel)
theorem q_1479 : (.methodLink RL 196 yX11_paint : Cond) ∈ GW := gw_mem 1479 (by decide +kernel) (by decide +kernel)
theorem q_1480 : (.instanceMethod yX11_paint : Cond) ∈ GW := gw_mem 1480 (by decide +kernel) (by decide +kernel)
theorem q_1481 : (.selects RX11 yX11_paint yX11_paint : Cond) ∈ GW := gw_mem 1481 (by decide +kernel) (by decide +kernel)
theorem q_1482 : (.code yX11_paint cX11_paint 3 (some .int) : Cond) ∈ GW := gw_mem 1482 (by decide +kernel) (by decide +kernel)
theorem q_1483 : (.methodLink RL 200 yX11_stale : Cond) ∈ GW := gw_mem 1483 (by decide +kernel) (by decide +kernel)
theorem q_1484 : (.instanceMethod yX11_stale : Cond) ∈ GW := gw_mem 1484 (by decide +kernel) (by decide +kernel)
theorem q_1485 : (.selects RX11 yX11_stale yX11_stale : Cond) ∈ GW := gw_mem 1485 (by decide +kernel) (by decide +kernel)
theorem q_1486 : (.code yX11_stale cX11_stale 1 (some .int) : Cond) ∈ GW := gw_mem 1486 (by decide +kernel) (by decide +kernel)
theorem q_1487 : (.methodLink RL 203 yX11_isStale : Cond) ∈ GW := gw_mem 1487 (by decide +kernel) (by decide +kernel)
theorem q_1488 : (.instanceMethod yX11_isStale : Cond) ∈ GW := gw_mem 1488 (by decide +kernel) (by decide +kernel)
theorem q_1489 : (.selects RX11 yX11_isStale yX11_isStale : Cond) ∈ GW := gw_mem 1489 (by decide +kernel) (by decide +kernel)
theorem q_1490 : (.code yX11_isStale cX11_isStale 2 (some .boolean) : Cond) ∈ GW := gw_mem 1490 (by decide +kernel) (by decide +kernel)
theorem q_1491 : (.methodLink RL 206 yX11_colourAt : Cond) ∈ GW := gw_mem 1491 (by decide +kernel) (by decide +kernel)
theorem q_1492 : (.instanceMethod yX11_colourAt : Cond) ∈ GW := gw_mem 1492 (by decide +kernel) (by decide +kernel)
theorem q_1493 : (.selects RX11 yX11_colourAt yX11_colourAt : Cond) ∈ GW := gw_mem 1493 (by decide +kernel) (by decide +kernel)
theorem q_1494 : (.code yX11_colourAt cX11_colourAt 3 (some .int) : Cond) ∈ GW := gw_mem 1494 (by decide +kernel) (by decide +kernel)
theorem q_1499 : (.methodLink RL 209 yX11_depthAt_ : Cond) ∈ GW := gw_mem 1499 (by decide +kernel) (by decide +kernel)
theorem q_1500 : (.instanceMethod yX11_depthAt_ : Cond) ∈ GW := gw_mem 1500 (by decide +kernel) (by decide +kernel)
theorem q_1501 : (.selects RX11 yX11_depthAt_ yX11_depthAt_ : Cond) ∈ GW := gw_mem 1501 (by decide +kernel) (by decide +kernel)
theorem q_1502 : (.code yX11_depthAt_ cX11_depthAt_ 3 (some .int) : Cond) ∈ GW := gw_mem 1502 (by decide +kernel) (by decide +kernel)
theorem q_1503 : (.methodLink RL 212 yX11_paneAt : Cond) ∈ GW := gw_mem 1503 (by decide +kernel) (by decide +kernel)
theorem q_1504 : (.instanceMethod yX11_paneAt : Cond) ∈ GW := gw_mem 1504 (by decide +kernel) (by decide +kernel)
theorem q_1505 : (.selects RX11 yX11_paneAt yX11_paneAt : Cond) ∈ GW := gw_mem 1505 (by decide +kernel) (by decide +kernel)
theorem q_1506 : (.code yX11_paneAt cX11_paneAt 3 (some .int) : Cond) ∈ GW := gw_mem 1506 (by decide +kernel) (by decide +kernel)
theorem q_1507 : (.methodLink RL 215 yX11_pointsWith : Cond) ∈ GW := gw_mem 1507 (by decide +kernel) (by decide +kernel)
theorem q_1508 : (.instanceMethod yX11_pointsWith : Cond) ∈ GW := gw_mem 1508 (by decide +kernel) (by decide +kernel)
theorem q_1509 : (.selects RX11 yX11_pointsWith yX11_pointsWith : Cond) ∈ GW := gw_mem 1509 (by decide +kernel) (by decide +kernel)
theorem q_1510 : (.code yX11_pointsWith cX11_pointsWith 2 (some .int) : Cond) ∈ GW := gw_mem 1510 (by decide +kernel) (by decide +kernel)
theorem q_1514 : (.methodLink RL 219 yX11_colours : Cond) ∈ GW := gw_mem 1514 (by decide +kernel) (by decide +kernel)
theorem q_1515 : (.instanceMethod yX11_colours : Cond) ∈ GW := gw_mem 1515 (by decide +kernel) (by decide +kernel)
theorem q_1516 : (.selects RX11 yX11_colours yX11_colours : Cond) ∈ GW := gw_mem 1516 (by decide +kernel) (by decide +kernel)
theorem q_1517 : (.code yX11_colours cX11_colours 1 (some .int) : Cond) ∈ GW := gw_mem 1517 (by decide +kernel) (by decide +kernel)
theorem q_1522 : (.methodLink RL 222 yX11_colourNow : Cond) ∈ GW := gw_mem 1522 (by decide +kernel) (by decide +kernel)
theorem q_1523 : (.instanceMethod yX11_colourNow : Cond) ∈ GW := gw_mem 1523 (by decide +kernel) (by decide +kernel)
theorem q_1524 : (.selects RX11 yX11_colourNow yX11_colourNow : Cond) ∈ GW := gw_mem 1524 (by decide +kernel) (by decide +kernel)
theorem q_1525 : (.code yX11_colourNow cX11_colourNow 3 (some .int) : Cond) ∈ GW := gw_mem 1525 (by decide +kernel) (by decide +kernel)
theorem q_1526 : (.methodLink RL 225 yX11_seenOf : Cond) ∈ GW := gw_mem 1526 (by decide +kernel) (by decide +kernel)
theorem q_1527 : (.instanceMethod yX11_seenOf : Cond) ∈ GW := gw_mem 1527 (by decide +kernel) (by decide +kernel)
theorem q_1528 : (.selects RX11 yX11_seenOf yX11_seenOf : Cond) ∈ GW := gw_mem 1528 (by decide +kernel) (by decide +kernel)
theorem q_1529 : (.code yX11_seenOf cX11_seenOf 4 (some .int) : Cond) ∈ GW := gw_mem 1529 (by decide +kernel) (by decide +kernel)
theorem q_1530 : (.methodLink RL 229 yX11_greatest : Cond) ∈ GW := gw_mem 1530 (by decide +kernel) (by decide +kernel)
theorem q_1531 : (.instanceMethod yX11_greatest : Cond) ∈ GW := gw_mem 1531 (by decide +kernel) (by decide +kernel)
theorem q_1532 : (.selects RX11 yX11_greatest yX11_greatest : Cond) ∈ GW := gw_mem 1532 (by decide +kernel) (by decide +kernel)
theorem q_1533 : (.code yX11_greatest cX11_greatest 5 (some .int) : Cond) ∈ GW := gw_mem 1533 (by decide +kernel) (by decide +kernel)
theorem q_1534 : (.methodLink RL 232 yX11_glassAt : Cond) ∈ GW := gw_mem 1534 (by decide +kernel) (by decide +kernel)
theorem q_1535 : (.instanceMethod yX11_glassAt : Cond) ∈ GW := gw_mem 1535 (by decide +kernel) (by decide +kernel)
theorem q_1536 : (.selects RX11 yX11_glassAt yX11_glassAt : Cond) ∈ GW := gw_mem 1536 (by decide +kernel) (by decide +kernel)
theorem q_1537 : (.code yX11_glassAt cX11_glassAt 3 (some .int) : Cond) ∈ GW := gw_mem 1537 (by decide +kernel) (by decide +kernel)
theorem q_1538 : (.methodLink RL 237 yX11_brightness : Cond) ∈ GW := gw_mem 1538 (by decide +kernel) (by decide +kernel)
theorem q_1539 : (.instanceMethod yX11_brightness : Cond) ∈ GW := gw_mem 1539 (by decide +kernel) (by decide +kernel)
theorem q_1540 : (.selects RX11 yX11_brightness yX11_brightness : Cond) ∈ GW := gw_mem 1540 (by decide +kernel) (by decide +kernel)
theorem q_1541 : (.code yX11_brightness cX11_brightness 3 (some .double) : Cond) ∈ GW := gw_mem 1541 (by decide +kernel) (by decide +kernel)
theorem q_1543 : (.methodLink RL 242 yX11_digest : Cond) ∈ GW := gw_mem 1543 (by decide +kernel) (by decide +kernel)
theorem q_1544 : (.instanceMethod yX11_digest : Cond) ∈ GW := gw_mem 1544 (by decide +kernel) (by decide +kernel)
theorem q_1545 : (.selects RX11 yX11_digest yX11_digest : Cond) ∈ GW := gw_mem 1545 (by decide +kernel) (by decide +kernel)
theorem q_1546 : (.code yX11_digest cX11_digest 6 (some .long) : Cond) ∈ GW := gw_mem 1546 (by decide +kernel) (by decide +kernel)
theorem ii_7 : Int32.ofInt (7) = 7 := by decide +kernel
theorem q_808 : Cond.codeWith yL_addCorner cL_addCorner 9 (some .int) [(0, 18, 21, 13), (0, 18, 25, 15)] ∈ GW := gw_mem 808 (by decide +kernel) (by decide +kernel)
theorem gw_L_110 {x : GX} {cc : ByteArray} {nL d pc : Nat} {M : GM} {lv : List (Nat × Value)} {st : List Value} (X : GC x cc nL RL d) {i1 : Int32} {i2 : Int32} {i3 : Int32} {i4 : Int32} {i5 : Int32} {i6 : Int32} {r : Int32} {M1 : GM} (hM : gMetW (xl x) (xz x) yL_addCorner cL_addCorner 9 [(0, 18, 21, 13), (0, 18, 25, 15)] [.ref (gad (xz x) 0), .int i1, .int i2, .int i3, .int i4, .int i5, .int i6, .ref (gad (xz x) 162)] M r M1) (hnc : gNcs (xs x)) (hd : 9 ≤ d) (hsum : (st.map fun v => v.category).sum ≤ 8) (hroom : xcells x + 1 ≤ (xR x).cells ∧ xslots x + 6 ≤ (xR x).slots) (dec : decode cc pc = .ok (.invokestatic 110, 3)) (go : WG (xup x) M1 lv (pc + 3) (.int r :: st)) : WG x M lv pc (.ref (gad (xz x) 162) :: .int i6 :: .int i5 :: .int i4 :: .int i3 :: .int i2 :: .int i1 :: .ref (gad (xz x) 0) :: st) := g_callW X (n := 8) (As := [.ref (gad (xz x) 0), .int i1, .int i2, .int i3, .int i4, .int i5, .int i6, .ref (gad (xz x) 162)]) (rest := st) hM hnc q_806 q_807 q_51 q_808 (by decide +kernel) rfl hd (by decide) rfl hsum hroom dec go
theorem gc_L_115 {x : GX} {cc : ByteArray} {nL d pc : Nat} {M : GM} {lv : List (Nat × Value)} {st : List Value} (X : GC x cc nL RL d) {i0 : Int32} {i1 : Int32} {i2 : Int32} {i3 : Int32} {i4 : Int32} {i5 : Int32} {M1 : GM} {r : Int32} (ht : gT 122 = 11) (hM : gMet (xl x) (xz x) yX11_addCorner cX11_addCorner 7 (some .int) 2 [.ref (gad (xz x) 122), .int i0, .int i1, .int i2, .int i3, .int i4, .int i5] M (some (.int r)) M1) (hd : 3 ≤ d) (hsum : (st.map fun v => v.category).sum ≤ 8) (dec : decode cc pc = .ok (.invokevirtual 115, 3)) (go : WG x M1 lv (pc + 3) (.int r :: st)) : WG x M lv pc (.int i5 :: .int i4 :: .int i3 :: .int i2 :: .int i1 :: .int i0 :: .ref (gad (xz x) 122) :: st) := g_callV X (n := 6) (As := [.int i0, .int i1, .int i2, .int i3, .int i4, .int i5]) (rest := st) hM ht (by decide) (gE_11 ht) rfl q_1195 q_1196 q_1197 q_63 q_1198 (by decide +kernel) rfl hd (by decide) rfl hsum dec go
theorem gc_L_116 {x : GX} {cc : ByteArray} {nL d pc : Nat} {M : GM} {lv : List (Nat × Value)} {st : List Value} (X : GC x cc nL RL d)  {M1 : GM} {r : Int32} (ht : gT 122 = 11) (hM : gMet (xl x) (xz x) yX11_thrown cX11_thrown 1 (some .int) 0 [.ref (gad (xz x) 122)] M (some (.int r)) M1) (hd : 1 ≤ d) (hsum : (st.map fun v => v.category).sum ≤ 8) (dec : decode cc pc = .ok (.invokevirtual 116, 3)) (go : WG x M1 lv (pc + 3) (.int r :: st)) : WG x M lv pc (.ref (gad (xz x) 122) :: st) := g_callV X (n := 0) (As := []) (rest := st) hM ht (by decide) (gE_11 ht) rfl q_1191 q_1192 q_1193 q_63 q_1194 (by decide +kernel) rfl hd (by decide) rfl hsum dec go
theorem q_862 : Cond.codeWith yL_moveCorner cL_moveCorner 7 (some .int) [(0, 14, 17, 21), (0, 14, 21, 13)] ∈ GW := gw_mem 862 (by decide +kernel) (by decide +kernel)
theorem gw_L_120 {x : GX} {cc : ByteArray} {nL d pc : Nat} {M : GM} {lv : List (Nat × Value)} {st : List Value} (X : GC x cc nL RL d) {i1 : Int32} {i2 : Int32} {i3 : Int32} {i4 : Int32} {r : Int32} {M1 : GM} (hM : gMetW (xl x) (xz x) yL_moveCorner cL_moveCorner 7 [(0, 14, 17, 21), (0, 14, 21, 13)] [.ref (gad (xz x) 0), .int i1, .int i2, .int i3, .int i4, .ref (gad (xz x) 162)] M r M1) (hnc : gNcs (xs x)) (hd : 9 ≤ d) (hsum : (st.map fun v => v.category).sum ≤ 8) (hroom : xcells x + 1 ≤ (xR x).cells ∧ xslots x + 6 ≤ (xR x).slots) (dec : decode cc pc = .ok (.invokestatic 120, 3)) (go : WG (xup x) M1 lv (pc + 3) (.int r :: st)) : WG x M lv pc (.ref (gad (xz x) 162) :: .int i4 :: .int i3 :: .int i2 :: .int i1 :: .ref (gad (xz x) 0) :: st) := g_callW X (n := 6) (As := [.ref (gad (xz x) 0), .int i1, .int i2, .int i3, .int i4, .ref (gad (xz x) 162)]) (rest := st) hM hnc q_860 q_861 q_51 q_862 (by decide +kernel) rfl hd (by decide) rfl hsum hroom dec go
theorem gc_L_123 {x : GX} {cc : ByteArray} {nL d pc : Nat} {M : GM} {lv : List (Nat × Value)} {st : List Value} (X : GC x cc nL RL d) {i0 : Int32} {i1 : Int32} {i2 : Int32} {i3 : Int32} {M1 : GM} {r : Int32} (ht : gT 122 = 11) (hM : gMet (xl x) (xz x) yX11_moveCorner cX11_moveCorner 7 (some .int) 2 [.ref (gad (xz x) 122), .int i0, .int i1, .int i2, .int i3] M (some (.int r)) M1) (hd : 3 ≤ d) (hsum : (st.map fun v => v.category).sum ≤ 8) (dec : decode cc pc = .ok (.invokevirtual 123, 3)) (go : WG x M1 lv (pc + 3) (.int r :: st)) : WG x M lv pc (.int i3 :: .int i2 :: .int i1 :: .int i0 :: .ref (gad (xz x) 122) :: st) := g_callV X (n := 4) (As := [.int i0, .int i1, .int i2, .int i3]) (rest := st) hM ht (by decide) (gE_11 ht) rfl q_1217 q_1218 q_1219 q_63 q_1220 (by decide +kernel) rfl hd (by decide) rfl hsum dec go
theorem q_874 : Cond.codeWith yL_setColour cL_setColour 5 (some .int) [(0, 10, 13, 21), (0, 10, 17, 13)] ∈ GW := gw_mem 874 (by decide +kernel) (by decide +kernel)
theorem gw_L_124 {x : GX} {cc : ByteArray} {nL d pc : Nat} {M : GM} {lv : List (Nat × Value)} {st : List Value} (X : GC x cc nL RL d) {i1 : Int32} {i2 : Int32} {r : Int32} {M1 : GM} (hM : gMetW (xl x) (xz x) yL_setColour cL_setColour 5 [(0, 10, 13, 21), (0, 10, 17, 13)] [.ref (gad (xz x) 0), .int i1, .int i2, .ref (gad (xz x) 162)] M r M1) (hnc : gNcs (xs x)) (hd : 9 ≤ d) (hsum : (st.map fun v => v.category).sum ≤ 8) (hroom : xcells x + 1 ≤ (xR x).cells ∧ xslots x + 6 ≤ (xR x).slots) (dec : decode cc pc = .ok (.invokestatic 124, 3)) (go : WG (xup x) M1 lv (pc + 3) (.int r :: st)) : WG x M lv pc (.ref (gad (xz x) 162) :: .int i2 :: .int i1 :: .ref (gad (xz x) 0) :: st) := g_callW X (n := 4) (As := [.ref (gad (xz x) 0), .int i1, .int i2, .ref (gad (xz x) 162)]) (rest := st) hM hnc q_872 q_873 q_51 q_874 (by decide +kernel) rfl hd (by decide) rfl hsum hroom dec go
theorem gc_L_127 {x : GX} {cc : ByteArray} {nL d pc : Nat} {M : GM} {lv : List (Nat × Value)} {st : List Value} (X : GC x cc nL RL d) {i0 : Int32} {i1 : Int32} {M1 : GM} {r : Int32} (ht : gT 122 = 11) (hM : gMet (xl x) (xz x) yX11_setColour cX11_setColour 4 (some .int) 2 [.ref (gad (xz x) 122), .int i0, .int i1] M (some (.int r)) M1) (hd : 3 ≤ d) (hsum : (st.map fun v => v.category).sum ≤ 8) (dec : decode cc pc = .ok (.invokevirtual 127, 3)) (go : WG x M1 lv (pc + 3) (.int r :: st)) : WG x M lv pc (.int i1 :: .int i0 :: .ref (gad (xz x) 122) :: st) := g_callV X (n := 2) (As := [.int i0, .int i1]) (rest := st) hM ht (by decide) (gE_11 ht) rfl q_1225 q_1226 q_1227 q_63 q_1228 (by decide +kernel) rfl hd (by decide) rfl hsum dec go
theorem q_881 : Cond.codeWith yL_addPane cL_addPane 9 (some .int) [(0, 18, 21, 21), (0, 18, 25, 13), (0, 18, 29, 15)] ∈ GW := gw_mem 881 (by decide +kernel) (by decide +kernel)
theorem gw_L_128 {x : GX} {cc : ByteArray} {nL d pc : Nat} {M : GM} {lv : List (Nat × Value)} {st : List Value} (X : GC x cc nL RL d) {i1 : Int32} {i2 : Int32} {i3 : Int32} {i4 : Int32} {i5 : Int32} {i6 : Int32} {r : Int32} {M1 : GM} (hM : gMetW (xl x) (xz x) yL_addPane cL_addPane 9 [(0, 18, 21, 21), (0, 18, 25, 13), (0, 18, 29, 15)] [.ref (gad (xz x) 0), .int i1, .int i2, .int i3, .int i4, .int i5, .int i6, .ref (gad (xz x) 162)] M r M1) (hnc : gNcs (xs x)) (hd : 9 ≤ d) (hsum : (st.map fun v => v.category).sum ≤ 8) (hroom : xcells x + 1 ≤ (xR x).cells ∧ xslots x + 6 ≤ (xR x).slots) (dec : decode cc pc = .ok (.invokestatic 128, 3)) (go : WG (xup x) M1 lv (pc + 3) (.int r :: st)) : WG x M lv pc (.ref (gad (xz x) 162) :: .int i6 :: .int i5 :: .int i4 :: .int i3 :: .int i2 :: .int i1 :: .ref (gad (xz x) 0) :: st) := g_callW X (n := 8) (As := [.ref (gad (xz x) 0), .int i1, .int i2, .int i3, .int i4, .int i5, .int i6, .ref (gad (xz x) 162)]) (rest := st) hM hnc q_879 q_880 q_51 q_881 (by decide +kernel) rfl hd (by decide) rfl hsum hroom dec go
theorem gc_L_131 {x : GX} {cc : ByteArray} {nL d pc : Nat} {M : GM} {lv : List (Nat × Value)} {st : List Value} (X : GC x cc nL RL d) {i0 : Int32} {i1 : Int32} {i2 : Int32} {i3 : Int32} {i4 : Int32} {i5 : Int32} {M1 : GM} {r : Int32} (ht : gT 122 = 11) (hM : gMet (xl x) (xz x) yX11_addPane cX11_addPane 7 (some .int) 2 [.ref (gad (xz x) 122), .int i0, .int i1, .int i2, .int i3, .int i4, .int i5] M (some (.int r)) M1) (hd : 3 ≤ d) (hsum : (st.map fun v => v.category).sum ≤ 8) (dec : decode cc pc = .ok (.invokevirtual 131, 3)) (go : WG x M1 lv (pc + 3) (.int r :: st)) : WG x M lv pc (.int i5 :: .int i4 :: .int i3 :: .int i2 :: .int i1 :: .int i0 :: .ref (gad (xz x) 122) :: st) := g_callV X (n := 6) (As := [.int i0, .int i1, .int i2, .int i3, .int i4, .int i5]) (rest := st) hM ht (by decide) (gE_11 ht) rfl q_1229 q_1230 q_1231 q_63 q_1232 (by decide +kernel) rfl hd (by decide) rfl hsum dec go
theorem q_895 : Cond.codeWith yL_show cL_show 5 (some .int) [(0, 17, 20, 21)] ∈ GW := gw_mem 895 (by decide +kernel) (by decide +kernel)
theorem gw_L_132 {x : GX} {cc : ByteArray} {nL d pc : Nat} {M : GM} {lv : List (Nat × Value)} {st : List Value} (X : GC x cc nL RL d) {i1 : Int32} {i2 : Int32} {r : Int32} {M1 : GM} (hM : gMetW (xl x) (xz x) yL_show cL_show 5 [(0, 17, 20, 21)] [.ref (gad (xz x) 0), .int i1, .int i2, .ref (gad (xz x) 162)] M r M1) (hnc : gNcs (xs x)) (hd : 9 ≤ d) (hsum : (st.map fun v => v.category).sum ≤ 8) (hroom : xcells x + 1 ≤ (xR x).cells ∧ xslots x + 6 ≤ (xR x).slots) (dec : decode cc pc = .ok (.invokestatic 132, 3)) (go : WG (xup x) M1 lv (pc + 3) (.int r :: st)) : WG x M lv pc (.ref (gad (xz x) 162) :: .int i2 :: .int i1 :: .ref (gad (xz x) 0) :: st) := g_callW X (n := 4) (As := [.ref (gad (xz x) 0), .int i1, .int i2, .ref (gad (xz x) 162)]) (rest := st) hM hnc q_893 q_894 q_51 q_895 (by decide +kernel) rfl hd (by decide) rfl hsum hroom dec go
theorem gc_L_135 {x : GX} {cc : ByteArray} {nL d pc : Nat} {M : GM} {lv : List (Nat × Value)} {st : List Value} (X : GC x cc nL RL d) {i0 : Int32} {i1 : Int32} {M1 : GM} {r : Int32} (ht : gT 122 = 11) (hM : gMet (xl x) (xz x) yX11_show cX11_show 4 (some .boolean) 2 [.ref (gad (xz x) 122), .int i0, .int i1] M (some (.int r)) M1) (hd : 3 ≤ d) (hsum : (st.map fun v => v.category).sum ≤ 8) (dec : decode cc pc = .ok (.invokevirtual 135, 3)) (go : WG x M1 lv (pc + 3) (.int r :: st)) : WG x M lv pc (.int i1 :: .int i0 :: .ref (gad (xz x) 122) :: st) := g_callV X (n := 2) (As := [.int i0, .int i1]) (rest := st) hM ht (by decide) (gE_11 ht) rfl q_1233 q_1234 q_1235 q_63 q_1236 (by decide +kernel) rfl hd (by decide) rfl hsum dec go
theorem q_902 : Cond.codeWith yL_setPattern cL_setPattern 7 (some .int) [(0, 14, 17, 21), (0, 14, 21, 13)] ∈ GW := gw_mem 902 (by decide +kernel) (by decide +kernel)
theorem gw_L_136 {x : GX} {cc : ByteArray} {nL d pc : Nat} {M : GM} {lv : List (Nat × Value)} {st : List Value} (X : GC x cc nL RL d) {i1 : Int32} {i2 : Int32} {i3 : Int32} {i4 : Int32} {r : Int32} {M1 : GM} (hM : gMetW (xl x) (xz x) yL_setPattern cL_setPattern 7 [(0, 14, 17, 21), (0, 14, 21, 13)] [.ref (gad (xz x) 0), .int i1, .int i2, .int i3, .int i4, .ref (gad (xz x) 162)] M r M1) (hnc : gNcs (xs x)) (hd : 9 ≤ d) (hsum : (st.map fun v => v.category).sum ≤ 8) (hroom : xcells x + 1 ≤ (xR x).cells ∧ xslots x + 6 ≤ (xR x).slots) (dec : decode cc pc = .ok (.invokestatic 136, 3)) (go : WG (xup x) M1 lv (pc + 3) (.int r :: st)) : WG x M lv pc (.ref (gad (xz x) 162) :: .int i4 :: .int i3 :: .int i2 :: .int i1 :: .ref (gad (xz x) 0) :: st) := g_callW X (n := 6) (As := [.ref (gad (xz x) 0), .int i1, .int i2, .int i3, .int i4, .ref (gad (xz x) 162)]) (rest := st) hM hnc q_900 q_901 q_51 q_902 (by decide +kernel) rfl hd (by decide) rfl hsum hroom dec go
theorem gc_L_138 {x : GX} {cc : ByteArray} {nL d pc : Nat} {M : GM} {lv : List (Nat × Value)} {st : List Value} (X : GC x cc nL RL d) {i0 : Int32} {i1 : Int32} {i2 : Int32} {i3 : Int32} {M1 : GM} {r : Int32} (ht : gT 122 = 11) (hM : gMet (xl x) (xz x) yX11_setPattern cX11_setPattern 7 (some .int) 2 [.ref (gad (xz x) 122), .int i0, .int i1, .int i2, .int i3] M (some (.int r)) M1) (hd : 3 ≤ d) (hsum : (st.map fun v => v.category).sum ≤ 8) (dec : decode cc pc = .ok (.invokevirtual 138, 3)) (go : WG x M1 lv (pc + 3) (.int r :: st)) : WG x M lv pc (.int i3 :: .int i2 :: .int i1 :: .int i0 :: .ref (gad (xz x) 122) :: st) := g_callV X (n := 4) (As := [.int i0, .int i1, .int i2, .int i3]) (rest := st) hM ht (by decide) (gE_11 ht) rfl q_1245 q_1246 q_1247 q_63 q_1248 (by decide +kernel) rfl hd (by decide) rfl hsum dec go
theorem q_914 : Cond.codeWith yL_setRepeats cL_setRepeats 5 (some .int) [(0, 17, 20, 21)] ∈ GW := gw_mem 914 (by decide +kernel) (by decide +kernel)
theorem gw_L_139 {x : GX} {cc : ByteArray} {nL d pc : Nat} {M : GM} {lv : List (Nat × Value)} {st : List Value} (X : GC x cc nL RL d) {i1 : Int32} {i2 : Int32} {r : Int32} {M1 : GM} (hM : gMetW (xl x) (xz x) yL_setRepeats cL_setRepeats 5 [(0, 17, 20, 21)] [.ref (gad (xz x) 0), .int i1, .int i2, .ref (gad (xz x) 162)] M r M1) (hnc : gNcs (xs x)) (hd : 9 ≤ d) (hsum : (st.map fun v => v.category).sum ≤ 8) (hroom : xcells x + 1 ≤ (xR x).cells ∧ xslots x + 6 ≤ (xR x).slots) (dec : decode cc pc = .ok (.invokestatic 139, 3)) (go : WG (xup x) M1 lv (pc + 3) (.int r :: st)) : WG x M lv pc (.ref (gad (xz x) 162) :: .int i2 :: .int i1 :: .ref (gad (xz x) 0) :: st) := g_callW X (n := 4) (As := [.ref (gad (xz x) 0), .int i1, .int i2, .ref (gad (xz x) 162)]) (rest := st) hM hnc q_912 q_913 q_51 q_914 (by decide +kernel) rfl hd (by decide) rfl hsum hroom dec go
theorem gc_L_141 {x : GX} {cc : ByteArray} {nL d pc : Nat} {M : GM} {lv : List (Nat × Value)} {st : List Value} (X : GC x cc nL RL d) {i0 : Int32} {i1 : Int32} {M1 : GM} {r : Int32} (ht : gT 122 = 11) (hM : gMet (xl x) (xz x) yX11_setRepeats cX11_setRepeats 4 (some .boolean) 1 [.ref (gad (xz x) 122), .int i0, .int i1] M (some (.int r)) M1) (hd : 2 ≤ d) (hsum : (st.map fun v => v.category).sum ≤ 8) (dec : decode cc pc = .ok (.invokevirtual 141, 3)) (go : WG x M1 lv (pc + 3) (.int r :: st)) : WG x M lv pc (.int i1 :: .int i0 :: .ref (gad (xz x) 122) :: st) := g_callV X (n := 2) (As := [.int i0, .int i1]) (rest := st) hM ht (by decide) (gE_11 ht) rfl q_1252 q_1253 q_1254 q_63 q_1255 (by decide +kernel) rfl hd (by decide) rfl hsum dec go
theorem q_921 : Cond.codeWith yL_setCamera cL_setCamera 8 (some .int) [(0, 16, 19, 21), (0, 16, 23, 13)] ∈ GW := gw_mem 921 (by decide +kernel) (by decide +kernel)
theorem gw_L_142 {x : GX} {cc : ByteArray} {nL d pc : Nat} {M : GM} {lv : List (Nat × Value)} {st : List Value} (X : GC x cc nL RL d) {i1 : Int32} {i2 : Int32} {i3 : Int32} {i4 : Int32} {i5 : Int32} {r : Int32} {M1 : GM} (hM : gMetW (xl x) (xz x) yL_setCamera cL_setCamera 8 [(0, 16, 19, 21), (0, 16, 23, 13)] [.ref (gad (xz x) 0), .int i1, .int i2, .int i3, .int i4, .int i5, .ref (gad (xz x) 162)] M r M1) (hnc : gNcs (xs x)) (hd : 9 ≤ d) (hsum : (st.map fun v => v.category).sum ≤ 8) (hroom : xcells x + 1 ≤ (xR x).cells ∧ xslots x + 6 ≤ (xR x).slots) (dec : decode cc pc = .ok (.invokestatic 142, 3)) (go : WG (xup x) M1 lv (pc + 3) (.int r :: st)) : WG x M lv pc (.ref (gad (xz x) 162) :: .int i5 :: .int i4 :: .int i3 :: .int i2 :: .int i1 :: .ref (gad (xz x) 0) :: st) := g_callW X (n := 7) (As := [.ref (gad (xz x) 0), .int i1, .int i2, .int i3, .int i4, .int i5, .ref (gad (xz x) 162)]) (rest := st) hM hnc q_919 q_920 q_51 q_921 (by decide +kernel) rfl hd (by decide) rfl hsum hroom dec go
theorem gc_L_145 {x : GX} {cc : ByteArray} {nL d pc : Nat} {M : GM} {lv : List (Nat × Value)} {st : List Value} (X : GC x cc nL RL d) {i0 : Int32} {i1 : Int32} {i2 : Int32} {i3 : Int32} {i4 : Int32} {M1 : GM} {r : Int32} (ht : gT 122 = 11) (hM : gMet (xl x) (xz x) yX11_setCamera cX11_setCamera 6 (some .int) 2 [.ref (gad (xz x) 122), .int i0, .int i1, .int i2, .int i3, .int i4] M (some (.int r)) M1) (hd : 3 ≤ d) (hsum : (st.map fun v => v.category).sum ≤ 8) (dec : decode cc pc = .ok (.invokevirtual 145, 3)) (go : WG x M1 lv (pc + 3) (.int r :: st)) : WG x M lv pc (.int i4 :: .int i3 :: .int i2 :: .int i1 :: .int i0 :: .ref (gad (xz x) 122) :: st) := g_callV X (n := 5) (As := [.int i0, .int i1, .int i2, .int i3, .int i4]) (rest := st) hM ht (by decide) (gE_11 ht) rfl q_1256 q_1257 q_1258 q_63 q_1259 (by decide +kernel) rfl hd (by decide) rfl hsum dec go
theorem q_938 : Cond.codeWith yL_setLens cL_setLens 5 (some .int) [(0, 10, 13, 13)] ∈ GW := gw_mem 938 (by decide +kernel) (by decide +kernel)
theorem gw_L_146 {x : GX} {cc : ByteArray} {nL d pc : Nat} {M : GM} {lv : List (Nat × Value)} {st : List Value} (X : GC x cc nL RL d) {i1 : Int32} {i2 : Int32} {r : Int32} {M1 : GM} (hM : gMetW (xl x) (xz x) yL_setLens cL_setLens 5 [(0, 10, 13, 13)] [.ref (gad (xz x) 0), .int i1, .int i2, .ref (gad (xz x) 162)] M r M1) (hnc : gNcs (xs x)) (hd : 9 ≤ d) (hsum : (st.map fun v => v.category).sum ≤ 8) (hroom : xcells x + 1 ≤ (xR x).cells ∧ xslots x + 6 ≤ (xR x).slots) (dec : decode cc pc = .ok (.invokestatic 146, 3)) (go : WG (xup x) M1 lv (pc + 3) (.int r :: st)) : WG x M lv pc (.ref (gad (xz x) 162) :: .int i2 :: .int i1 :: .ref (gad (xz x) 0) :: st) := g_callW X (n := 4) (As := [.ref (gad (xz x) 0), .int i1, .int i2, .ref (gad (xz x) 162)]) (rest := st) hM hnc q_936 q_937 q_51 q_938 (by decide +kernel) rfl hd (by decide) rfl hsum hroom dec go
theorem gc_L_148 {x : GX} {cc : ByteArray} {nL d pc : Nat} {M : GM} {lv : List (Nat × Value)} {st : List Value} (X : GC x cc nL RL d) {i0 : Int32} {i1 : Int32} {M1 : GM} {r : Int32} (ht : gT 122 = 11) (hM : gMet (xl x) (xz x) yX11_setLens cX11_setLens 3 (some .int) 2 [.ref (gad (xz x) 122), .int i0, .int i1] M (some (.int r)) M1) (hd : 3 ≤ d) (hsum : (st.map fun v => v.category).sum ≤ 8) (dec : decode cc pc = .ok (.invokevirtual 148, 3)) (go : WG x M1 lv (pc + 3) (.int r :: st)) : WG x M lv pc (.int i1 :: .int i0 :: .ref (gad (xz x) 122) :: st) := g_callV X (n := 2) (As := [.int i0, .int i1]) (rest := st) hM ht (by decide) (gE_11 ht) rfl q_1268 q_1269 q_1270 q_63 q_1271 (by decide +kernel) rfl hd (by decide) rfl hsum dec go
theorem q_947 : Cond.codeWith yL_setBackground cL_setBackground 4 (some .int) [(0, 9, 12, 13)] ∈ GW := gw_mem 947 (by decide +kernel) (by decide +kernel)
theorem gw_L_149 {x : GX} {cc : ByteArray} {nL d pc : Nat} {M : GM} {lv : List (Nat × Value)} {st : List Value} (X : GC x cc nL RL d) {i1 : Int32} {r : Int32} {M1 : GM} (hM : gMetW (xl x) (xz x) yL_setBackground cL_setBackground 4 [(0, 9, 12, 13)] [.ref (gad (xz x) 0), .int i1, .ref (gad (xz x) 162)] M r M1) (hnc : gNcs (xs x)) (hd : 9 ≤ d) (hsum : (st.map fun v => v.category).sum ≤ 8) (hroom : xcells x + 1 ≤ (xR x).cells ∧ xslots x + 6 ≤ (xR x).slots) (dec : decode cc pc = .ok (.invokestatic 149, 3)) (go : WG (xup x) M1 lv (pc + 3) (.int r :: st)) : WG x M lv pc (.ref (gad (xz x) 162) :: .int i1 :: .ref (gad (xz x) 0) :: st) := g_callW X (n := 3) (As := [.ref (gad (xz x) 0), .int i1, .ref (gad (xz x) 162)]) (rest := st) hM hnc q_945 q_946 q_51 q_947 (by decide +kernel) rfl hd (by decide) rfl hsum hroom dec go
theorem gc_L_152 {x : GX} {cc : ByteArray} {nL d pc : Nat} {M : GM} {lv : List (Nat × Value)} {st : List Value} (X : GC x cc nL RL d) {i0 : Int32} {M1 : GM} {r : Int32} (ht : gT 122 = 11) (hM : gMet (xl x) (xz x) yX11_setBackground cX11_setBackground 3 (some .int) 2 [.ref (gad (xz x) 122), .int i0] M (some (.int r)) M1) (hd : 3 ≤ d) (hsum : (st.map fun v => v.category).sum ≤ 8) (dec : decode cc pc = .ok (.invokevirtual 152, 3)) (go : WG x M1 lv (pc + 3) (.int r :: st)) : WG x M lv pc (.int i0 :: .ref (gad (xz x) 122) :: st) := g_callV X (n := 1) (As := [.int i0]) (rest := st) hM ht (by decide) (gE_11 ht) rfl q_1272 q_1273 q_1274 q_63 q_1275 (by decide +kernel) rfl hd (by decide) rfl hsum dec go
theorem gc_L_153 {x : GX} {cc : ByteArray} {nL d pc : Nat} {M : GM} {lv : List (Nat × Value)} {st : List Value} (X : GC x cc nL RL d)  {M1 : GM} {r : Int32} (ht : gT 0 = 10) (hM : gMet (xl x) (xz x) yX10_corners cX10_corners 1 (some .int) 0 [.ref (gad (xz x) 0)] M (some (.int r)) M1) (hd : 1 ≤ d) (hsum : (st.map fun v => v.category).sum ≤ 8) (dec : decode cc pc = .ok (.invokevirtual 153, 3)) (go : WG x M1 lv (pc + 3) (.int r :: st)) : WG x M lv pc (.ref (gad (xz x) 0) :: st) := g_callV X (n := 0) (As := []) (rest := st) hM ht (by decide) (gE_10 ht) rfl q_427 q_428 q_429 q_52 q_430 (by decide +kernel) rfl hd (by decide) rfl hsum dec go
theorem gc_L_156 {x : GX} {cc : ByteArray} {nL d pc : Nat} {M : GM} {lv : List (Nat × Value)} {st : List Value} (X : GC x cc nL RL d)  {M1 : GM} {r : Int32} (ht : gT 122 = 11) (hM : gMet (xl x) (xz x) yX11_corners cX11_corners 1 (some .int) 1 [.ref (gad (xz x) 122)] M (some (.int r)) M1) (hd : 2 ≤ d) (hsum : (st.map fun v => v.category).sum ≤ 8) (dec : decode cc pc = .ok (.invokevirtual 156, 3)) (go : WG x M1 lv (pc + 3) (.int r :: st)) : WG x M lv pc (.ref (gad (xz x) 122) :: st) := g_callV X (n := 0) (As := []) (rest := st) hM ht (by decide) (gE_11 ht) rfl q_1276 q_1277 q_1278 q_63 q_1279 (by decide +kernel) rfl hd (by decide) rfl hsum dec go
theorem gc_L_157 {x : GX} {cc : ByteArray} {nL d pc : Nat} {M : GM} {lv : List (Nat × Value)} {st : List Value} (X : GC x cc nL RL d)  {M1 : GM} {r : Int32} (ht : gT 0 = 10) (hM : gMet (xl x) (xz x) yX10_panes cX10_panes 1 (some .int) 0 [.ref (gad (xz x) 0)] M (some (.int r)) M1) (hd : 1 ≤ d) (hsum : (st.map fun v => v.category).sum ≤ 8) (dec : decode cc pc = .ok (.invokevirtual 157, 3)) (go : WG x M1 lv (pc + 3) (.int r :: st)) : WG x M lv pc (.ref (gad (xz x) 0) :: st) := g_callV X (n := 0) (As := []) (rest := st) hM ht (by decide) (gE_10 ht) rfl q_431 q_432 q_433 q_52 q_434 (by decide +kernel) rfl hd (by decide) rfl hsum dec go
theorem gc_L_160 {x : GX} {cc : ByteArray} {nL d pc : Nat} {M : GM} {lv : List (Nat × Value)} {st : List Value} (X : GC x cc nL RL d)  {M1 : GM} {r : Int32} (ht : gT 122 = 11) (hM : gMet (xl x) (xz x) yX11_panes cX11_panes 1 (some .int) 1 [.ref (gad (xz x) 122)] M (some (.int r)) M1) (hd : 2 ≤ d) (hsum : (st.map fun v => v.category).sum ≤ 8) (dec : decode cc pc = .ok (.invokevirtual 160, 3)) (go : WG x M1 lv (pc + 3) (.int r :: st)) : WG x M lv pc (.ref (gad (xz x) 122) :: st) := g_callV X (n := 0) (As := []) (rest := st) hM ht (by decide) (gE_11 ht) rfl q_1284 q_1285 q_1286 q_63 q_1287 (by decide +kernel) rfl hd (by decide) rfl hsum dec go
theorem q_954 : Cond.codeWith yL_seen cL_seen 5 (some .int) [(0, 10, 13, 21)] ∈ GW := gw_mem 954 (by decide +kernel) (by decide +kernel)
theorem gw_L_161 {x : GX} {cc : ByteArray} {nL d pc : Nat} {M : GM} {lv : List (Nat × Value)} {st : List Value} (X : GC x cc nL RL d) {i1 : Int32} {i2 : Int32} {r : Int32} {M1 : GM} (hM : gMetW (xl x) (xz x) yL_seen cL_seen 5 [(0, 10, 13, 21)] [.ref (gad (xz x) 0), .int i1, .int i2, .ref (gad (xz x) 162)] M r M1) (hnc : gNcs (xs x)) (hd : 9 ≤ d) (hsum : (st.map fun v => v.category).sum ≤ 8) (hroom : xcells x + 1 ≤ (xR x).cells ∧ xslots x + 6 ≤ (xR x).slots) (dec : decode cc pc = .ok (.invokestatic 161, 3)) (go : WG (xup x) M1 lv (pc + 3) (.int r :: st)) : WG x M lv pc (.ref (gad (xz x) 162) :: .int i2 :: .int i1 :: .ref (gad (xz x) 0) :: st) := g_callW X (n := 4) (As := [.ref (gad (xz x) 0), .int i1, .int i2, .ref (gad (xz x) 162)]) (rest := st) hM hnc q_952 q_953 q_51 q_954 (by decide +kernel) rfl hd (by decide) rfl hsum hroom dec go
theorem gc_L_163 {x : GX} {cc : ByteArray} {nL d pc : Nat} {M : GM} {lv : List (Nat × Value)} {st : List Value} (X : GC x cc nL RL d) {i0 : Int32} {i1 : Int32} {M1 : GM} {r : Int32} (ht : gT 122 = 11) (hM : gMet (xl x) (xz x) yX11_seen cX11_seen 3 (some .int) 2 [.ref (gad (xz x) 122), .int i0, .int i1] M (some (.int r)) M1) (hd : 3 ≤ d) (hsum : (st.map fun v => v.category).sum ≤ 8) (dec : decode cc pc = .ok (.invokevirtual 163, 3)) (go : WG x M1 lv (pc + 3) (.int r :: st)) : WG x M lv pc (.int i1 :: .int i0 :: .ref (gad (xz x) 122) :: st) := g_callV X (n := 2) (As := [.int i0, .int i1]) (rest := st) hM ht (by decide) (gE_11 ht) rfl q_1288 q_1289 q_1290 q_63 q_1291 (by decide +kernel) rfl hd (by decide) rfl hsum dec go
theorem q_958 : Cond.codeWith yL_polygonOf cL_polygonOf 4 (some .int) [(0, 9, 12, 21)] ∈ GW := gw_mem 958 (by decide +kernel) (by decide +kernel)
theorem gw_L_164 {x : GX} {cc : ByteArray} {nL d pc : Nat} {M : GM} {lv : List (Nat × Value)} {st : List Value} (X : GC x cc nL RL d) {i1 : Int32} {r : Int32} {M1 : GM} (hM : gMetW (xl x) (xz x) yL_polygonOf cL_polygonOf 4 [(0, 9, 12, 21)] [.ref (gad (xz x) 0), .int i1, .ref (gad (xz x) 162)] M r M1) (hnc : gNcs (xs x)) (hd : 9 ≤ d) (hsum : (st.map fun v => v.category).sum ≤ 8) (hroom : xcells x + 1 ≤ (xR x).cells ∧ xslots x + 6 ≤ (xR x).slots) (dec : decode cc pc = .ok (.invokestatic 164, 3)) (go : WG (xup x) M1 lv (pc + 3) (.int r :: st)) : WG x M lv pc (.ref (gad (xz x) 162) :: .int i1 :: .ref (gad (xz x) 0) :: st) := g_callW X (n := 3) (As := [.ref (gad (xz x) 0), .int i1, .ref (gad (xz x) 162)]) (rest := st) hM hnc q_956 q_957 q_51 q_958 (by decide +kernel) rfl hd (by decide) rfl hsum hroom dec go
theorem gc_L_166 {x : GX} {cc : ByteArray} {nL d pc : Nat} {M : GM} {lv : List (Nat × Value)} {st : List Value} (X : GC x cc nL RL d) {i0 : Int32} {M1 : GM} {r : Int32} (ht : gT 122 = 11) (hM : gMet (xl x) (xz x) yX11_polygonOf cX11_polygonOf 2 (some .int) 4 [.ref (gad (xz x) 122), .int i0] M (some (.int r)) M1) (hd : 5 ≤ d) (hsum : (st.map fun v => v.category).sum ≤ 8) (dec : decode cc pc = .ok (.invokevirtual 166, 3)) (go : WG x M1 lv (pc + 3) (.int r :: st)) : WG x M lv pc (.int i0 :: .ref (gad (xz x) 122) :: st) := g_callV X (n := 1) (As := [.int i0]) (rest := st) hM ht (by decide) (gE_11 ht) rfl q_1292 q_1293 q_1294 q_63 q_1295 (by decide +kernel) rfl hd (by decide) rfl hsum dec go
theorem q_962 : Cond.codeWith yL_cornerOf cL_cornerOf 6 (some .int) [(0, 12, 15, 21)] ∈ GW := gw_mem 962 (by decide +kernel) (by decide +kernel)
theorem gw_L_167 {x : GX} {cc : ByteArray} {nL d pc : Nat} {M : GM} {lv : List (Nat × Value)} {st : List Value} (X : GC x cc nL RL d) {i1 : Int32} {i2 : Int32} {i3 : Int32} {r : Int32} {M1 : GM} (hM : gMetW (xl x) (xz x) yL_cornerOf cL_cornerOf 6 [(0, 12, 15, 21)] [.ref (gad (xz x) 0), .int i1, .int i2, .int i3, .ref (gad (xz x) 162)] M r M1) (hnc : gNcs (xs x)) (hd : 9 ≤ d) (hsum : (st.map fun v => v.category).sum ≤ 8) (hroom : xcells x + 1 ≤ (xR x).cells ∧ xslots x + 6 ≤ (xR x).slots) (dec : decode cc pc = .ok (.invokestatic 167, 3)) (go : WG (xup x) M1 lv (pc + 3) (.int r :: st)) : WG x M lv pc (.ref (gad (xz x) 162) :: .int i3 :: .int i2 :: .int i1 :: .ref (gad (xz x) 0) :: st) := g_callW X (n := 5) (As := [.ref (gad (xz x) 0), .int i1, .int i2, .int i3, .ref (gad (xz x) 162)]) (rest := st) hM hnc q_960 q_961 q_51 q_962 (by decide +kernel) rfl hd (by decide) rfl hsum hroom dec go
theorem gc_L_170 {x : GX} {cc : ByteArray} {nL d pc : Nat} {M : GM} {lv : List (Nat × Value)} {st : List Value} (X : GC x cc nL RL d) {i0 : Int32} {i1 : Int32} {i2 : Int32} {M1 : GM} {r : Int32} (ht : gT 122 = 11) (hM : gMet (xl x) (xz x) yX11_cornerOf cX11_cornerOf 4 (some .int) 4 [.ref (gad (xz x) 122), .int i0, .int i1, .int i2] M (some (.int r)) M1) (hd : 5 ≤ d) (hsum : (st.map fun v => v.category).sum ≤ 8) (dec : decode cc pc = .ok (.invokevirtual 170, 3)) (go : WG x M1 lv (pc + 3) (.int r :: st)) : WG x M lv pc (.int i2 :: .int i1 :: .int i0 :: .ref (gad (xz x) 122) :: st) := g_callV X (n := 3) (As := [.int i0, .int i1, .int i2]) (rest := st) hM ht (by decide) (gE_11 ht) rfl q_1325 q_1326 q_1327 q_63 q_1328 (by decide +kernel) rfl hd (by decide) rfl hsum dec go
theorem q_970 : Cond.codeWith yL_screenOf cL_screenOf 6 (some .int) [(0, 12, 15, 21)] ∈ GW := gw_mem 970 (by decide +kernel) (by decide +kernel)
theorem gw_L_171 {x : GX} {cc : ByteArray} {nL d pc : Nat} {M : GM} {lv : List (Nat × Value)} {st : List Value} (X : GC x cc nL RL d) {i1 : Int32} {i2 : Int32} {i3 : Int32} {r : Int32} {M1 : GM} (hM : gMetW (xl x) (xz x) yL_screenOf cL_screenOf 6 [(0, 12, 15, 21)] [.ref (gad (xz x) 0), .int i1, .int i2, .int i3, .ref (gad (xz x) 162)] M r M1) (hnc : gNcs (xs x)) (hd : 9 ≤ d) (hsum : (st.map fun v => v.category).sum ≤ 8) (hroom : xcells x + 1 ≤ (xR x).cells ∧ xslots x + 6 ≤ (xR x).slots) (dec : decode cc pc = .ok (.invokestatic 171, 3)) (go : WG (xup x) M1 lv (pc + 3) (.int r :: st)) : WG x M lv pc (.ref (gad (xz x) 162) :: .int i3 :: .int i2 :: .int i1 :: .ref (gad (xz x) 0) :: st) := g_callW X (n := 5) (As := [.ref (gad (xz x) 0), .int i1, .int i2, .int i3, .ref (gad (xz x) 162)]) (rest := st) hM hnc q_968 q_969 q_51 q_970 (by decide +kernel) rfl hd (by decide) rfl hsum hroom dec go
theorem gc_L_173 {x : GX} {cc : ByteArray} {nL d pc : Nat} {M : GM} {lv : List (Nat × Value)} {st : List Value} (X : GC x cc nL RL d) {i0 : Int32} {i1 : Int32} {i2 : Int32} {M1 : GM} {r : Int32} (ht : gT 122 = 11) (hM : gMet (xl x) (xz x) yX11_screenOf cX11_screenOf 4 (some .int) 4 [.ref (gad (xz x) 122), .int i0, .int i1, .int i2] M (some (.int r)) M1) (hd : 5 ≤ d) (hsum : (st.map fun v => v.category).sum ≤ 8) (dec : decode cc pc = .ok (.invokevirtual 173, 3)) (go : WG x M1 lv (pc + 3) (.int r :: st)) : WG x M lv pc (.int i2 :: .int i1 :: .int i0 :: .ref (gad (xz x) 122) :: st) := g_callV X (n := 3) (As := [.int i0, .int i1, .int i2]) (rest := st) hM ht (by decide) (gE_11 ht) rfl q_1332 q_1333 q_1334 q_63 q_1335 (by decide +kernel) rfl hd (by decide) rfl hsum dec go
theorem q_974 : Cond.codeWith yL_piecesOf cL_piecesOf 4 (some .int) [(0, 9, 12, 21)] ∈ GW := gw_mem 974 (by decide +kernel) (by decide +kernel)
theorem gw_L_174 {x : GX} {cc : ByteArray} {nL d pc : Nat} {M : GM} {lv : List (Nat × Value)} {st : List Value} (X : GC x cc nL RL d) {i1 : Int32} {r : Int32} {M1 : GM} (hM : gMetW (xl x) (xz x) yL_piecesOf cL_piecesOf 4 [(0, 9, 12, 21)] [.ref (gad (xz x) 0), .int i1, .ref (gad (xz x) 162)] M r M1) (hnc : gNcs (xs x)) (hd : 9 ≤ d) (hsum : (st.map fun v => v.category).sum ≤ 8) (hroom : xcells x + 1 ≤ (xR x).cells ∧ xslots x + 6 ≤ (xR x).slots) (dec : decode cc pc = .ok (.invokestatic 174, 3)) (go : WG (xup x) M1 lv (pc + 3) (.int r :: st)) : WG x M lv pc (.ref (gad (xz x) 162) :: .int i1 :: .ref (gad (xz x) 0) :: st) := g_callW X (n := 3) (As := [.ref (gad (xz x) 0), .int i1, .ref (gad (xz x) 162)]) (rest := st) hM hnc q_972 q_973 q_51 q_974 (by decide +kernel) rfl hd (by decide) rfl hsum hroom dec go
theorem gc_L_176 {x : GX} {cc : ByteArray} {nL d pc : Nat} {M : GM} {lv : List (Nat × Value)} {st : List Value} (X : GC x cc nL RL d) {i0 : Int32} {M1 : GM} {r : Int32} (ht : gT 122 = 11) (hM : gMet (xl x) (xz x) yX11_piecesOf cX11_piecesOf 2 (some .int) 5 [.ref (gad (xz x) 122), .int i0] M (some (.int r)) M1) (hd : 6 ≤ d) (hsum : (st.map fun v => v.category).sum ≤ 8) (dec : decode cc pc = .ok (.invokevirtual 176, 3)) (go : WG x M1 lv (pc + 3) (.int r :: st)) : WG x M lv pc (.int i0 :: .ref (gad (xz x) 122) :: st) := g_callV X (n := 1) (As := [.int i0]) (rest := st) hM ht (by decide) (gE_11 ht) rfl q_1365 q_1366 q_1367 q_63 q_1368 (by decide +kernel) rfl hd (by decide) rfl hsum dec go
theorem q_978 : Cond.codeWith yL_pointsOf cL_pointsOf 4 (some .int) [(0, 9, 12, 21)] ∈ GW := gw_mem 978 (by decide +kernel) (by decide +kernel)
theorem gw_L_177 {x : GX} {cc : ByteArray} {nL d pc : Nat} {M : GM} {lv : List (Nat × Value)} {st : List Value} (X : GC x cc nL RL d) {i1 : Int32} {r : Int32} {M1 : GM} (hM : gMetW (xl x) (xz x) yL_pointsOf cL_pointsOf 4 [(0, 9, 12, 21)] [.ref (gad (xz x) 0), .int i1, .ref (gad (xz x) 162)] M r M1) (hnc : gNcs (xs x)) (hd : 9 ≤ d) (hsum : (st.map fun v => v.category).sum ≤ 8) (hroom : xcells x + 1 ≤ (xR x).cells ∧ xslots x + 6 ≤ (xR x).slots) (dec : decode cc pc = .ok (.invokestatic 177, 3)) (go : WG (xup x) M1 lv (pc + 3) (.int r :: st)) : WG x M lv pc (.ref (gad (xz x) 162) :: .int i1 :: .ref (gad (xz x) 0) :: st) := g_callW X (n := 3) (As := [.ref (gad (xz x) 0), .int i1, .ref (gad (xz x) 162)]) (rest := st) hM hnc q_976 q_977 q_51 q_978 (by decide +kernel) rfl hd (by decide) rfl hsum hroom dec go
theorem gc_L_179 {x : GX} {cc : ByteArray} {nL d pc : Nat} {M : GM} {lv : List (Nat × Value)} {st : List Value} (X : GC x cc nL RL d) {i0 : Int32} {M1 : GM} {r : Int32} (ht : gT 122 = 11) (hM : gMet (xl x) (xz x) yX11_pointsOf cX11_pointsOf 2 (some .int) 5 [.ref (gad (xz x) 122), .int i0] M (some (.int r)) M1) (hd : 6 ≤ d) (hsum : (st.map fun v => v.category).sum ≤ 8) (dec : decode cc pc = .ok (.invokevirtual 179, 3)) (go : WG x M1 lv (pc + 3) (.int r :: st)) : WG x M lv pc (.int i0 :: .ref (gad (xz x) 122) :: st) := g_callV X (n := 1) (As := [.int i0]) (rest := st) hM ht (by decide) (gE_11 ht) rfl q_1388 q_1389 q_1390 q_63 q_1391 (by decide +kernel) rfl hd (by decide) rfl hsum dec go
theorem q_982 : Cond.codeWith yL_liesIn cL_liesIn 6 (some .int) [(0, 19, 22, 21)] ∈ GW := gw_mem 982 (by decide +kernel) (by decide +kernel)
theorem gw_L_180 {x : GX} {cc : ByteArray} {nL d pc : Nat} {M : GM} {lv : List (Nat × Value)} {st : List Value} (X : GC x cc nL RL d) {i1 : Int32} {i2 : Int32} {i3 : Int32} {r : Int32} {M1 : GM} (hM : gMetW (xl x) (xz x) yL_liesIn cL_liesIn 6 [(0, 19, 22, 21)] [.ref (gad (xz x) 0), .int i1, .int i2, .int i3, .ref (gad (xz x) 162)] M r M1) (hnc : gNcs (xs x)) (hd : 9 ≤ d) (hsum : (st.map fun v => v.category).sum ≤ 8) (hroom : xcells x + 1 ≤ (xR x).cells ∧ xslots x + 6 ≤ (xR x).slots) (dec : decode cc pc = .ok (.invokestatic 180, 3)) (go : WG (xup x) M1 lv (pc + 3) (.int r :: st)) : WG x M lv pc (.ref (gad (xz x) 162) :: .int i3 :: .int i2 :: .int i1 :: .ref (gad (xz x) 0) :: st) := g_callW X (n := 5) (As := [.ref (gad (xz x) 0), .int i1, .int i2, .int i3, .ref (gad (xz x) 162)]) (rest := st) hM hnc q_980 q_981 q_51 q_982 (by decide +kernel) rfl hd (by decide) rfl hsum hroom dec go
theorem gc_L_182 {x : GX} {cc : ByteArray} {nL d pc : Nat} {M : GM} {lv : List (Nat × Value)} {st : List Value} (X : GC x cc nL RL d) {i0 : Int32} {i1 : Int32} {i2 : Int32} {M1 : GM} {r : Int32} (ht : gT 122 = 11) (hM : gMet (xl x) (xz x) yX11_liesIn cX11_liesIn 4 (some .boolean) 5 [.ref (gad (xz x) 122), .int i0, .int i1, .int i2] M (some (.int r)) M1) (hd : 6 ≤ d) (hsum : (st.map fun v => v.category).sum ≤ 8) (dec : decode cc pc = .ok (.invokevirtual 182, 3)) (go : WG x M1 lv (pc + 3) (.int r :: st)) : WG x M lv pc (.int i2 :: .int i1 :: .int i0 :: .ref (gad (xz x) 122) :: st) := g_callV X (n := 3) (As := [.int i0, .int i1, .int i2]) (rest := st) hM ht (by decide) (gE_11 ht) rfl q_1405 q_1406 q_1407 q_63 q_1408 (by decide +kernel) rfl hd (by decide) rfl hsum dec go
theorem q_989 : Cond.codeWith yL_depthOf cL_depthOf 6 (some .int) [(0, 12, 15, 21)] ∈ GW := gw_mem 989 (by decide +kernel) (by decide +kernel)
theorem gw_L_183 {x : GX} {cc : ByteArray} {nL d pc : Nat} {M : GM} {lv : List (Nat × Value)} {st : List Value} (X : GC x cc nL RL d) {i1 : Int32} {i2 : Int32} {i3 : Int32} {r : Int32} {M1 : GM} (hM : gMetW (xl x) (xz x) yL_depthOf cL_depthOf 6 [(0, 12, 15, 21)] [.ref (gad (xz x) 0), .int i1, .int i2, .int i3, .ref (gad (xz x) 162)] M r M1) (hnc : gNcs (xs x)) (hd : 9 ≤ d) (hsum : (st.map fun v => v.category).sum ≤ 8) (hroom : xcells x + 1 ≤ (xR x).cells ∧ xslots x + 6 ≤ (xR x).slots) (dec : decode cc pc = .ok (.invokestatic 183, 3)) (go : WG (xup x) M1 lv (pc + 3) (.int r :: st)) : WG x M lv pc (.ref (gad (xz x) 162) :: .int i3 :: .int i2 :: .int i1 :: .ref (gad (xz x) 0) :: st) := g_callW X (n := 5) (As := [.ref (gad (xz x) 0), .int i1, .int i2, .int i3, .ref (gad (xz x) 162)]) (rest := st) hM hnc q_987 q_988 q_51 q_989 (by decide +kernel) rfl hd (by decide) rfl hsum hroom dec go
theorem gc_L_185 {x : GX} {cc : ByteArray} {nL d pc : Nat} {M : GM} {lv : List (Nat × Value)} {st : List Value} (X : GC x cc nL RL d) {i0 : Int32} {i1 : Int32} {i2 : Int32} {M1 : GM} {r : Int32} (ht : gT 122 = 11) (hM : gMet (xl x) (xz x) yX11_depthOf cX11_depthOf 4 (some .int) 5 [.ref (gad (xz x) 122), .int i0, .int i1, .int i2] M (some (.int r)) M1) (hd : 6 ≤ d) (hsum : (st.map fun v => v.category).sum ≤ 8) (dec : decode cc pc = .ok (.invokevirtual 185, 3)) (go : WG x M1 lv (pc + 3) (.int r :: st)) : WG x M lv pc (.int i2 :: .int i1 :: .int i0 :: .ref (gad (xz x) 122) :: st) := g_callV X (n := 3) (As := [.int i0, .int i1, .int i2]) (rest := st) hM ht (by decide) (gE_11 ht) rfl q_1416 q_1417 q_1418 q_63 q_1419 (by decide +kernel) rfl hd (by decide) rfl hsum dec go
theorem q_996 : Cond.codeWith yL_colourOf cL_colourOf 6 (some .int) [(0, 12, 15, 21)] ∈ GW := gw_mem 996 (by decide +kernel) (by decide +kernel)
theorem gw_L_186 {x : GX} {cc : ByteArray} {nL d pc : Nat} {M : GM} {lv : List (Nat × Value)} {st : List Value} (X : GC x cc nL RL d) {i1 : Int32} {i2 : Int32} {i3 : Int32} {r : Int32} {M1 : GM} (hM : gMetW (xl x) (xz x) yL_colourOf cL_colourOf 6 [(0, 12, 15, 21)] [.ref (gad (xz x) 0), .int i1, .int i2, .int i3, .ref (gad (xz x) 162)] M r M1) (hnc : gNcs (xs x)) (hd : 9 ≤ d) (hsum : (st.map fun v => v.category).sum ≤ 8) (hroom : xcells x + 1 ≤ (xR x).cells ∧ xslots x + 6 ≤ (xR x).slots) (dec : decode cc pc = .ok (.invokestatic 186, 3)) (go : WG (xup x) M1 lv (pc + 3) (.int r :: st)) : WG x M lv pc (.ref (gad (xz x) 162) :: .int i3 :: .int i2 :: .int i1 :: .ref (gad (xz x) 0) :: st) := g_callW X (n := 5) (As := [.ref (gad (xz x) 0), .int i1, .int i2, .int i3, .ref (gad (xz x) 162)]) (rest := st) hM hnc q_994 q_995 q_51 q_996 (by decide +kernel) rfl hd (by decide) rfl hsum hroom dec go
theorem gc_L_188 {x : GX} {cc : ByteArray} {nL d pc : Nat} {M : GM} {lv : List (Nat × Value)} {st : List Value} (X : GC x cc nL RL d) {i0 : Int32} {i1 : Int32} {i2 : Int32} {M1 : GM} {r : Int32} (ht : gT 122 = 11) (hM : gMet (xl x) (xz x) yX11_colourOf cX11_colourOf 4 (some .int) 5 [.ref (gad (xz x) 122), .int i0, .int i1, .int i2] M (some (.int r)) M1) (hd : 6 ≤ d) (hsum : (st.map fun v => v.category).sum ≤ 8) (dec : decode cc pc = .ok (.invokevirtual 188, 3)) (go : WG x M1 lv (pc + 3) (.int r :: st)) : WG x M lv pc (.int i2 :: .int i1 :: .int i0 :: .ref (gad (xz x) 122) :: st) := g_callV X (n := 3) (As := [.int i0, .int i1, .int i2]) (rest := st) hM ht (by decide) (gE_11 ht) rfl q_1424 q_1425 q_1426 q_63 q_1427 (by decide +kernel) rfl hd (by decide) rfl hsum dec go
theorem gc_L_189 {x : GX} {cc : ByteArray} {nL d pc : Nat} {M : GM} {lv : List (Nat × Value)} {st : List Value} (X : GC x cc nL RL d)  {M1 : GM} {r : Int32} (ht : gT 0 = 10) (hM : gMet (xl x) (xz x) yX10_clear cX10_clear 1 (some .int) 7 [.ref (gad (xz x) 0)] M (some (.int r)) M1) (hd : 8 ≤ d) (hsum : (st.map fun v => v.category).sum ≤ 8) (dec : decode cc pc = .ok (.invokevirtual 189, 3)) (go : WG x M1 lv (pc + 3) (.int r :: st)) : WG x M lv pc (.ref (gad (xz x) 0) :: st) := g_callV X (n := 0) (As := []) (rest := st) hM ht (by decide) (gE_10 ht) rfl q_435 q_436 q_437 q_52 q_438 (by decide +kernel) rfl hd (by decide) rfl hsum dec go
theorem gc_L_192 {x : GX} {cc : ByteArray} {nL d pc : Nat} {M : GM} {lv : List (Nat × Value)} {st : List Value} (X : GC x cc nL RL d)  {M1 : GM} {r : Int32} (ht : gT 122 = 11) (hM : gMet (xl x) (xz x) yX11_clear cX11_clear 1 (some .int) 6 [.ref (gad (xz x) 122)] M (some (.int r)) M1) (hd : 7 ≤ d) (hsum : (st.map fun v => v.category).sum ≤ 8) (dec : decode cc pc = .ok (.invokevirtual 192, 3)) (go : WG x M1 lv (pc + 3) (.int r :: st)) : WG x M lv pc (.ref (gad (xz x) 122) :: st) := g_callV X (n := 0) (As := []) (rest := st) hM ht (by decide) (gE_11 ht) rfl q_1444 q_1445 q_1446 q_63 q_1447 (by decide +kernel) rfl hd (by decide) rfl hsum dec go
theorem gc_L_193 {x : GX} {cc : ByteArray} {nL d pc : Nat} {M : GM} {lv : List (Nat × Value)} {st : List Value} (X : GC x cc nL RL d)  {M1 : GM} {r : Int32} (ht : gT 0 = 10) (hM : gMet (xl x) (xz x) yX10_paint cX10_paint 2 (some .int) 7 [.ref (gad (xz x) 0)] M (some (.int r)) M1) (hd : 8 ≤ d) (hsum : (st.map fun v => v.category).sum ≤ 8) (dec : decode cc pc = .ok (.invokevirtual 193, 3)) (go : WG x M1 lv (pc + 3) (.int r :: st)) : WG x M lv pc (.ref (gad (xz x) 0) :: st) := g_callV X (n := 0) (As := []) (rest := st) hM ht (by decide) (gE_10 ht) rfl q_610 q_611 q_612 q_52 q_613 (by decide +kernel) rfl hd (by decide) rfl hsum dec go
theorem gc_L_196 {x : GX} {cc : ByteArray} {nL d pc : Nat} {M : GM} {lv : List (Nat × Value)} {st : List Value} (X : GC x cc nL RL d)  {M1 : GM} {r : Int32} (ht : gT 122 = 11) (hM : gMet (xl x) (xz x) yX11_paint cX11_paint 3 (some .int) 6 [.ref (gad (xz x) 122)] M (some (.int r)) M1) (hd : 7 ≤ d) (hsum : (st.map fun v => v.category).sum ≤ 8) (dec : decode cc pc = .ok (.invokevirtual 196, 3)) (go : WG x M1 lv (pc + 3) (.int r :: st)) : WG x M lv pc (.ref (gad (xz x) 122) :: st) := g_callV X (n := 0) (As := []) (rest := st) hM ht (by decide) (gE_11 ht) rfl q_1479 q_1480 q_1481 q_63 q_1482 (by decide +kernel) rfl hd (by decide) rfl hsum dec go
theorem gc_L_197 {x : GX} {cc : ByteArray} {nL d pc : Nat} {M : GM} {lv : List (Nat × Value)} {st : List Value} (X : GC x cc nL RL d)  {M1 : GM} {r : Int32} (ht : gT 0 = 10) (hM : gMet (xl x) (xz x) yX10_stale cX10_stale 1 (some .int) 7 [.ref (gad (xz x) 0)] M (some (.int r)) M1) (hd : 8 ≤ d) (hsum : (st.map fun v => v.category).sum ≤ 8) (dec : decode cc pc = .ok (.invokevirtual 197, 3)) (go : WG x M1 lv (pc + 3) (.int r :: st)) : WG x M lv pc (.ref (gad (xz x) 0) :: st) := g_callV X (n := 0) (As := []) (rest := st) hM ht (by decide) (gE_10 ht) rfl q_621 q_622 q_623 q_52 q_624 (by decide +kernel) rfl hd (by decide) rfl hsum dec go
theorem gc_L_200 {x : GX} {cc : ByteArray} {nL d pc : Nat} {M : GM} {lv : List (Nat × Value)} {st : List Value} (X : GC x cc nL RL d)  {M1 : GM} {r : Int32} (ht : gT 122 = 11) (hM : gMet (xl x) (xz x) yX11_stale cX11_stale 1 (some .int) 6 [.ref (gad (xz x) 122)] M (some (.int r)) M1) (hd : 7 ≤ d) (hsum : (st.map fun v => v.category).sum ≤ 8) (dec : decode cc pc = .ok (.invokevirtual 200, 3)) (go : WG x M1 lv (pc + 3) (.int r :: st)) : WG x M lv pc (.ref (gad (xz x) 122) :: st) := g_callV X (n := 0) (As := []) (rest := st) hM ht (by decide) (gE_11 ht) rfl q_1483 q_1484 q_1485 q_63 q_1486 (by decide +kernel) rfl hd (by decide) rfl hsum dec go
theorem q_1003 : Cond.codeWith yL_isStale cL_isStale 4 (some .int) [(0, 16, 19, 21)] ∈ GW := gw_mem 1003 (by decide +kernel) (by decide +kernel)
theorem gw_L_201 {x : GX} {cc : ByteArray} {nL d pc : Nat} {M : GM} {lv : List (Nat × Value)} {st : List Value} (X : GC x cc nL RL d) {i1 : Int32} {r : Int32} {M1 : GM} (hM : gMetW (xl x) (xz x) yL_isStale cL_isStale 4 [(0, 16, 19, 21)] [.ref (gad (xz x) 0), .int i1, .ref (gad (xz x) 162)] M r M1) (hnc : gNcs (xs x)) (hd : 9 ≤ d) (hsum : (st.map fun v => v.category).sum ≤ 8) (hroom : xcells x + 1 ≤ (xR x).cells ∧ xslots x + 6 ≤ (xR x).slots) (dec : decode cc pc = .ok (.invokestatic 201, 3)) (go : WG (xup x) M1 lv (pc + 3) (.int r :: st)) : WG x M lv pc (.ref (gad (xz x) 162) :: .int i1 :: .ref (gad (xz x) 0) :: st) := g_callW X (n := 3) (As := [.ref (gad (xz x) 0), .int i1, .ref (gad (xz x) 162)]) (rest := st) hM hnc q_1001 q_1002 q_51 q_1003 (by decide +kernel) rfl hd (by decide) rfl hsum hroom dec go
theorem gc_L_203 {x : GX} {cc : ByteArray} {nL d pc : Nat} {M : GM} {lv : List (Nat × Value)} {st : List Value} (X : GC x cc nL RL d) {i0 : Int32} {M1 : GM} {r : Int32} (ht : gT 122 = 11) (hM : gMet (xl x) (xz x) yX11_isStale cX11_isStale 2 (some .boolean) 6 [.ref (gad (xz x) 122), .int i0] M (some (.int r)) M1) (hd : 7 ≤ d) (hsum : (st.map fun v => v.category).sum ≤ 8) (dec : decode cc pc = .ok (.invokevirtual 203, 3)) (go : WG x M1 lv (pc + 3) (.int r :: st)) : WG x M lv pc (.int i0 :: .ref (gad (xz x) 122) :: st) := g_callV X (n := 1) (As := [.int i0]) (rest := st) hM ht (by decide) (gE_11 ht) rfl q_1487 q_1488 q_1489 q_63 q_1490 (by decide +kernel) rfl hd (by decide) rfl hsum dec go
theorem q_1011 : Cond.codeWith yL_colourAt cL_colourAt 5 (some .int) [(0, 10, 13, 21)] ∈ GW := gw_mem 1011 (by decide +kernel) (by decide +kernel)
theorem gw_L_204 {x : GX} {cc : ByteArray} {nL d pc : Nat} {M : GM} {lv : List (Nat × Value)} {st : List Value} (X : GC x cc nL RL d) {i1 : Int32} {i2 : Int32} {r : Int32} {M1 : GM} (hM : gMetW (xl x) (xz x) yL_colourAt cL_colourAt 5 [(0, 10, 13, 21)] [.ref (gad (xz x) 0), .int i1, .int i2, .ref (gad (xz x) 162)] M r M1) (hnc : gNcs (xs x)) (hd : 9 ≤ d) (hsum : (st.map fun v => v.category).sum ≤ 8) (hroom : xcells x + 1 ≤ (xR x).cells ∧ xslots x + 6 ≤ (xR x).slots) (dec : decode cc pc = .ok (.invokestatic 204, 3)) (go : WG (xup x) M1 lv (pc + 3) (.int r :: st)) : WG x M lv pc (.ref (gad (xz x) 162) :: .int i2 :: .int i1 :: .ref (gad (xz x) 0) :: st) := g_callW X (n := 4) (As := [.ref (gad (xz x) 0), .int i1, .int i2, .ref (gad (xz x) 162)]) (rest := st) hM hnc q_1009 q_1010 q_51 q_1011 (by decide +kernel) rfl hd (by decide) rfl hsum hroom dec go
theorem gc_L_206 {x : GX} {cc : ByteArray} {nL d pc : Nat} {M : GM} {lv : List (Nat × Value)} {st : List Value} (X : GC x cc nL RL d) {i0 : Int32} {i1 : Int32} {M1 : GM} {r : Int32} (ht : gT 122 = 11) (hM : gMet (xl x) (xz x) yX11_colourAt cX11_colourAt 3 (some .int) 3 [.ref (gad (xz x) 122), .int i0, .int i1] M (some (.int r)) M1) (hd : 4 ≤ d) (hsum : (st.map fun v => v.category).sum ≤ 8) (dec : decode cc pc = .ok (.invokevirtual 206, 3)) (go : WG x M1 lv (pc + 3) (.int r :: st)) : WG x M lv pc (.int i1 :: .int i0 :: .ref (gad (xz x) 122) :: st) := g_callV X (n := 2) (As := [.int i0, .int i1]) (rest := st) hM ht (by decide) (gE_11 ht) rfl q_1491 q_1492 q_1493 q_63 q_1494 (by decide +kernel) rfl hd (by decide) rfl hsum dec go
theorem q_1015 : Cond.codeWith yL_depthAt cL_depthAt 5 (some .int) [(0, 10, 13, 21)] ∈ GW := gw_mem 1015 (by decide +kernel) (by decide +kernel)
theorem gw_L_207 {x : GX} {cc : ByteArray} {nL d pc : Nat} {M : GM} {lv : List (Nat × Value)} {st : List Value} (X : GC x cc nL RL d) {i1 : Int32} {i2 : Int32} {r : Int32} {M1 : GM} (hM : gMetW (xl x) (xz x) yL_depthAt cL_depthAt 5 [(0, 10, 13, 21)] [.ref (gad (xz x) 0), .int i1, .int i2, .ref (gad (xz x) 162)] M r M1) (hnc : gNcs (xs x)) (hd : 9 ≤ d) (hsum : (st.map fun v => v.category).sum ≤ 8) (hroom : xcells x + 1 ≤ (xR x).cells ∧ xslots x + 6 ≤ (xR x).slots) (dec : decode cc pc = .ok (.invokestatic 207, 3)) (go : WG (xup x) M1 lv (pc + 3) (.int r :: st)) : WG x M lv pc (.ref (gad (xz x) 162) :: .int i2 :: .int i1 :: .ref (gad (xz x) 0) :: st) := g_callW X (n := 4) (As := [.ref (gad (xz x) 0), .int i1, .int i2, .ref (gad (xz x) 162)]) (rest := st) hM hnc q_1013 q_1014 q_51 q_1015 (by decide +kernel) rfl hd (by decide) rfl hsum hroom dec go
theorem gc_L_209 {x : GX} {cc : ByteArray} {nL d pc : Nat} {M : GM} {lv : List (Nat × Value)} {st : List Value} (X : GC x cc nL RL d) {i0 : Int32} {i1 : Int32} {M1 : GM} {r : Int32} (ht : gT 122 = 11) (hM : gMet (xl x) (xz x) yX11_depthAt_ cX11_depthAt_ 3 (some .int) 3 [.ref (gad (xz x) 122), .int i0, .int i1] M (some (.int r)) M1) (hd : 4 ≤ d) (hsum : (st.map fun v => v.category).sum ≤ 8) (dec : decode cc pc = .ok (.invokevirtual 209, 3)) (go : WG x M1 lv (pc + 3) (.int r :: st)) : WG x M lv pc (.int i1 :: .int i0 :: .ref (gad (xz x) 122) :: st) := g_callV X (n := 2) (As := [.int i0, .int i1]) (rest := st) hM ht (by decide) (gE_11 ht) rfl q_1499 q_1500 q_1501 q_63 q_1502 (by decide +kernel) rfl hd (by decide) rfl hsum dec go
theorem q_1019 : Cond.codeWith yL_paneAt cL_paneAt 5 (some .int) [(0, 10, 13, 21)] ∈ GW := gw_mem 1019 (by decide +kernel) (by decide +kernel)
theorem gw_L_210 {x : GX} {cc : ByteArray} {nL d pc : Nat} {M : GM} {lv : List (Nat × Value)} {st : List Value} (X : GC x cc nL RL d) {i1 : Int32} {i2 : Int32} {r : Int32} {M1 : GM} (hM : gMetW (xl x) (xz x) yL_paneAt cL_paneAt 5 [(0, 10, 13, 21)] [.ref (gad (xz x) 0), .int i1, .int i2, .ref (gad (xz x) 162)] M r M1) (hnc : gNcs (xs x)) (hd : 9 ≤ d) (hsum : (st.map fun v => v.category).sum ≤ 8) (hroom : xcells x + 1 ≤ (xR x).cells ∧ xslots x + 6 ≤ (xR x).slots) (dec : decode cc pc = .ok (.invokestatic 210, 3)) (go : WG (xup x) M1 lv (pc + 3) (.int r :: st)) : WG x M lv pc (.ref (gad (xz x) 162) :: .int i2 :: .int i1 :: .ref (gad (xz x) 0) :: st) := g_callW X (n := 4) (As := [.ref (gad (xz x) 0), .int i1, .int i2, .ref (gad (xz x) 162)]) (rest := st) hM hnc q_1017 q_1018 q_51 q_1019 (by decide +kernel) rfl hd (by decide) rfl hsum hroom dec go
theorem gc_L_212 {x : GX} {cc : ByteArray} {nL d pc : Nat} {M : GM} {lv : List (Nat × Value)} {st : List Value} (X : GC x cc nL RL d) {i0 : Int32} {i1 : Int32} {M1 : GM} {r : Int32} (ht : gT 122 = 11) (hM : gMet (xl x) (xz x) yX11_paneAt cX11_paneAt 3 (some .int) 3 [.ref (gad (xz x) 122), .int i0, .int i1] M (some (.int r)) M1) (hd : 4 ≤ d) (hsum : (st.map fun v => v.category).sum ≤ 8) (dec : decode cc pc = .ok (.invokevirtual 212, 3)) (go : WG x M1 lv (pc + 3) (.int r :: st)) : WG x M lv pc (.int i1 :: .int i0 :: .ref (gad (xz x) 122) :: st) := g_callV X (n := 2) (As := [.int i0, .int i1]) (rest := st) hM ht (by decide) (gE_11 ht) rfl q_1503 q_1504 q_1505 q_63 q_1506 (by decide +kernel) rfl hd (by decide) rfl hsum dec go
theorem q_1023 : Cond.codeWith yL_pointsWith cL_pointsWith 4 (some .int) [(0, 9, 12, 21)] ∈ GW := gw_mem 1023 (by decide +kernel) (by decide +kernel)
theorem gw_L_213 {x : GX} {cc : ByteArray} {nL d pc : Nat} {M : GM} {lv : List (Nat × Value)} {st : List Value} (X : GC x cc nL RL d) {i1 : Int32} {r : Int32} {M1 : GM} (hM : gMetW (xl x) (xz x) yL_pointsWith cL_pointsWith 4 [(0, 9, 12, 21)] [.ref (gad (xz x) 0), .int i1, .ref (gad (xz x) 162)] M r M1) (hnc : gNcs (xs x)) (hd : 9 ≤ d) (hsum : (st.map fun v => v.category).sum ≤ 8) (hroom : xcells x + 1 ≤ (xR x).cells ∧ xslots x + 6 ≤ (xR x).slots) (dec : decode cc pc = .ok (.invokestatic 213, 3)) (go : WG (xup x) M1 lv (pc + 3) (.int r :: st)) : WG x M lv pc (.ref (gad (xz x) 162) :: .int i1 :: .ref (gad (xz x) 0) :: st) := g_callW X (n := 3) (As := [.ref (gad (xz x) 0), .int i1, .ref (gad (xz x) 162)]) (rest := st) hM hnc q_1021 q_1022 q_51 q_1023 (by decide +kernel) rfl hd (by decide) rfl hsum hroom dec go
theorem gc_L_215 {x : GX} {cc : ByteArray} {nL d pc : Nat} {M : GM} {lv : List (Nat × Value)} {st : List Value} (X : GC x cc nL RL d) {i0 : Int32} {M1 : GM} {r : Int32} (ht : gT 122 = 11) (hM : gMet (xl x) (xz x) yX11_pointsWith cX11_pointsWith 2 (some .int) 2 [.ref (gad (xz x) 122), .int i0] M (some (.int r)) M1) (hd : 3 ≤ d) (hsum : (st.map fun v => v.category).sum ≤ 8) (dec : decode cc pc = .ok (.invokevirtual 215, 3)) (go : WG x M1 lv (pc + 3) (.int r :: st)) : WG x M lv pc (.int i0 :: .ref (gad (xz x) 122) :: st) := g_callV X (n := 1) (As := [.int i0]) (rest := st) hM ht (by decide) (gE_11 ht) rfl q_1507 q_1508 q_1509 q_63 q_1510 (by decide +kernel) rfl hd (by decide) rfl hsum dec go
theorem gc_L_216 {x : GX} {cc : ByteArray} {nL d pc : Nat} {M : GM} {lv : List (Nat × Value)} {st : List Value} (X : GC x cc nL RL d)  {M1 : GM} {r : Int32} (ht : gT 0 = 10) (hM : gMet (xl x) (xz x) yX10_colours cX10_colours 5 (some .int) 2 [.ref (gad (xz x) 0)] M (some (.int r)) M1) (hd : 3 ≤ d) (hsum : (st.map fun v => v.category).sum ≤ 8) (dec : decode cc pc = .ok (.invokevirtual 216, 3)) (go : WG x M1 lv (pc + 3) (.int r :: st)) : WG x M lv pc (.ref (gad (xz x) 0) :: st) := g_callV X (n := 0) (As := []) (rest := st) hM ht (by decide) (gE_10 ht) rfl q_625 q_626 q_627 q_52 q_628 (by decide +kernel) rfl hd (by decide) rfl hsum dec go
theorem gc_L_219 {x : GX} {cc : ByteArray} {nL d pc : Nat} {M : GM} {lv : List (Nat × Value)} {st : List Value} (X : GC x cc nL RL d)  {M1 : GM} {r : Int32} (ht : gT 122 = 11) (hM : gMet (xl x) (xz x) yX11_colours cX11_colours 1 (some .int) 1 [.ref (gad (xz x) 122)] M (some (.int r)) M1) (hd : 2 ≤ d) (hsum : (st.map fun v => v.category).sum ≤ 8) (dec : decode cc pc = .ok (.invokevirtual 219, 3)) (go : WG x M1 lv (pc + 3) (.int r :: st)) : WG x M lv pc (.ref (gad (xz x) 122) :: st) := g_callV X (n := 0) (As := []) (rest := st) hM ht (by decide) (gE_11 ht) rfl q_1514 q_1515 q_1516 q_63 q_1517 (by decide +kernel) rfl hd (by decide) rfl hsum dec go
theorem q_1027 : Cond.codeWith yL_colourNow cL_colourNow 5 (some .int) [(0, 10, 13, 21)] ∈ GW := gw_mem 1027 (by decide +kernel) (by decide +kernel)
theorem gw_L_220 {x : GX} {cc : ByteArray} {nL d pc : Nat} {M : GM} {lv : List (Nat × Value)} {st : List Value} (X : GC x cc nL RL d) {i1 : Int32} {i2 : Int32} {r : Int32} {M1 : GM} (hM : gMetW (xl x) (xz x) yL_colourNow cL_colourNow 5 [(0, 10, 13, 21)] [.ref (gad (xz x) 0), .int i1, .int i2, .ref (gad (xz x) 162)] M r M1) (hnc : gNcs (xs x)) (hd : 9 ≤ d) (hsum : (st.map fun v => v.category).sum ≤ 8) (hroom : xcells x + 1 ≤ (xR x).cells ∧ xslots x + 6 ≤ (xR x).slots) (dec : decode cc pc = .ok (.invokestatic 220, 3)) (go : WG (xup x) M1 lv (pc + 3) (.int r :: st)) : WG x M lv pc (.ref (gad (xz x) 162) :: .int i2 :: .int i1 :: .ref (gad (xz x) 0) :: st) := g_callW X (n := 4) (As := [.ref (gad (xz x) 0), .int i1, .int i2, .ref (gad (xz x) 162)]) (rest := st) hM hnc q_1025 q_1026 q_51 q_1027 (by decide +kernel) rfl hd (by decide) rfl hsum hroom dec go
theorem gc_L_222 {x : GX} {cc : ByteArray} {nL d pc : Nat} {M : GM} {lv : List (Nat × Value)} {st : List Value} (X : GC x cc nL RL d) {i0 : Int32} {i1 : Int32} {M1 : GM} {r : Int32} (ht : gT 122 = 11) (hM : gMet (xl x) (xz x) yX11_colourNow cX11_colourNow 3 (some .int) 5 [.ref (gad (xz x) 122), .int i0, .int i1] M (some (.int r)) M1) (hd : 6 ≤ d) (hsum : (st.map fun v => v.category).sum ≤ 8) (dec : decode cc pc = .ok (.invokevirtual 222, 3)) (go : WG x M1 lv (pc + 3) (.int r :: st)) : WG x M lv pc (.int i1 :: .int i0 :: .ref (gad (xz x) 122) :: st) := g_callV X (n := 2) (As := [.int i0, .int i1]) (rest := st) hM ht (by decide) (gE_11 ht) rfl q_1522 q_1523 q_1524 q_63 q_1525 (by decide +kernel) rfl hd (by decide) rfl hsum dec go
theorem q_1034 : Cond.codeWith yL_seenOf cL_seenOf 4 (some .int) [(0, 9, 12, 21)] ∈ GW := gw_mem 1034 (by decide +kernel) (by decide +kernel)
theorem gw_L_223 {x : GX} {cc : ByteArray} {nL d pc : Nat} {M : GM} {lv : List (Nat × Value)} {st : List Value} (X : GC x cc nL RL d) {i1 : Int32} {r : Int32} {M1 : GM} (hM : gMetW (xl x) (xz x) yL_seenOf cL_seenOf 4 [(0, 9, 12, 21)] [.ref (gad (xz x) 0), .int i1, .ref (gad (xz x) 162)] M r M1) (hnc : gNcs (xs x)) (hd : 9 ≤ d) (hsum : (st.map fun v => v.category).sum ≤ 8) (hroom : xcells x + 1 ≤ (xR x).cells ∧ xslots x + 6 ≤ (xR x).slots) (dec : decode cc pc = .ok (.invokestatic 223, 3)) (go : WG (xup x) M1 lv (pc + 3) (.int r :: st)) : WG x M lv pc (.ref (gad (xz x) 162) :: .int i1 :: .ref (gad (xz x) 0) :: st) := g_callW X (n := 3) (As := [.ref (gad (xz x) 0), .int i1, .ref (gad (xz x) 162)]) (rest := st) hM hnc q_1032 q_1033 q_51 q_1034 (by decide +kernel) rfl hd (by decide) rfl hsum hroom dec go
theorem gc_L_225 {x : GX} {cc : ByteArray} {nL d pc : Nat} {M : GM} {lv : List (Nat × Value)} {st : List Value} (X : GC x cc nL RL d) {i0 : Int32} {M1 : GM} {r : Int32} (ht : gT 122 = 11) (hM : gMet (xl x) (xz x) yX11_seenOf cX11_seenOf 4 (some .int) 5 [.ref (gad (xz x) 122), .int i0] M (some (.int r)) M1) (hd : 6 ≤ d) (hsum : (st.map fun v => v.category).sum ≤ 8) (dec : decode cc pc = .ok (.invokevirtual 225, 3)) (go : WG x M1 lv (pc + 3) (.int r :: st)) : WG x M lv pc (.int i0 :: .ref (gad (xz x) 122) :: st) := g_callV X (n := 1) (As := [.int i0]) (rest := st) hM ht (by decide) (gE_11 ht) rfl q_1526 q_1527 q_1528 q_63 q_1529 (by decide +kernel) rfl hd (by decide) rfl hsum dec go
theorem gc_L_226 {x : GX} {cc : ByteArray} {nL d pc : Nat} {M : GM} {lv : List (Nat × Value)} {st : List Value} (X : GC x cc nL RL d)  {M1 : GM} {r : Int32} (ht : gT 0 = 10) (hM : gMet (xl x) (xz x) yX10_greatest cX10_greatest 5 (some .int) 7 [.ref (gad (xz x) 0)] M (some (.int r)) M1) (hd : 8 ≤ d) (hsum : (st.map fun v => v.category).sum ≤ 8) (dec : decode cc pc = .ok (.invokevirtual 226, 3)) (go : WG x M1 lv (pc + 3) (.int r :: st)) : WG x M lv pc (.ref (gad (xz x) 0) :: st) := g_callV X (n := 0) (As := []) (rest := st) hM ht (by decide) (gE_10 ht) rfl q_641 q_642 q_643 q_52 q_644 (by decide +kernel) rfl hd (by decide) rfl hsum dec go
theorem gc_L_229 {x : GX} {cc : ByteArray} {nL d pc : Nat} {M : GM} {lv : List (Nat × Value)} {st : List Value} (X : GC x cc nL RL d)  {M1 : GM} {r : Int32} (ht : gT 122 = 11) (hM : gMet (xl x) (xz x) yX11_greatest cX11_greatest 5 (some .int) 5 [.ref (gad (xz x) 122)] M (some (.int r)) M1) (hd : 6 ≤ d) (hsum : (st.map fun v => v.category).sum ≤ 8) (dec : decode cc pc = .ok (.invokevirtual 229, 3)) (go : WG x M1 lv (pc + 3) (.int r :: st)) : WG x M lv pc (.ref (gad (xz x) 122) :: st) := g_callV X (n := 0) (As := []) (rest := st) hM ht (by decide) (gE_11 ht) rfl q_1530 q_1531 q_1532 q_63 q_1533 (by decide +kernel) rfl hd (by decide) rfl hsum dec go
theorem q_1041 : Cond.codeWith yL_glassAt cL_glassAt 5 (some .int) [(0, 10, 13, 21)] ∈ GW := gw_mem 1041 (by decide +kernel) (by decide +kernel)
theorem gw_L_230 {x : GX} {cc : ByteArray} {nL d pc : Nat} {M : GM} {lv : List (Nat × Value)} {st : List Value} (X : GC x cc nL RL d) {i1 : Int32} {i2 : Int32} {r : Int32} {M1 : GM} (hM : gMetW (xl x) (xz x) yL_glassAt cL_glassAt 5 [(0, 10, 13, 21)] [.ref (gad (xz x) 0), .int i1, .int i2, .ref (gad (xz x) 162)] M r M1) (hnc : gNcs (xs x)) (hd : 9 ≤ d) (hsum : (st.map fun v => v.category).sum ≤ 8) (hroom : xcells x + 1 ≤ (xR x).cells ∧ xslots x + 6 ≤ (xR x).slots) (dec : decode cc pc = .ok (.invokestatic 230, 3)) (go : WG (xup x) M1 lv (pc + 3) (.int r :: st)) : WG x M lv pc (.ref (gad (xz x) 162) :: .int i2 :: .int i1 :: .ref (gad (xz x) 0) :: st) := g_callW X (n := 4) (As := [.ref (gad (xz x) 0), .int i1, .int i2, .ref (gad (xz x) 162)]) (rest := st) hM hnc q_1039 q_1040 q_51 q_1041 (by decide +kernel) rfl hd (by decide) rfl hsum hroom dec go
theorem gc_L_232 {x : GX} {cc : ByteArray} {nL d pc : Nat} {M : GM} {lv : List (Nat × Value)} {st : List Value} (X : GC x cc nL RL d) {i0 : Int32} {i1 : Int32} {M1 : GM} {r : Int32} (ht : gT 122 = 11) (hM : gMet (xl x) (xz x) yX11_glassAt cX11_glassAt 3 (some .int) 5 [.ref (gad (xz x) 122), .int i0, .int i1] M (some (.int r)) M1) (hd : 6 ≤ d) (hsum : (st.map fun v => v.category).sum ≤ 8) (dec : decode cc pc = .ok (.invokevirtual 232, 3)) (go : WG x M1 lv (pc + 3) (.int r :: st)) : WG x M lv pc (.int i1 :: .int i0 :: .ref (gad (xz x) 122) :: st) := g_callV X (n := 2) (As := [.int i0, .int i1]) (rest := st) hM ht (by decide) (gE_11 ht) rfl q_1534 q_1535 q_1536 q_63 q_1537 (by decide +kernel) rfl hd (by decide) rfl hsum dec go
theorem gc_L_233 {x : GX} {cc : ByteArray} {nL d pc : Nat} {M : GM} {lv : List (Nat × Value)} {st : List Value} (X : GC x cc nL RL d)  {M1 : GM} {r : UInt64} (ht : gT 0 = 10) (hM : gMet (xl x) (xz x) yX10_brightness cX10_brightness 7 (some .double) 1 [.ref (gad (xz x) 0)] M (some (.double r)) M1) (hd : 2 ≤ d) (hsum : (st.map fun v => v.category).sum ≤ 8) (dec : decode cc pc = .ok (.invokevirtual 233, 3)) (go : WG x M1 lv (pc + 3) (.double r :: st)) : WG x M lv pc (.ref (gad (xz x) 0) :: st) := g_callV X (n := 0) (As := []) (rest := st) hM ht (by decide) (gE_10 ht) rfl q_646 q_647 q_648 q_52 q_649 (by decide +kernel) rfl hd (by decide) rfl hsum dec go
theorem gc_L_237 {x : GX} {cc : ByteArray} {nL d pc : Nat} {M : GM} {lv : List (Nat × Value)} {st : List Value} (X : GC x cc nL RL d)  {M1 : GM} {r : UInt64} (ht : gT 122 = 11) (hM : gMet (xl x) (xz x) yX11_brightness cX11_brightness 3 (some .double) 1 [.ref (gad (xz x) 122)] M (some (.double r)) M1) (hd : 2 ≤ d) (hsum : (st.map fun v => v.category).sum ≤ 8) (dec : decode cc pc = .ok (.invokevirtual 237, 3)) (go : WG x M1 lv (pc + 3) (.double r :: st)) : WG x M lv pc (.ref (gad (xz x) 122) :: st) := g_callV X (n := 0) (As := []) (rest := st) hM ht (by decide) (gE_11 ht) rfl q_1538 q_1539 q_1540 q_63 q_1541 (by decide +kernel) rfl hd (by decide) rfl hsum dec go
theorem gc_L_238 {x : GX} {cc : ByteArray} {nL d pc : Nat} {M : GM} {lv : List (Nat × Value)} {st : List Value} (X : GC x cc nL RL d)  {M1 : GM} {r : Int64} (ht : gT 0 = 10) (hM : gMet (xl x) (xz x) yX10_digest cX10_digest 5 (some .long) 9 [.ref (gad (xz x) 0)] M (some (.long r)) M1) (hd : 10 ≤ d) (hsum : (st.map fun v => v.category).sum ≤ 8) (dec : decode cc pc = .ok (.invokevirtual 238, 3)) (go : WG x M1 lv (pc + 3) (.long r :: st)) : WG x M lv pc (.ref (gad (xz x) 0) :: st) := g_callV X (n := 0) (As := []) (rest := st) hM ht (by decide) (gE_10 ht) rfl q_651 q_652 q_653 q_52 q_654 (by decide +kernel) rfl hd (by decide) rfl hsum dec go
theorem gc_L_242 {x : GX} {cc : ByteArray} {nL d pc : Nat} {M : GM} {lv : List (Nat × Value)} {st : List Value} (X : GC x cc nL RL d)  {M1 : GM} {r : Int64} (ht : gT 122 = 11) (hM : gMet (xl x) (xz x) yX11_digest cX11_digest 6 (some .long) 6 [.ref (gad (xz x) 122)] M (some (.long r)) M1) (hd : 7 ≤ d) (hsum : (st.map fun v => v.category).sum ≤ 8) (dec : decode cc pc = .ok (.invokevirtual 242, 3)) (go : WG x M1 lv (pc + 3) (.long r :: st)) : WG x M lv pc (.ref (gad (xz x) 122) :: st) := g_callV X (n := 0) (As := []) (rest := st) hM ht (by decide) (gE_11 ht) rfl q_1543 q_1544 q_1545 q_63 q_1546 (by decide +kernel) rfl hd (by decide) rfl hsum dec go
