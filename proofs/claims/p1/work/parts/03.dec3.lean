theorem dX9_block_216 : decode cX9_block 216 = .ok (.istore 4, 2) := by decide +kernel
theorem dX9_block_218 : decode cX9_block 218 = .ok (.aload_n 0, 1) := by decide +kernel
theorem dX9_block_219 : decode cX9_block 219 = .ok (.getfield 16, 3) := by decide +kernel
theorem dX9_block_222 : decode cX9_block 222 = .ok (.iconst 3, 1) := by decide +kernel
theorem dX9_block_223 : decode cX9_block 223 = .ok (.iaload, 1) := by decide +kernel
theorem dX9_block_224 : decode cX9_block 224 = .ok (.istore 5, 2) := by decide +kernel
theorem dX9_block_226 : decode cX9_block 226 = .ok (.aload_n 0, 1) := by decide +kernel
theorem dX9_block_227 : decode cX9_block 227 = .ok (.getfield 16, 3) := by decide +kernel
theorem dX9_block_230 : decode cX9_block 230 = .ok (.iconst 4, 1) := by decide +kernel
theorem dX9_block_231 : decode cX9_block 231 = .ok (.iaload, 1) := by decide +kernel
theorem dX9_block_232 : decode cX9_block 232 = .ok (.istore 6, 2) := by decide +kernel
theorem dX9_block_234 : decode cX9_block 234 = .ok (.aload_n 0, 1) := by decide +kernel
theorem dX9_block_235 : decode cX9_block 235 = .ok (.getfield 16, 3) := by decide +kernel
theorem dX9_block_238 : decode cX9_block 238 = .ok (.iconst 5, 1) := by decide +kernel
theorem dX9_block_239 : decode cX9_block 239 = .ok (.iaload, 1) := by decide +kernel
theorem dX9_block_240 : decode cX9_block 240 = .ok (.istore 7, 2) := by decide +kernel
theorem dX9_block_242 : decode cX9_block 242 = .ok (.aload_n 0, 1) := by decide +kernel
theorem dX9_block_243 : decode cX9_block 243 = .ok (.getfield 16, 3) := by decide +kernel
theorem dX9_block_246 : decode cX9_block 246 = .ok (.bipush 6, 2) := by decide +kernel
theorem dX9_block_248 : decode cX9_block 248 = .ok (.iaload, 1) := by decide +kernel
theorem dX9_block_249 : decode cX9_block 249 = .ok (.istore 8, 2) := by decide +kernel
theorem dX9_block_251 : decode cX9_block 251 = .ok (.aload_n 0, 1) := by decide +kernel
theorem dX9_block_252 : decode cX9_block 252 = .ok (.getfield 16, 3) := by decide +kernel
theorem dX9_block_255 : decode cX9_block 255 = .ok (.bipush 7, 2) := by decide +kernel
theorem dX9_block_257 : decode cX9_block 257 = .ok (.iaload, 1) := by decide +kernel
theorem dX9_block_258 : decode cX9_block 258 = .ok (.istore 9, 2) := by decide +kernel
theorem dX9_block_260 : decode cX9_block 260 = .ok (.iconst 0, 1) := by decide +kernel
theorem dX9_block_261 : decode cX9_block 261 = .ok (.istore 10, 2) := by decide +kernel
theorem dX9_block_263 : decode cX9_block 263 = .ok (.iload 10, 2) := by decide +kernel
theorem dX9_block_265 : decode cX9_block 265 = .ok (.bipush 64, 2) := by decide +kernel
theorem dX9_block_267 : decode cX9_block 267 = .ok (.if_icmp .ge 136, 3) := by decide +kernel
theorem dX9_block_270 : decode cX9_block 270 = .ok (.iload 9, 2) := by decide +kernel
theorem dX9_block_272 : decode cX9_block 272 = .ok (.iload 6, 2) := by decide +kernel
theorem dX9_block_274 : decode cX9_block 274 = .ok (.bipush 6, 2) := by decide +kernel
theorem dX9_block_276 : decode cX9_block 276 = .ok (.invokestatic 158, 3) := by decide +kernel
theorem dX9_block_279 : decode cX9_block 279 = .ok (.iload 6, 2) := by decide +kernel
theorem dX9_block_281 : decode cX9_block 281 = .ok (.bipush 11, 2) := by decide +kernel
theorem dX9_block_283 : decode cX9_block 283 = .ok (.invokestatic 158, 3) := by decide +kernel
theorem dX9_block_286 : decode cX9_block 286 = .ok (.ixor, 1) := by decide +kernel
theorem dX9_block_287 : decode cX9_block 287 = .ok (.iload 6, 2) := by decide +kernel
theorem dX9_block_289 : decode cX9_block 289 = .ok (.bipush 25, 2) := by decide +kernel
theorem dX9_block_291 : decode cX9_block 291 = .ok (.invokestatic 158, 3) := by decide +kernel
theorem dX9_block_294 : decode cX9_block 294 = .ok (.ixor, 1) := by decide +kernel
theorem dX9_block_295 : decode cX9_block 295 = .ok (.iadd, 1) := by decide +kernel
theorem dX9_block_296 : decode cX9_block 296 = .ok (.iload 6, 2) := by decide +kernel
theorem dX9_block_298 : decode cX9_block 298 = .ok (.iload 7, 2) := by decide +kernel
theorem dX9_block_300 : decode cX9_block 300 = .ok (.iand, 1) := by decide +kernel
theorem dX9_block_301 : decode cX9_block 301 = .ok (.iload 6, 2) := by decide +kernel
theorem dX9_block_303 : decode cX9_block 303 = .ok (.iconst (-1), 1) := by decide +kernel
theorem dX9_block_304 : decode cX9_block 304 = .ok (.ixor, 1) := by decide +kernel
theorem dX9_block_305 : decode cX9_block 305 = .ok (.iload 8, 2) := by decide +kernel
theorem dX9_block_307 : decode cX9_block 307 = .ok (.iand, 1) := by decide +kernel
theorem dX9_block_308 : decode cX9_block 308 = .ok (.ixor, 1) := by decide +kernel
theorem dX9_block_309 : decode cX9_block 309 = .ok (.iadd, 1) := by decide +kernel
theorem dX9_block_310 : decode cX9_block 310 = .ok (.aload_n 0, 1) := by decide +kernel
theorem dX9_block_311 : decode cX9_block 311 = .ok (.getfield 7, 3) := by decide +kernel
theorem dX9_block_314 : decode cX9_block 314 = .ok (.iload 10, 2) := by decide +kernel
theorem dX9_block_316 : decode cX9_block 316 = .ok (.iaload, 1) := by decide +kernel
theorem dX9_block_317 : decode cX9_block 317 = .ok (.iadd, 1) := by decide +kernel
theorem dX9_block_318 : decode cX9_block 318 = .ok (.aload_n 0, 1) := by decide +kernel
theorem dX9_block_319 : decode cX9_block 319 = .ok (.getfield 13, 3) := by decide +kernel
theorem dX9_block_322 : decode cX9_block 322 = .ok (.iload 10, 2) := by decide +kernel
theorem dX9_block_324 : decode cX9_block 324 = .ok (.iaload, 1) := by decide +kernel
theorem dX9_block_325 : decode cX9_block 325 = .ok (.iadd, 1) := by decide +kernel
theorem dX9_block_326 : decode cX9_block 326 = .ok (.istore 11, 2) := by decide +kernel
theorem dX9_block_328 : decode cX9_block 328 = .ok (.iload_n 2, 1) := by decide +kernel
theorem dX9_block_329 : decode cX9_block 329 = .ok (.iconst 2, 1) := by decide +kernel
theorem dX9_block_330 : decode cX9_block 330 = .ok (.invokestatic 158, 3) := by decide +kernel
theorem dX9_block_333 : decode cX9_block 333 = .ok (.iload_n 2, 1) := by decide +kernel
theorem dX9_block_334 : decode cX9_block 334 = .ok (.bipush 13, 2) := by decide +kernel
theorem dX9_block_336 : decode cX9_block 336 = .ok (.invokestatic 158, 3) := by decide +kernel
theorem dX9_block_339 : decode cX9_block 339 = .ok (.ixor, 1) := by decide +kernel
theorem dX9_block_340 : decode cX9_block 340 = .ok (.iload_n 2, 1) := by decide +kernel
theorem dX9_block_341 : decode cX9_block 341 = .ok (.bipush 22, 2) := by decide +kernel
theorem dX9_block_343 : decode cX9_block 343 = .ok (.invokestatic 158, 3) := by decide +kernel
theorem dX9_block_346 : decode cX9_block 346 = .ok (.ixor, 1) := by decide +kernel
theorem dX9_block_347 : decode cX9_block 347 = .ok (.iload_n 2, 1) := by decide +kernel
theorem dX9_block_348 : decode cX9_block 348 = .ok (.iload_n 3, 1) := by decide +kernel
theorem dX9_block_349 : decode cX9_block 349 = .ok (.iand, 1) := by decide +kernel
theorem dX9_block_350 : decode cX9_block 350 = .ok (.iload_n 2, 1) := by decide +kernel
theorem dX9_block_351 : decode cX9_block 351 = .ok (.iload 4, 2) := by decide +kernel
theorem dX9_block_353 : decode cX9_block 353 = .ok (.iand, 1) := by decide +kernel
theorem dX9_block_354 : decode cX9_block 354 = .ok (.ixor, 1) := by decide +kernel
theorem dX9_block_355 : decode cX9_block 355 = .ok (.iload_n 3, 1) := by decide +kernel
theorem dX9_block_356 : decode cX9_block 356 = .ok (.iload 4, 2) := by decide +kernel
theorem dX9_block_358 : decode cX9_block 358 = .ok (.iand, 1) := by decide +kernel
theorem dX9_block_359 : decode cX9_block 359 = .ok (.ixor, 1) := by decide +kernel
theorem dX9_block_360 : decode cX9_block 360 = .ok (.iadd, 1) := by decide +kernel
theorem dX9_block_361 : decode cX9_block 361 = .ok (.istore 12, 2) := by decide +kernel
theorem dX9_block_363 : decode cX9_block 363 = .ok (.iload 8, 2) := by decide +kernel
theorem dX9_block_365 : decode cX9_block 365 = .ok (.istore 9, 2) := by decide +kernel
theorem dX9_block_367 : decode cX9_block 367 = .ok (.iload 7, 2) := by decide +kernel
theorem dX9_block_369 : decode cX9_block 369 = .ok (.istore 8, 2) := by decide +kernel
theorem dX9_block_371 : decode cX9_block 371 = .ok (.iload 6, 2) := by decide +kernel
theorem dX9_block_373 : decode cX9_block 373 = .ok (.istore 7, 2) := by decide +kernel
theorem dX9_block_375 : decode cX9_block 375 = .ok (.iload 5, 2) := by decide +kernel
theorem dX9_block_377 : decode cX9_block 377 = .ok (.iload 11, 2) := by decide +kernel
theorem dX9_block_379 : decode cX9_block 379 = .ok (.iadd, 1) := by decide +kernel
theorem dX9_block_380 : decode cX9_block 380 = .ok (.istore 6, 2) := by decide +kernel
theorem dX9_block_382 : decode cX9_block 382 = .ok (.iload 4, 2) := by decide +kernel
theorem dX9_block_384 : decode cX9_block 384 = .ok (.istore 5, 2) := by decide +kernel
theorem dX9_block_386 : decode cX9_block 386 = .ok (.iload_n 3, 1) := by decide +kernel
theorem dX9_block_387 : decode cX9_block 387 = .ok (.istore 4, 2) := by decide +kernel
theorem dX9_block_389 : decode cX9_block 389 = .ok (.iload_n 2, 1) := by decide +kernel
theorem dX9_block_390 : decode cX9_block 390 = .ok (.istore_n 3, 1) := by decide +kernel
theorem dX9_block_391 : decode cX9_block 391 = .ok (.iload 11, 2) := by decide +kernel
theorem dX9_block_393 : decode cX9_block 393 = .ok (.iload 12, 2) := by decide +kernel
theorem dX9_block_395 : decode cX9_block 395 = .ok (.iadd, 1) := by decide +kernel
theorem dX9_block_396 : decode cX9_block 396 = .ok (.istore_n 2, 1) := by decide +kernel
theorem dX9_block_397 : decode cX9_block 397 = .ok (.iinc 10 1, 3) := by decide +kernel
theorem dX9_block_400 : decode cX9_block 400 = .ok (.goto (-137), 3) := by decide +kernel
theorem dX9_block_403 : decode cX9_block 403 = .ok (.aload_n 0, 1) := by decide +kernel
theorem dX9_block_404 : decode cX9_block 404 = .ok (.getfield 16, 3) := by decide +kernel
theorem dX9_block_407 : decode cX9_block 407 = .ok (.iconst 0, 1) := by decide +kernel
theorem dX9_block_408 : decode cX9_block 408 = .ok (.dup2, 1) := by decide +kernel
theorem dX9_block_409 : decode cX9_block 409 = .ok (.iaload, 1) := by decide +kernel
theorem dX9_block_410 : decode cX9_block 410 = .ok (.iload_n 2, 1) := by decide +kernel
theorem dX9_block_411 : decode cX9_block 411 = .ok (.iadd, 1) := by decide +kernel
theorem dX9_block_412 : decode cX9_block 412 = .ok (.iastore, 1) := by decide +kernel
theorem dX9_block_413 : decode cX9_block 413 = .ok (.aload_n 0, 1) := by decide +kernel
theorem dX9_block_414 : decode cX9_block 414 = .ok (.getfield 16, 3) := by decide +kernel
theorem dX9_block_417 : decode cX9_block 417 = .ok (.iconst 1, 1) := by decide +kernel
theorem dX9_block_418 : decode cX9_block 418 = .ok (.dup2, 1) := by decide +kernel
theorem dX9_block_419 : decode cX9_block 419 = .ok (.iaload, 1) := by decide +kernel
theorem dX9_block_420 : decode cX9_block 420 = .ok (.iload_n 3, 1) := by decide +kernel
theorem dX9_block_421 : decode cX9_block 421 = .ok (.iadd, 1) := by decide +kernel
theorem dX9_block_422 : decode cX9_block 422 = .ok (.iastore, 1) := by decide +kernel
theorem dX9_block_423 : decode cX9_block 423 = .ok (.aload_n 0, 1) := by decide +kernel
theorem dX9_block_424 : decode cX9_block 424 = .ok (.getfield 16, 3) := by decide +kernel
theorem dX9_block_427 : decode cX9_block 427 = .ok (.iconst 2, 1) := by decide +kernel
theorem dX9_block_428 : decode cX9_block 428 = .ok (.dup2, 1) := by decide +kernel
theorem dX9_block_429 : decode cX9_block 429 = .ok (.iaload, 1) := by decide +kernel
theorem dX9_block_430 : decode cX9_block 430 = .ok (.iload 4, 2) := by decide +kernel
theorem dX9_block_432 : decode cX9_block 432 = .ok (.iadd, 1) := by decide +kernel
theorem dX9_block_433 : decode cX9_block 433 = .ok (.iastore, 1) := by decide +kernel
theorem dX9_block_434 : decode cX9_block 434 = .ok (.aload_n 0, 1) := by decide +kernel
theorem dX9_block_435 : decode cX9_block 435 = .ok (.getfield 16, 3) := by decide +kernel
theorem dX9_block_438 : decode cX9_block 438 = .ok (.iconst 3, 1) := by decide +kernel
theorem dX9_block_439 : decode cX9_block 439 = .ok (.dup2, 1) := by decide +kernel
theorem dX9_block_440 : decode cX9_block 440 = .ok (.iaload, 1) := by decide +kernel
theorem dX9_block_441 : decode cX9_block 441 = .ok (.iload 5, 2) := by decide +kernel
theorem dX9_block_443 : decode cX9_block 443 = .ok (.iadd, 1) := by decide +kernel
theorem dX9_block_444 : decode cX9_block 444 = .ok (.iastore, 1) := by decide +kernel
theorem dX9_block_445 : decode cX9_block 445 = .ok (.aload_n 0, 1) := by decide +kernel
theorem dX9_block_446 : decode cX9_block 446 = .ok (.getfield 16, 3) := by decide +kernel
theorem dX9_block_449 : decode cX9_block 449 = .ok (.iconst 4, 1) := by decide +kernel
theorem dX9_block_450 : decode cX9_block 450 = .ok (.dup2, 1) := by decide +kernel
theorem dX9_block_451 : decode cX9_block 451 = .ok (.iaload, 1) := by decide +kernel
theorem dX9_block_452 : decode cX9_block 452 = .ok (.iload 6, 2) := by decide +kernel
theorem dX9_block_454 : decode cX9_block 454 = .ok (.iadd, 1) := by decide +kernel
theorem dX9_block_455 : decode cX9_block 455 = .ok (.iastore, 1) := by decide +kernel
theorem dX9_block_456 : decode cX9_block 456 = .ok (.aload_n 0, 1) := by decide +kernel
theorem dX9_block_457 : decode cX9_block 457 = .ok (.getfield 16, 3) := by decide +kernel
theorem dX9_block_460 : decode cX9_block 460 = .ok (.iconst 5, 1) := by decide +kernel
theorem dX9_block_461 : decode cX9_block 461 = .ok (.dup2, 1) := by decide +kernel
theorem dX9_block_462 : decode cX9_block 462 = .ok (.iaload, 1) := by decide +kernel
theorem dX9_block_463 : decode cX9_block 463 = .ok (.iload 7, 2) := by decide +kernel
theorem dX9_block_465 : decode cX9_block 465 = .ok (.iadd, 1) := by decide +kernel
theorem dX9_block_466 : decode cX9_block 466 = .ok (.iastore, 1) := by decide +kernel
theorem dX9_block_467 : decode cX9_block 467 = .ok (.aload_n 0, 1) := by decide +kernel
theorem dX9_block_468 : decode cX9_block 468 = .ok (.getfield 16, 3) := by decide +kernel
theorem dX9_block_471 : decode cX9_block 471 = .ok (.bipush 6, 2) := by decide +kernel
theorem dX9_block_473 : decode cX9_block 473 = .ok (.dup2, 1) := by decide +kernel
theorem dX9_block_474 : decode cX9_block 474 = .ok (.iaload, 1) := by decide +kernel
theorem dX9_block_475 : decode cX9_block 475 = .ok (.iload 8, 2) := by decide +kernel
theorem dX9_block_477 : decode cX9_block 477 = .ok (.iadd, 1) := by decide +kernel
theorem dX9_block_478 : decode cX9_block 478 = .ok (.iastore, 1) := by decide +kernel
theorem dX9_block_479 : decode cX9_block 479 = .ok (.aload_n 0, 1) := by decide +kernel
theorem dX9_block_480 : decode cX9_block 480 = .ok (.getfield 16, 3) := by decide +kernel
theorem dX9_block_483 : decode cX9_block 483 = .ok (.bipush 7, 2) := by decide +kernel
theorem dX9_block_485 : decode cX9_block 485 = .ok (.dup2, 1) := by decide +kernel
theorem dX9_block_486 : decode cX9_block 486 = .ok (.iaload, 1) := by decide +kernel
theorem dX9_block_487 : decode cX9_block 487 = .ok (.iload 9, 2) := by decide +kernel
theorem dX9_block_489 : decode cX9_block 489 = .ok (.iadd, 1) := by decide +kernel
theorem dX9_block_490 : decode cX9_block 490 = .ok (.iastore, 1) := by decide +kernel
theorem dX9_block_491 : decode cX9_block 491 = .ok (.return_, 1) := by decide +kernel
theorem dX9_end_0 : decode cX9_end 0 = .ok (.bipush 8, 2) := by decide +kernel
theorem dX9_end_2 : decode cX9_end 2 = .ok (.aload_n 0, 1) := by decide +kernel
theorem dX9_end_3 : decode cX9_end 3 = .ok (.getfield 150, 3) := by decide +kernel
theorem dX9_end_6 : decode cX9_end 6 = .ok (.imul, 1) := by decide +kernel
theorem dX9_end_7 : decode cX9_end 7 = .ok (.istore_n 1, 1) := by decide +kernel
theorem dX9_end_8 : decode cX9_end 8 = .ok (.aload_n 0, 1) := by decide +kernel
theorem dX9_end_9 : decode cX9_end 9 = .ok (.getfield 150, 3) := by decide +kernel
theorem dX9_end_12 : decode cX9_end 12 = .ok (.bipush 56, 2) := by decide +kernel
theorem dX9_end_14 : decode cX9_end 14 = .ok (.if_icmp .ge 7, 3) := by decide +kernel
theorem dX9_end_17 : decode cX9_end 17 = .ok (.iconst 1, 1) := by decide +kernel
theorem dX9_end_18 : decode cX9_end 18 = .ok (.goto 4, 3) := by decide +kernel
theorem dX9_end_21 : decode cX9_end 21 = .ok (.iconst 2, 1) := by decide +kernel
theorem dX9_end_22 : decode cX9_end 22 = .ok (.istore_n 2, 1) := by decide +kernel
theorem dX9_end_23 : decode cX9_end 23 = .ok (.aload_n 0, 1) := by decide +kernel
theorem dX9_end_24 : decode cX9_end 24 = .ok (.sipush 128, 3) := by decide +kernel
theorem dX9_end_27 : decode cX9_end 27 = .ok (.invokevirtual 154, 3) := by decide +kernel
theorem dX9_end_30 : decode cX9_end 30 = .ok (.aload_n 0, 1) := by decide +kernel
theorem dX9_end_31 : decode cX9_end 31 = .ok (.getfield 150, 3) := by decide +kernel
theorem dX9_end_34 : decode cX9_end 34 = .ok (.bipush 64, 2) := by decide +kernel
theorem dX9_end_36 : decode cX9_end 36 = .ok (.iload_n 2, 1) := by decide +kernel
theorem dX9_end_37 : decode cX9_end 37 = .ok (.imul, 1) := by decide +kernel
theorem dX9_end_38 : decode cX9_end 38 = .ok (.iconst 4, 1) := by decide +kernel
theorem dX9_end_39 : decode cX9_end 39 = .ok (.isub, 1) := by decide +kernel
theorem dX9_end_40 : decode cX9_end 40 = .ok (.if_icmp .ge 11, 3) := by decide +kernel
theorem dX9_end_43 : decode cX9_end 43 = .ok (.aload_n 0, 1) := by decide +kernel
theorem dX9_end_44 : decode cX9_end 44 = .ok (.iconst 0, 1) := by decide +kernel
theorem dX9_end_45 : decode cX9_end 45 = .ok (.invokevirtual 154, 3) := by decide +kernel
theorem dX9_end_48 : decode cX9_end 48 = .ok (.goto (-18), 3) := by decide +kernel
theorem dX9_end_51 : decode cX9_end 51 = .ok (.aload_n 0, 1) := by decide +kernel
theorem dX9_end_52 : decode cX9_end 52 = .ok (.iload_n 1, 1) := by decide +kernel
theorem dX9_end_53 : decode cX9_end 53 = .ok (.bipush 24, 2) := by decide +kernel
theorem dX9_end_55 : decode cX9_end 55 = .ok (.iushr, 1) := by decide +kernel
theorem dX9_end_56 : decode cX9_end 56 = .ok (.invokevirtual 154, 3) := by decide +kernel
theorem dX9_end_59 : decode cX9_end 59 = .ok (.aload_n 0, 1) := by decide +kernel
theorem dX9_end_60 : decode cX9_end 60 = .ok (.iload_n 1, 1) := by decide +kernel
theorem dX9_end_61 : decode cX9_end 61 = .ok (.bipush 16, 2) := by decide +kernel
theorem dX9_end_63 : decode cX9_end 63 = .ok (.iushr, 1) := by decide +kernel
theorem dX9_end_64 : decode cX9_end 64 = .ok (.sipush 255, 3) := by decide +kernel
theorem dX9_end_67 : decode cX9_end 67 = .ok (.iand, 1) := by decide +kernel
theorem dX9_end_68 : decode cX9_end 68 = .ok (.invokevirtual 154, 3) := by decide +kernel
theorem dX9_end_71 : decode cX9_end 71 = .ok (.aload_n 0, 1) := by decide +kernel
theorem dX9_end_72 : decode cX9_end 72 = .ok (.iload_n 1, 1) := by decide +kernel
theorem dX9_end_73 : decode cX9_end 73 = .ok (.bipush 8, 2) := by decide +kernel
theorem dX9_end_75 : decode cX9_end 75 = .ok (.iushr, 1) := by decide +kernel
theorem dX9_end_76 : decode cX9_end 76 = .ok (.sipush 255, 3) := by decide +kernel
theorem dX9_end_79 : decode cX9_end 79 = .ok (.iand, 1) := by decide +kernel
theorem dX9_end_80 : decode cX9_end 80 = .ok (.invokevirtual 154, 3) := by decide +kernel
theorem dX9_end_83 : decode cX9_end 83 = .ok (.aload_n 0, 1) := by decide +kernel
theorem dX9_end_84 : decode cX9_end 84 = .ok (.iload_n 1, 1) := by decide +kernel
theorem dX9_end_85 : decode cX9_end 85 = .ok (.sipush 255, 3) := by decide +kernel
theorem dX9_end_88 : decode cX9_end 88 = .ok (.iand, 1) := by decide +kernel
theorem dX9_end_89 : decode cX9_end 89 = .ok (.invokevirtual 154, 3) := by decide +kernel
theorem dX9_end_92 : decode cX9_end 92 = .ok (.aload_n 0, 1) := by decide +kernel
theorem dX9_end_93 : decode cX9_end 93 = .ok (.getfield 16, 3) := by decide +kernel
theorem dX9_end_96 : decode cX9_end 96 = .ok (.iconst 0, 1) := by decide +kernel
theorem dX9_end_97 : decode cX9_end 97 = .ok (.ldc 162, 2) := by decide +kernel
theorem dX9_end_99 : decode cX9_end 99 = .ok (.iastore, 1) := by decide +kernel
theorem dX9_end_100 : decode cX9_end 100 = .ok (.aload_n 0, 1) := by decide +kernel
theorem dX9_end_101 : decode cX9_end 101 = .ok (.getfield 16, 3) := by decide +kernel
theorem dX9_end_104 : decode cX9_end 104 = .ok (.iconst 1, 1) := by decide +kernel
theorem dX9_end_105 : decode cX9_end 105 = .ok (.ldc 163, 2) := by decide +kernel
theorem dX9_end_107 : decode cX9_end 107 = .ok (.iastore, 1) := by decide +kernel
theorem dX9_end_108 : decode cX9_end 108 = .ok (.aload_n 0, 1) := by decide +kernel
theorem dX9_end_109 : decode cX9_end 109 = .ok (.getfield 16, 3) := by decide +kernel
theorem dX9_end_112 : decode cX9_end 112 = .ok (.iconst 2, 1) := by decide +kernel
theorem dX9_end_113 : decode cX9_end 113 = .ok (.ldc 164, 2) := by decide +kernel
theorem dX9_end_115 : decode cX9_end 115 = .ok (.iastore, 1) := by decide +kernel
theorem dX9_end_116 : decode cX9_end 116 = .ok (.aload_n 0, 1) := by decide +kernel
theorem dX9_end_117 : decode cX9_end 117 = .ok (.getfield 16, 3) := by decide +kernel
theorem dX9_end_120 : decode cX9_end 120 = .ok (.iconst 3, 1) := by decide +kernel
theorem dX9_end_121 : decode cX9_end 121 = .ok (.ldc 165, 2) := by decide +kernel
theorem dX9_end_123 : decode cX9_end 123 = .ok (.iastore, 1) := by decide +kernel
theorem dX9_end_124 : decode cX9_end 124 = .ok (.aload_n 0, 1) := by decide +kernel
theorem dX9_end_125 : decode cX9_end 125 = .ok (.getfield 16, 3) := by decide +kernel
theorem dX9_end_128 : decode cX9_end 128 = .ok (.iconst 4, 1) := by decide +kernel
theorem dX9_end_129 : decode cX9_end 129 = .ok (.ldc 166, 2) := by decide +kernel
theorem dX9_end_131 : decode cX9_end 131 = .ok (.iastore, 1) := by decide +kernel
theorem dX9_end_132 : decode cX9_end 132 = .ok (.aload_n 0, 1) := by decide +kernel
theorem dX9_end_133 : decode cX9_end 133 = .ok (.getfield 16, 3) := by decide +kernel
theorem dX9_end_136 : decode cX9_end 136 = .ok (.iconst 5, 1) := by decide +kernel
theorem dX9_end_137 : decode cX9_end 137 = .ok (.ldc 167, 2) := by decide +kernel
theorem dX9_end_139 : decode cX9_end 139 = .ok (.iastore, 1) := by decide +kernel
theorem dX9_end_140 : decode cX9_end 140 = .ok (.aload_n 0, 1) := by decide +kernel
theorem dX9_end_141 : decode cX9_end 141 = .ok (.getfield 16, 3) := by decide +kernel
theorem dX9_end_144 : decode cX9_end 144 = .ok (.bipush 6, 2) := by decide +kernel
theorem dX9_end_146 : decode cX9_end 146 = .ok (.ldc 168, 2) := by decide +kernel
theorem dX9_end_148 : decode cX9_end 148 = .ok (.iastore, 1) := by decide +kernel
theorem dX9_end_149 : decode cX9_end 149 = .ok (.aload_n 0, 1) := by decide +kernel
theorem dX9_end_150 : decode cX9_end 150 = .ok (.getfield 16, 3) := by decide +kernel
theorem dX9_end_153 : decode cX9_end 153 = .ok (.bipush 7, 2) := by decide +kernel
theorem dX9_end_155 : decode cX9_end 155 = .ok (.ldc 169, 2) := by decide +kernel
theorem dX9_end_157 : decode cX9_end 157 = .ok (.iastore, 1) := by decide +kernel
theorem dX9_end_158 : decode cX9_end 158 = .ok (.iconst 0, 1) := by decide +kernel
theorem dX9_end_159 : decode cX9_end 159 = .ok (.istore_n 3, 1) := by decide +kernel
theorem dX9_end_160 : decode cX9_end 160 = .ok (.iload_n 3, 1) := by decide +kernel
theorem dX9_end_161 : decode cX9_end 161 = .ok (.iload_n 2, 1) := by decide +kernel
theorem dX9_end_162 : decode cX9_end 162 = .ok (.if_icmp .ge 17, 3) := by decide +kernel
theorem dX9_end_165 : decode cX9_end 165 = .ok (.aload_n 0, 1) := by decide +kernel
theorem dX9_end_166 : decode cX9_end 166 = .ok (.bipush 64, 2) := by decide +kernel
theorem dX9_end_168 : decode cX9_end 168 = .ok (.iload_n 3, 1) := by decide +kernel
theorem dX9_end_169 : decode cX9_end 169 = .ok (.imul, 1) := by decide +kernel
theorem dX9_end_170 : decode cX9_end 170 = .ok (.invokevirtual 170, 3) := by decide +kernel
theorem dX9_end_173 : decode cX9_end 173 = .ok (.iinc 3 1, 3) := by decide +kernel
theorem dX9_end_176 : decode cX9_end 176 = .ok (.goto (-16), 3) := by decide +kernel
theorem dX9_end_179 : decode cX9_end 179 = .ok (.iconst 0, 1) := by decide +kernel
theorem dX9_end_180 : decode cX9_end 180 = .ok (.istore_n 3, 1) := by decide +kernel
theorem dX9_end_181 : decode cX9_end 181 = .ok (.iload_n 3, 1) := by decide +kernel
theorem dX9_end_182 : decode cX9_end 182 = .ok (.bipush 32, 2) := by decide +kernel
theorem dX9_end_184 : decode cX9_end 184 = .ok (.if_icmp .ge 37, 3) := by decide +kernel
theorem dX9_end_187 : decode cX9_end 187 = .ok (.aload_n 0, 1) := by decide +kernel
theorem dX9_end_188 : decode cX9_end 188 = .ok (.getfield 22, 3) := by decide +kernel
theorem dX9_end_191 : decode cX9_end 191 = .ok (.iload_n 3, 1) := by decide +kernel
theorem dX9_end_192 : decode cX9_end 192 = .ok (.aload_n 0, 1) := by decide +kernel
theorem dX9_end_193 : decode cX9_end 193 = .ok (.getfield 16, 3) := by decide +kernel
theorem dX9_end_196 : decode cX9_end 196 = .ok (.iload_n 3, 1) := by decide +kernel
theorem dX9_end_197 : decode cX9_end 197 = .ok (.iconst 4, 1) := by decide +kernel
theorem dX9_end_198 : decode cX9_end 198 = .ok (.idiv, 1) := by decide +kernel
theorem dX9_end_199 : decode cX9_end 199 = .ok (.iaload, 1) := by decide +kernel
theorem dX9_end_200 : decode cX9_end 200 = .ok (.bipush 24, 2) := by decide +kernel
theorem dX9_end_202 : decode cX9_end 202 = .ok (.bipush 8, 2) := by decide +kernel
theorem dX9_end_204 : decode cX9_end 204 = .ok (.iload_n 3, 1) := by decide +kernel
theorem dX9_end_205 : decode cX9_end 205 = .ok (.iconst 4, 1) := by decide +kernel
theorem dX9_end_206 : decode cX9_end 206 = .ok (.irem, 1) := by decide +kernel
theorem dX9_end_207 : decode cX9_end 207 = .ok (.imul, 1) := by decide +kernel
theorem dX9_end_208 : decode cX9_end 208 = .ok (.isub, 1) := by decide +kernel
theorem dX9_end_209 : decode cX9_end 209 = .ok (.iushr, 1) := by decide +kernel
theorem dX9_end_210 : decode cX9_end 210 = .ok (.sipush 255, 3) := by decide +kernel
theorem dX9_end_213 : decode cX9_end 213 = .ok (.iand, 1) := by decide +kernel
theorem dX9_end_214 : decode cX9_end 214 = .ok (.iastore, 1) := by decide +kernel
theorem dX9_end_215 : decode cX9_end 215 = .ok (.iinc 3 1, 3) := by decide +kernel
theorem dX9_end_218 : decode cX9_end 218 = .ok (.goto (-37), 3) := by decide +kernel
theorem dX9_end_221 : decode cX9_end 221 = .ok (.return_, 1) := by decide +kernel
theorem dX9_pair_0 : decode cX9_pair 0 = .ok (.aload_n 0, 1) := by decide +kernel
theorem dX9_pair_1 : decode cX9_pair 1 = .ok (.invokevirtual 173, 3) := by decide +kernel
theorem dX9_pair_4 : decode cX9_pair 4 = .ok (.aload_n 0, 1) := by decide +kernel
theorem dX9_pair_5 : decode cX9_pair 5 = .ok (.iconst 1, 1) := by decide +kernel
theorem dX9_pair_6 : decode cX9_pair 6 = .ok (.invokevirtual 154, 3) := by decide +kernel
theorem dX9_pair_9 : decode cX9_pair 9 = .ok (.aload_n 0, 1) := by decide +kernel
theorem dX9_pair_10 : decode cX9_pair 10 = .ok (.aload_n 1, 1) := by decide +kernel
theorem dX9_pair_11 : decode cX9_pair 11 = .ok (.iload_n 2, 1) := by decide +kernel
theorem dX9_pair_12 : decode cX9_pair 12 = .ok (.bipush 32, 2) := by decide +kernel
theorem dX9_pair_14 : decode cX9_pair 14 = .ok (.invokevirtual 176, 3) := by decide +kernel
theorem dX9_pair_17 : decode cX9_pair 17 = .ok (.aload_n 0, 1) := by decide +kernel
theorem dX9_pair_18 : decode cX9_pair 18 = .ok (.aload_n 3, 1) := by decide +kernel
theorem dX9_pair_19 : decode cX9_pair 19 = .ok (.iload 4, 2) := by decide +kernel
theorem dX9_pair_21 : decode cX9_pair 21 = .ok (.bipush 32, 2) := by decide +kernel
theorem dX9_pair_23 : decode cX9_pair 23 = .ok (.invokevirtual 176, 3) := by decide +kernel
theorem dX9_pair_26 : decode cX9_pair 26 = .ok (.aload_n 0, 1) := by decide +kernel
theorem dX9_pair_27 : decode cX9_pair 27 = .ok (.invokevirtual 180, 3) := by decide +kernel
theorem dX9_pair_30 : decode cX9_pair 30 = .ok (.return_, 1) := by decide +kernel
theorem dX9_leaf_0 : decode cX9_leaf 0 = .ok (.aload_n 0, 1) := by decide +kernel
theorem dX9_leaf_1 : decode cX9_leaf 1 = .ok (.invokevirtual 173, 3) := by decide +kernel
theorem dX9_leaf_4 : decode cX9_leaf 4 = .ok (.aload_n 0, 1) := by decide +kernel
theorem dX9_leaf_5 : decode cX9_leaf 5 = .ok (.iconst 0, 1) := by decide +kernel
theorem dX9_leaf_6 : decode cX9_leaf 6 = .ok (.invokevirtual 154, 3) := by decide +kernel
theorem dX9_leaf_9 : decode cX9_leaf 9 = .ok (.aload_n 0, 1) := by decide +kernel
theorem dX9_leaf_10 : decode cX9_leaf 10 = .ok (.aload_n 0, 1) := by decide +kernel
theorem dX9_leaf_11 : decode cX9_leaf 11 = .ok (.getfield 47, 3) := by decide +kernel
theorem dX9_leaf_14 : decode cX9_leaf 14 = .ok (.bipush 12, 2) := by decide +kernel
theorem dX9_leaf_16 : decode cX9_leaf 16 = .ok (.iload_n 1, 1) := by decide +kernel
theorem dX9_leaf_17 : decode cX9_leaf 17 = .ok (.imul, 1) := by decide +kernel
theorem dX9_leaf_18 : decode cX9_leaf 18 = .ok (.bipush 12, 2) := by decide +kernel
theorem dX9_leaf_20 : decode cX9_leaf 20 = .ok (.invokevirtual 176, 3) := by decide +kernel
theorem dX9_leaf_23 : decode cX9_leaf 23 = .ok (.aload_n 0, 1) := by decide +kernel
theorem dX9_leaf_24 : decode cX9_leaf 24 = .ok (.invokevirtual 180, 3) := by decide +kernel
theorem dX9_leaf_27 : decode cX9_leaf 27 = .ok (.return_, 1) := by decide +kernel
theorem dX9_lay_0 : decode cX9_lay 0 = .ok (.iconst 0, 1) := by decide +kernel
theorem dX9_lay_1 : decode cX9_lay 1 = .ok (.istore_n 3, 1) := by decide +kernel
theorem dX9_lay_2 : decode cX9_lay 2 = .ok (.iload_n 3, 1) := by decide +kernel
theorem dX9_lay_3 : decode cX9_lay 3 = .ok (.bipush 32, 2) := by decide +kernel
theorem dX9_lay_5 : decode cX9_lay 5 = .ok (.if_icmp .ge 20, 3) := by decide +kernel
theorem dX9_lay_8 : decode cX9_lay 8 = .ok (.aload_n 1, 1) := by decide +kernel
theorem dX9_lay_9 : decode cX9_lay 9 = .ok (.iload_n 2, 1) := by decide +kernel
theorem dX9_lay_10 : decode cX9_lay 10 = .ok (.iload_n 3, 1) := by decide +kernel
theorem dX9_lay_11 : decode cX9_lay 11 = .ok (.iadd, 1) := by decide +kernel
theorem dX9_lay_12 : decode cX9_lay 12 = .ok (.aload_n 0, 1) := by decide +kernel
theorem dX9_lay_13 : decode cX9_lay 13 = .ok (.getfield 22, 3) := by decide +kernel
theorem dX9_lay_16 : decode cX9_lay 16 = .ok (.iload_n 3, 1) := by decide +kernel
theorem dX9_lay_17 : decode cX9_lay 17 = .ok (.iaload, 1) := by decide +kernel
theorem dX9_lay_18 : decode cX9_lay 18 = .ok (.iastore, 1) := by decide +kernel
theorem dX9_lay_19 : decode cX9_lay 19 = .ok (.iinc 3 1, 3) := by decide +kernel
theorem dX9_lay_22 : decode cX9_lay 22 = .ok (.goto (-20), 3) := by decide +kernel
theorem dX9_lay_25 : decode cX9_lay 25 = .ok (.return_, 1) := by decide +kernel
theorem dX9_isSubject_0 : decode cX9_isSubject 0 = .ok (.iload_n 0, 1) := by decide +kernel
theorem dX9_isSubject_1 : decode cX9_isSubject 1 = .ok (.i2l, 1) := by decide +kernel
theorem dX9_isSubject_2 : decode cX9_isSubject 2 = .ok (.lconst 0, 1) := by decide +kernel
theorem dX9_isSubject_3 : decode cX9_isSubject 3 = .ok (.ldc2_w 183, 3) := by decide +kernel
theorem dX9_isSubject_6 : decode cX9_isSubject 6 = .ok (.invokestatic 185, 3) := by decide +kernel
theorem dX9_isSubject_9 : decode cX9_isSubject 9 = .ok (.ireturn, 1) := by decide +kernel
theorem dX9_isObject_0 : decode cX9_isObject 0 = .ok (.iload_n 0, 1) := by decide +kernel
theorem dX9_isObject_1 : decode cX9_isObject 1 = .ok (.i2l, 1) := by decide +kernel
theorem dX9_isObject_2 : decode cX9_isObject 2 = .ok (.lconst 0, 1) := by decide +kernel
theorem dX9_isObject_3 : decode cX9_isObject 3 = .ok (.ldc2_w 189, 3) := by decide +kernel
theorem dX9_isObject_6 : decode cX9_isObject 6 = .ok (.invokestatic 185, 3) := by decide +kernel
theorem dX9_isObject_9 : decode cX9_isObject 9 = .ok (.ireturn, 1) := by decide +kernel
theorem dX9_isTo_0 : decode cX9_isTo 0 = .ok (.iload_n 0, 1) := by decide +kernel
theorem dX9_isTo_1 : decode cX9_isTo 1 = .ok (.invokestatic 191, 3) := by decide +kernel
theorem dX9_isTo_4 : decode cX9_isTo 4 = .ok (.ifCond .ne 17, 3) := by decide +kernel
theorem dX9_isTo_7 : decode cX9_isTo 7 = .ok (.iload_n 0, 1) := by decide +kernel
theorem dX9_isTo_8 : decode cX9_isTo 8 = .ok (.i2l, 1) := by decide +kernel
theorem dX9_isTo_9 : decode cX9_isTo 9 = .ok (.ldc2_w 195, 3) := by decide +kernel
theorem dX9_isTo_12 : decode cX9_isTo 12 = .ok (.ldc2_w 197, 3) := by decide +kernel
theorem dX9_isTo_15 : decode cX9_isTo 15 = .ok (.invokestatic 185, 3) := by decide +kernel
theorem dX9_isTo_18 : decode cX9_isTo 18 = .ok (.ifCond .eq 7, 3) := by decide +kernel
theorem dX9_isTo_21 : decode cX9_isTo 21 = .ok (.iconst 1, 1) := by decide +kernel
theorem dX9_isTo_22 : decode cX9_isTo 22 = .ok (.goto 4, 3) := by decide +kernel
theorem dX9_isTo_25 : decode cX9_isTo 25 = .ok (.iconst 0, 1) := by decide +kernel
theorem dX9_isTo_26 : decode cX9_isTo 26 = .ok (.ireturn, 1) := by decide +kernel
theorem dX9_at_0 : decode cX9_at 0 = .ok (.bipush 64, 2) := by decide +kernel
theorem dX9_at_2 : decode cX9_at 2 = .ok (.iload_n 0, 1) := by decide +kernel
theorem dX9_at_3 : decode cX9_at 3 = .ok (.bipush 12, 2) := by decide +kernel
theorem dX9_at_5 : decode cX9_at 5 = .ok (.if_icmp .ge 7, 3) := by decide +kernel
theorem dX9_at_8 : decode cX9_at 8 = .ok (.iload_n 0, 1) := by decide +kernel
theorem dX9_at_9 : decode cX9_at 9 = .ok (.goto 6, 3) := by decide +kernel
theorem dX9_at_12 : decode cX9_at 12 = .ok (.iload_n 0, 1) := by decide +kernel
theorem dX9_at_13 : decode cX9_at 13 = .ok (.iconst 4, 1) := by decide +kernel
theorem dX9_at_14 : decode cX9_at 14 = .ok (.isub, 1) := by decide +kernel
theorem dX9_at_15 : decode cX9_at 15 = .ok (.imul, 1) := by decide +kernel
theorem dX9_at_16 : decode cX9_at 16 = .ok (.iconst 4, 1) := by decide +kernel
theorem dX9_at_17 : decode cX9_at 17 = .ok (.iload_n 1, 1) := by decide +kernel
theorem dX9_at_18 : decode cX9_at 18 = .ok (.imul, 1) := by decide +kernel
theorem dX9_at_19 : decode cX9_at 19 = .ok (.iadd, 1) := by decide +kernel
theorem dX9_at_20 : decode cX9_at 20 = .ok (.iload_n 2, 1) := by decide +kernel
theorem dX9_at_21 : decode cX9_at 21 = .ok (.iadd, 1) := by decide +kernel
theorem dX9_at_22 : decode cX9_at 22 = .ok (.ireturn, 1) := by decide +kernel
theorem dX9_clock_0 : decode cX9_clock 0 = .ok (.iload_n 1, 1) := by decide +kernel
theorem dX9_clock_1 : decode cX9_clock 1 = .ok (.i2l, 1) := by decide +kernel
theorem dX9_clock_2 : decode cX9_clock 2 = .ok (.lconst 0, 1) := by decide +kernel
theorem dX9_clock_3 : decode cX9_clock 3 = .ok (.ldc2_w 199, 3) := by decide +kernel
theorem dX9_clock_6 : decode cX9_clock 6 = .ok (.invokestatic 185, 3) := by decide +kernel
theorem dX9_clock_9 : decode cX9_clock 9 = .ok (.ifCond .eq 21, 3) := by decide +kernel
theorem dX9_clock_12 : decode cX9_clock 12 = .ok (.aload_n 0, 1) := by decide +kernel
theorem dX9_clock_13 : decode cX9_clock 13 = .ok (.getfield 201, 3) := by decide +kernel
theorem dX9_clock_16 : decode cX9_clock 16 = .ok (.i2l, 1) := by decide +kernel
theorem dX9_clock_17 : decode cX9_clock 17 = .ok (.iload_n 1, 1) := by decide +kernel
theorem dX9_clock_18 : decode cX9_clock 18 = .ok (.i2l, 1) := by decide +kernel
theorem dX9_clock_19 : decode cX9_clock 19 = .ok (.ladd, 1) := by decide +kernel
theorem dX9_clock_20 : decode cX9_clock 20 = .ok (.lconst 0, 1) := by decide +kernel
theorem dX9_clock_21 : decode cX9_clock 21 = .ok (.ldc2_w 204, 3) := by decide +kernel
theorem dX9_clock_24 : decode cX9_clock 24 = .ok (.invokestatic 185, 3) := by decide +kernel
theorem dX9_clock_27 : decode cX9_clock 27 = .ok (.ifCond .ne 6, 3) := by decide +kernel
theorem dX9_clock_30 : decode cX9_clock 30 = .ok (.bipush (-2), 2) := by decide +kernel
theorem dX9_clock_32 : decode cX9_clock 32 = .ok (.ireturn, 1) := by decide +kernel
theorem dX9_clock_33 : decode cX9_clock 33 = .ok (.aload_n 0, 1) := by decide +kernel
theorem dX9_clock_34 : decode cX9_clock 34 = .ok (.dup, 1) := by decide +kernel
theorem dX9_clock_35 : decode cX9_clock 35 = .ok (.getfield 201, 3) := by decide +kernel
theorem dX9_clock_38 : decode cX9_clock 38 = .ok (.iload_n 1, 1) := by decide +kernel
theorem dX9_clock_39 : decode cX9_clock 39 = .ok (.iadd, 1) := by decide +kernel
theorem dX9_clock_40 : decode cX9_clock 40 = .ok (.putfield 201, 3) := by decide +kernel
theorem dX9_clock_43 : decode cX9_clock 43 = .ok (.aload_n 0, 1) := by decide +kernel
theorem dX9_clock_44 : decode cX9_clock 44 = .ok (.getfield 201, 3) := by decide +kernel
theorem dX9_clock_47 : decode cX9_clock 47 = .ok (.ireturn, 1) := by decide +kernel
theorem dX9_entriesNow_0 : decode cX9_entriesNow 0 = .ok (.aload_n 0, 1) := by decide +kernel
theorem dX9_entriesNow_1 : decode cX9_entriesNow 1 = .ok (.getfield 206, 3) := by decide +kernel
theorem dX9_entriesNow_4 : decode cX9_entriesNow 4 = .ok (.ifCond .eq 7, 3) := by decide +kernel
theorem dX9_entriesNow_7 : decode cX9_entriesNow 7 = .ok (.iconst 0, 1) := by decide +kernel
theorem dX9_entriesNow_8 : decode cX9_entriesNow 8 = .ok (.goto 7, 3) := by decide +kernel
theorem dX9_entriesNow_11 : decode cX9_entriesNow 11 = .ok (.aload_n 0, 1) := by decide +kernel
theorem dX9_entriesNow_12 : decode cX9_entriesNow 12 = .ok (.getfield 210, 3) := by decide +kernel
theorem dX9_entriesNow_15 : decode cX9_entriesNow 15 = .ok (.ireturn, 1) := by decide +kernel
theorem dX9_bars_0 : decode cX9_bars 0 = .ok (.aload_n 0, 1) := by decide +kernel
theorem dX9_bars_1 : decode cX9_bars 1 = .ok (.getfield 206, 3) := by decide +kernel
theorem dX9_bars_4 : decode cX9_bars 4 = .ok (.ifCond .eq 8, 3) := by decide +kernel
theorem dX9_bars_7 : decode cX9_bars 7 = .ok (.bipush (-3), 2) := by decide +kernel
theorem dX9_bars_9 : decode cX9_bars 9 = .ok (.goto 18, 3) := by decide +kernel
theorem dX9_bars_12 : decode cX9_bars 12 = .ok (.aload_n 0, 1) := by decide +kernel
theorem dX9_bars_13 : decode cX9_bars 13 = .ok (.getfield 210, 3) := by decide +kernel
theorem dX9_bars_16 : decode cX9_bars 16 = .ok (.bipush 60, 2) := by decide +kernel
theorem dX9_bars_18 : decode cX9_bars 18 = .ok (.if_icmp .ne 8, 3) := by decide +kernel
theorem dX9_bars_21 : decode cX9_bars 21 = .ok (.bipush (-4), 2) := by decide +kernel
theorem dX9_bars_23 : decode cX9_bars 23 = .ok (.goto 4, 3) := by decide +kernel
theorem dX9_bars_26 : decode cX9_bars 26 = .ok (.iconst 0, 1) := by decide +kernel
theorem dX9_bars_27 : decode cX9_bars 27 = .ok (.ireturn, 1) := by decide +kernel
theorem dX9_goOn_0 : decode cX9_goOn 0 = .ok (.aload_n 0, 1) := by decide +kernel
theorem dX9_goOn_1 : decode cX9_goOn 1 = .ok (.invokevirtual 173, 3) := by decide +kernel
theorem dX9_goOn_4 : decode cX9_goOn 4 = .ok (.aload_n 0, 1) := by decide +kernel
theorem dX9_goOn_5 : decode cX9_goOn 5 = .ok (.aload_n 0, 1) := by decide +kernel
theorem dX9_goOn_6 : decode cX9_goOn 6 = .ok (.getfield 50, 3) := by decide +kernel
theorem dX9_goOn_9 : decode cX9_goOn 9 = .ok (.bipush 32, 2) := by decide +kernel
theorem dX9_goOn_11 : decode cX9_goOn 11 = .ok (.iload_n 1, 1) := by decide +kernel
theorem dX9_goOn_12 : decode cX9_goOn 12 = .ok (.imul, 1) := by decide +kernel
theorem dX9_goOn_13 : decode cX9_goOn 13 = .ok (.bipush 32, 2) := by decide +kernel
theorem dX9_goOn_15 : decode cX9_goOn 15 = .ok (.invokevirtual 176, 3) := by decide +kernel
theorem dX9_goOn_18 : decode cX9_goOn 18 = .ok (.aload_n 0, 1) := by decide +kernel
theorem dX9_goOn_19 : decode cX9_goOn 19 = .ok (.aload_n 0, 1) := by decide +kernel
theorem dX9_goOn_20 : decode cX9_goOn 20 = .ok (.getfield 47, 3) := by decide +kernel
theorem dX9_goOn_23 : decode cX9_goOn 23 = .ok (.bipush 12, 2) := by decide +kernel
theorem dX9_goOn_25 : decode cX9_goOn 25 = .ok (.iload_n 1, 1) := by decide +kernel
theorem dX9_goOn_26 : decode cX9_goOn 26 = .ok (.imul, 1) := by decide +kernel
theorem dX9_goOn_27 : decode cX9_goOn 27 = .ok (.bipush 12, 2) := by decide +kernel
theorem dX9_goOn_29 : decode cX9_goOn 29 = .ok (.invokevirtual 176, 3) := by decide +kernel
theorem dX9_goOn_32 : decode cX9_goOn 32 = .ok (.aload_n 0, 1) := by decide +kernel
theorem dX9_goOn_33 : decode cX9_goOn 33 = .ok (.invokevirtual 180, 3) := by decide +kernel
theorem dX9_goOn_36 : decode cX9_goOn 36 = .ok (.aload_n 0, 1) := by decide +kernel
theorem dX9_goOn_37 : decode cX9_goOn 37 = .ok (.aload_n 0, 1) := by decide +kernel
theorem dX9_goOn_38 : decode cX9_goOn 38 = .ok (.getfield 50, 3) := by decide +kernel
theorem dX9_goOn_41 : decode cX9_goOn 41 = .ok (.bipush 32, 2) := by decide +kernel
theorem dX9_goOn_43 : decode cX9_goOn 43 = .ok (.iload_n 1, 1) := by decide +kernel
theorem dX9_goOn_44 : decode cX9_goOn 44 = .ok (.imul, 1) := by decide +kernel
theorem dX9_goOn_45 : decode cX9_goOn 45 = .ok (.bipush 32, 2) := by decide +kernel
theorem dX9_goOn_47 : decode cX9_goOn 47 = .ok (.iadd, 1) := by decide +kernel
theorem dX9_goOn_48 : decode cX9_goOn 48 = .ok (.invokevirtual 213, 3) := by decide +kernel
theorem dX9_goOn_51 : decode cX9_goOn 51 = .ok (.return_, 1) := by decide +kernel
theorem dX9_comes_0 : decode cX9_comes 0 = .ok (.bipush 12, 2) := by decide +kernel
theorem dX9_comes_2 : decode cX9_comes 2 = .ok (.aload_n 0, 1) := by decide +kernel
theorem dX9_comes_3 : decode cX9_comes 3 = .ok (.getfield 210, 3) := by decide +kernel
theorem dX9_comes_6 : decode cX9_comes 6 = .ok (.imul, 1) := by decide +kernel
theorem dX9_comes_7 : decode cX9_comes 7 = .ok (.istore 6, 2) := by decide +kernel
theorem dX9_comes_9 : decode cX9_comes 9 = .ok (.aload_n 0, 1) := by decide +kernel
theorem dX9_comes_10 : decode cX9_comes 10 = .ok (.getfield 47, 3) := by decide +kernel
theorem dX9_comes_13 : decode cX9_comes 13 = .ok (.iload 6, 2) := by decide +kernel
theorem dX9_comes_15 : decode cX9_comes 15 = .ok (.aload_n 0, 1) := by decide +kernel
theorem dX9_comes_16 : decode cX9_comes 16 = .ok (.getfield 210, 3) := by decide +kernel
theorem dX9_comes_19 : decode cX9_comes 19 = .ok (.bipush 8, 2) := by decide +kernel
theorem dX9_comes_21 : decode cX9_comes 21 = .ok (.ishr, 1) := by decide +kernel
theorem dX9_comes_22 : decode cX9_comes 22 = .ok (.iastore, 1) := by decide +kernel
theorem dX9_comes_23 : decode cX9_comes 23 = .ok (.aload_n 0, 1) := by decide +kernel
theorem dX9_comes_24 : decode cX9_comes 24 = .ok (.getfield 47, 3) := by decide +kernel
theorem dX9_comes_27 : decode cX9_comes 27 = .ok (.iload 6, 2) := by decide +kernel
theorem dX9_comes_29 : decode cX9_comes 29 = .ok (.iconst 1, 1) := by decide +kernel
theorem dX9_comes_30 : decode cX9_comes 30 = .ok (.iadd, 1) := by decide +kernel
theorem dX9_comes_31 : decode cX9_comes 31 = .ok (.aload_n 0, 1) := by decide +kernel
theorem dX9_comes_32 : decode cX9_comes 32 = .ok (.getfield 210, 3) := by decide +kernel
theorem dX9_comes_35 : decode cX9_comes 35 = .ok (.sipush 255, 3) := by decide +kernel
theorem dX9_comes_38 : decode cX9_comes 38 = .ok (.iand, 1) := by decide +kernel
theorem dX9_comes_39 : decode cX9_comes 39 = .ok (.iastore, 1) := by decide +kernel
theorem dX9_comes_40 : decode cX9_comes 40 = .ok (.aload_n 0, 1) := by decide +kernel
theorem dX9_comes_41 : decode cX9_comes 41 = .ok (.getfield 47, 3) := by decide +kernel
theorem dX9_comes_44 : decode cX9_comes 44 = .ok (.iload 6, 2) := by decide +kernel
theorem dX9_comes_46 : decode cX9_comes 46 = .ok (.iconst 2, 1) := by decide +kernel
theorem dX9_comes_47 : decode cX9_comes 47 = .ok (.iadd, 1) := by decide +kernel
theorem dX9_comes_48 : decode cX9_comes 48 = .ok (.iload_n 1, 1) := by decide +kernel
theorem dX9_comes_49 : decode cX9_comes 49 = .ok (.iastore, 1) := by decide +kernel
theorem dX9_comes_50 : decode cX9_comes 50 = .ok (.aload_n 0, 1) := by decide +kernel
theorem dX9_comes_51 : decode cX9_comes 51 = .ok (.getfield 47, 3) := by decide +kernel
theorem dX9_comes_54 : decode cX9_comes 54 = .ok (.iload 6, 2) := by decide +kernel
theorem dX9_comes_56 : decode cX9_comes 56 = .ok (.iconst 3, 1) := by decide +kernel
theorem dX9_comes_57 : decode cX9_comes 57 = .ok (.iadd, 1) := by decide +kernel
theorem dX9_comes_58 : decode cX9_comes 58 = .ok (.iload_n 2, 1) := by decide +kernel
theorem dX9_comes_59 : decode cX9_comes 59 = .ok (.iastore, 1) := by decide +kernel
theorem dX9_comes_60 : decode cX9_comes 60 = .ok (.aload_n 0, 1) := by decide +kernel
theorem dX9_comes_61 : decode cX9_comes 61 = .ok (.getfield 47, 3) := by decide +kernel
theorem dX9_comes_64 : decode cX9_comes 64 = .ok (.iload 6, 2) := by decide +kernel
theorem dX9_comes_66 : decode cX9_comes 66 = .ok (.iconst 4, 1) := by decide +kernel
theorem dX9_comes_67 : decode cX9_comes 67 = .ok (.iadd, 1) := by decide +kernel
theorem dX9_comes_68 : decode cX9_comes 68 = .ok (.iload_n 3, 1) := by decide +kernel
theorem dX9_comes_69 : decode cX9_comes 69 = .ok (.iastore, 1) := by decide +kernel
theorem dX9_comes_70 : decode cX9_comes 70 = .ok (.aload_n 0, 1) := by decide +kernel
theorem dX9_comes_71 : decode cX9_comes 71 = .ok (.getfield 47, 3) := by decide +kernel
theorem dX9_comes_74 : decode cX9_comes 74 = .ok (.iload 6, 2) := by decide +kernel
theorem dX9_comes_76 : decode cX9_comes 76 = .ok (.iconst 5, 1) := by decide +kernel
theorem dX9_comes_77 : decode cX9_comes 77 = .ok (.iadd, 1) := by decide +kernel
theorem dX9_comes_78 : decode cX9_comes 78 = .ok (.iload 4, 2) := by decide +kernel
theorem dX9_comes_80 : decode cX9_comes 80 = .ok (.iastore, 1) := by decide +kernel
theorem dX9_comes_81 : decode cX9_comes 81 = .ok (.aload_n 0, 1) := by decide +kernel
theorem dX9_comes_82 : decode cX9_comes 82 = .ok (.getfield 47, 3) := by decide +kernel
theorem dX9_comes_85 : decode cX9_comes 85 = .ok (.iload 6, 2) := by decide +kernel
theorem dX9_comes_87 : decode cX9_comes 87 = .ok (.bipush 6, 2) := by decide +kernel
theorem dX9_comes_89 : decode cX9_comes 89 = .ok (.iadd, 1) := by decide +kernel
theorem dX9_comes_90 : decode cX9_comes 90 = .ok (.iload 5, 2) := by decide +kernel
theorem dX9_comes_92 : decode cX9_comes 92 = .ok (.iastore, 1) := by decide +kernel
theorem dX9_comes_93 : decode cX9_comes 93 = .ok (.aload_n 0, 1) := by decide +kernel
theorem dX9_comes_94 : decode cX9_comes 94 = .ok (.getfield 47, 3) := by decide +kernel
theorem dX9_comes_97 : decode cX9_comes 97 = .ok (.iload 6, 2) := by decide +kernel
theorem dX9_comes_99 : decode cX9_comes 99 = .ok (.bipush 7, 2) := by decide +kernel
theorem dX9_comes_101 : decode cX9_comes 101 = .ok (.iadd, 1) := by decide +kernel
theorem dX9_comes_102 : decode cX9_comes 102 = .ok (.sipush 165, 3) := by decide +kernel
theorem dX9_comes_105 : decode cX9_comes 105 = .ok (.iastore, 1) := by decide +kernel
theorem dX9_comes_106 : decode cX9_comes 106 = .ok (.iconst 0, 1) := by decide +kernel
theorem dX9_comes_107 : decode cX9_comes 107 = .ok (.istore 7, 2) := by decide +kernel
theorem dX9_comes_109 : decode cX9_comes 109 = .ok (.iload 7, 2) := by decide +kernel
theorem dX9_comes_111 : decode cX9_comes 111 = .ok (.iconst 4, 1) := by decide +kernel
theorem dX9_comes_112 : decode cX9_comes 112 = .ok (.if_icmp .ge 39, 3) := by decide +kernel
theorem dX9_comes_115 : decode cX9_comes 115 = .ok (.aload_n 0, 1) := by decide +kernel
theorem dX9_comes_116 : decode cX9_comes 116 = .ok (.getfield 47, 3) := by decide +kernel
theorem dX9_comes_119 : decode cX9_comes 119 = .ok (.iload 6, 2) := by decide +kernel
theorem dX9_comes_121 : decode cX9_comes 121 = .ok (.bipush 8, 2) := by decide +kernel
theorem dX9_comes_123 : decode cX9_comes 123 = .ok (.iadd, 1) := by decide +kernel
theorem dX9_comes_124 : decode cX9_comes 124 = .ok (.iload 7, 2) := by decide +kernel
theorem dX9_comes_126 : decode cX9_comes 126 = .ok (.iadd, 1) := by decide +kernel
theorem dX9_comes_127 : decode cX9_comes 127 = .ok (.aload_n 0, 1) := by decide +kernel
theorem dX9_comes_128 : decode cX9_comes 128 = .ok (.getfield 201, 3) := by decide +kernel
theorem dX9_comes_131 : decode cX9_comes 131 = .ok (.bipush 24, 2) := by decide +kernel
theorem dX9_comes_133 : decode cX9_comes 133 = .ok (.bipush 8, 2) := by decide +kernel
theorem dX9_comes_135 : decode cX9_comes 135 = .ok (.iload 7, 2) := by decide +kernel
theorem dX9_comes_137 : decode cX9_comes 137 = .ok (.imul, 1) := by decide +kernel
theorem dX9_comes_138 : decode cX9_comes 138 = .ok (.isub, 1) := by decide +kernel
theorem dX9_comes_139 : decode cX9_comes 139 = .ok (.iushr, 1) := by decide +kernel
theorem dX9_comes_140 : decode cX9_comes 140 = .ok (.sipush 255, 3) := by decide +kernel
theorem dX9_comes_143 : decode cX9_comes 143 = .ok (.iand, 1) := by decide +kernel
theorem dX9_comes_144 : decode cX9_comes 144 = .ok (.iastore, 1) := by decide +kernel
theorem dX9_comes_145 : decode cX9_comes 145 = .ok (.iinc 7 1, 3) := by decide +kernel
theorem dX9_comes_148 : decode cX9_comes 148 = .ok (.goto (-39), 3) := by decide +kernel
theorem dX9_comes_151 : decode cX9_comes 151 = .ok (.aload_n 0, 1) := by decide +kernel
theorem dX9_comes_152 : decode cX9_comes 152 = .ok (.aload_n 0, 1) := by decide +kernel
theorem dX9_comes_153 : decode cX9_comes 153 = .ok (.getfield 210, 3) := by decide +kernel
theorem dX9_comes_156 : decode cX9_comes 156 = .ok (.invokevirtual 217, 3) := by decide +kernel
theorem dX9_comes_159 : decode cX9_comes 159 = .ok (.bipush 17, 2) := by decide +kernel
theorem dX9_comes_161 : decode cX9_comes 161 = .ok (.aload_n 0, 1) := by decide +kernel
theorem dX9_comes_162 : decode cX9_comes 162 = .ok (.getfield 210, 3) := by decide +kernel
theorem dX9_comes_165 : decode cX9_comes 165 = .ok (.imul, 1) := by decide +kernel
theorem dX9_comes_166 : decode cX9_comes 166 = .ok (.istore 7, 2) := by decide +kernel
theorem dX9_comes_168 : decode cX9_comes 168 = .ok (.aload_n 0, 1) := by decide +kernel
theorem dX9_comes_169 : decode cX9_comes 169 = .ok (.getfield 53, 3) := by decide +kernel
theorem dX9_comes_172 : decode cX9_comes 172 = .ok (.iload 7, 2) := by decide +kernel
theorem dX9_comes_174 : decode cX9_comes 174 = .ok (.bipush 90, 2) := by decide +kernel
theorem dX9_comes_176 : decode cX9_comes 176 = .ok (.iastore, 1) := by decide +kernel
theorem dX9_comes_177 : decode cX9_comes 177 = .ok (.iconst 0, 1) := by decide +kernel
theorem dX9_comes_178 : decode cX9_comes 178 = .ok (.istore 8, 2) := by decide +kernel
theorem dX9_comes_180 : decode cX9_comes 180 = .ok (.iload 8, 2) := by decide +kernel
theorem dX9_comes_182 : decode cX9_comes 182 = .ok (.bipush 12, 2) := by decide +kernel
theorem dX9_comes_184 : decode cX9_comes 184 = .ok (.if_icmp .ge 31, 3) := by decide +kernel
theorem dX9_comes_187 : decode cX9_comes 187 = .ok (.aload_n 0, 1) := by decide +kernel
theorem dX9_comes_188 : decode cX9_comes 188 = .ok (.getfield 53, 3) := by decide +kernel
theorem dX9_comes_191 : decode cX9_comes 191 = .ok (.iload 7, 2) := by decide +kernel
theorem dX9_comes_193 : decode cX9_comes 193 = .ok (.iconst 1, 1) := by decide +kernel
theorem dX9_comes_194 : decode cX9_comes 194 = .ok (.iadd, 1) := by decide +kernel
theorem dX9_comes_195 : decode cX9_comes 195 = .ok (.iload 8, 2) := by decide +kernel
theorem dX9_comes_197 : decode cX9_comes 197 = .ok (.iadd, 1) := by decide +kernel
theorem dX9_comes_198 : decode cX9_comes 198 = .ok (.aload_n 0, 1) := by decide +kernel
theorem dX9_comes_199 : decode cX9_comes 199 = .ok (.getfield 47, 3) := by decide +kernel
theorem dX9_comes_202 : decode cX9_comes 202 = .ok (.iload 6, 2) := by decide +kernel
theorem dX9_comes_204 : decode cX9_comes 204 = .ok (.iload 8, 2) := by decide +kernel
theorem dX9_comes_206 : decode cX9_comes 206 = .ok (.iadd, 1) := by decide +kernel
theorem dX9_comes_207 : decode cX9_comes 207 = .ok (.iaload, 1) := by decide +kernel
theorem dX9_comes_208 : decode cX9_comes 208 = .ok (.iastore, 1) := by decide +kernel
theorem dX9_comes_209 : decode cX9_comes 209 = .ok (.iinc 8 1, 3) := by decide +kernel
theorem dX9_comes_212 : decode cX9_comes 212 = .ok (.goto (-32), 3) := by decide +kernel
theorem dX9_comes_215 : decode cX9_comes 215 = .ok (.iconst 0, 1) := by decide +kernel
theorem dX9_comes_216 : decode cX9_comes 216 = .ok (.istore 8, 2) := by decide +kernel
theorem dX9_comes_218 : decode cX9_comes 218 = .ok (.iload 8, 2) := by decide +kernel
theorem dX9_comes_220 : decode cX9_comes 220 = .ok (.iconst 4, 1) := by decide +kernel
theorem dX9_comes_221 : decode cX9_comes 221 = .ok (.if_icmp .ge 40, 3) := by decide +kernel
theorem dX9_comes_224 : decode cX9_comes 224 = .ok (.aload_n 0, 1) := by decide +kernel
theorem dX9_comes_225 : decode cX9_comes 225 = .ok (.getfield 53, 3) := by decide +kernel
theorem dX9_comes_228 : decode cX9_comes 228 = .ok (.iload 7, 2) := by decide +kernel
theorem dX9_comes_230 : decode cX9_comes 230 = .ok (.bipush 13, 2) := by decide +kernel
theorem dX9_comes_232 : decode cX9_comes 232 = .ok (.iadd, 1) := by decide +kernel
theorem dX9_comes_233 : decode cX9_comes 233 = .ok (.iload 8, 2) := by decide +kernel
theorem dX9_comes_235 : decode cX9_comes 235 = .ok (.iadd, 1) := by decide +kernel
theorem dX9_comes_236 : decode cX9_comes 236 = .ok (.aload_n 0, 1) := by decide +kernel
theorem dX9_comes_237 : decode cX9_comes 237 = .ok (.getfield 50, 3) := by decide +kernel
theorem dX9_comes_240 : decode cX9_comes 240 = .ok (.bipush 32, 2) := by decide +kernel
theorem dX9_comes_242 : decode cX9_comes 242 = .ok (.aload_n 0, 1) := by decide +kernel
theorem dX9_comes_243 : decode cX9_comes 243 = .ok (.getfield 210, 3) := by decide +kernel
theorem dX9_comes_246 : decode cX9_comes 246 = .ok (.imul, 1) := by decide +kernel
theorem dX9_comes_247 : decode cX9_comes 247 = .ok (.bipush 32, 2) := by decide +kernel
theorem dX9_comes_249 : decode cX9_comes 249 = .ok (.iadd, 1) := by decide +kernel
theorem dX9_comes_250 : decode cX9_comes 250 = .ok (.iload 8, 2) := by decide +kernel
theorem dX9_comes_252 : decode cX9_comes 252 = .ok (.iadd, 1) := by decide +kernel
theorem dX9_comes_253 : decode cX9_comes 253 = .ok (.iaload, 1) := by decide +kernel
theorem dX9_comes_254 : decode cX9_comes 254 = .ok (.iastore, 1) := by decide +kernel
theorem dX9_comes_255 : decode cX9_comes 255 = .ok (.iinc 8 1, 3) := by decide +kernel
theorem dX9_comes_258 : decode cX9_comes 258 = .ok (.goto (-40), 3) := by decide +kernel
theorem dX9_comes_261 : decode cX9_comes 261 = .ok (.aload_n 0, 1) := by decide +kernel
theorem dX9_comes_262 : decode cX9_comes 262 = .ok (.dup, 1) := by decide +kernel
theorem dX9_comes_263 : decode cX9_comes 263 = .ok (.getfield 210, 3) := by decide +kernel
theorem dX9_comes_266 : decode cX9_comes 266 = .ok (.iconst 1, 1) := by decide +kernel
theorem dX9_comes_267 : decode cX9_comes 267 = .ok (.iadd, 1) := by decide +kernel
theorem dX9_comes_268 : decode cX9_comes 268 = .ok (.putfield 210, 3) := by decide +kernel
theorem dX9_comes_271 : decode cX9_comes 271 = .ok (.aload_n 0, 1) := by decide +kernel
theorem dX9_comes_272 : decode cX9_comes 272 = .ok (.bipush 17, 2) := by decide +kernel
theorem dX9_comes_274 : decode cX9_comes 274 = .ok (.aload_n 0, 1) := by decide +kernel
theorem dX9_comes_275 : decode cX9_comes 275 = .ok (.getfield 210, 3) := by decide +kernel
theorem dX9_comes_278 : decode cX9_comes 278 = .ok (.imul, 1) := by decide +kernel
theorem dX9_comes_279 : decode cX9_comes 279 = .ok (.putfield 220, 3) := by decide +kernel
theorem dX9_comes_282 : decode cX9_comes 282 = .ok (.return_, 1) := by decide +kernel
theorem dX9_holds_0 : decode cX9_holds 0 = .ok (.aload_n 0, 1) := by decide +kernel
theorem dX9_holds_1 : decode cX9_holds 1 = .ok (.getfield 41, 3) := by decide +kernel
theorem dX9_holds_4 : decode cX9_holds 4 = .ok (.iload_n 2, 1) := by decide +kernel
theorem dX9_holds_5 : decode cX9_holds 5 = .ok (.iaload, 1) := by decide +kernel
theorem dX9_holds_6 : decode cX9_holds 6 = .ok (.iload_n 1, 1) := by decide +kernel
theorem dX9_holds_7 : decode cX9_holds 7 = .ok (.if_icmp .eq 39, 3) := by decide +kernel
theorem dX9_holds_10 : decode cX9_holds 10 = .ok (.aload_n 0, 1) := by decide +kernel
theorem dX9_holds_11 : decode cX9_holds 11 = .ok (.getfield 44, 3) := by decide +kernel
theorem dX9_holds_14 : decode cX9_holds 14 = .ok (.iload_n 1, 1) := by decide +kernel
theorem dX9_holds_15 : decode cX9_holds 15 = .ok (.iload_n 2, 1) := by decide +kernel
theorem dX9_holds_16 : decode cX9_holds 16 = .ok (.iload_n 3, 1) := by decide +kernel
theorem dX9_holds_17 : decode cX9_holds 17 = .ok (.invokestatic 223, 3) := by decide +kernel
theorem dX9_holds_20 : decode cX9_holds 20 = .ok (.baload, 1) := by decide +kernel
theorem dX9_holds_21 : decode cX9_holds 21 = .ok (.ifCond .ne 25, 3) := by decide +kernel
theorem dX9_holds_24 : decode cX9_holds 24 = .ok (.aload_n 0, 1) := by decide +kernel
theorem dX9_holds_25 : decode cX9_holds 25 = .ok (.getfield 44, 3) := by decide +kernel
theorem dX9_holds_28 : decode cX9_holds 28 = .ok (.bipush 16, 2) := by decide +kernel
theorem dX9_holds_30 : decode cX9_holds 30 = .ok (.aload_n 0, 1) := by decide +kernel
theorem dX9_holds_31 : decode cX9_holds 31 = .ok (.getfield 28, 3) := by decide +kernel
theorem dX9_holds_34 : decode cX9_holds 34 = .ok (.iload_n 1, 1) := by decide +kernel
theorem dX9_holds_35 : decode cX9_holds 35 = .ok (.iaload, 1) := by decide +kernel
theorem dX9_holds_36 : decode cX9_holds 36 = .ok (.iadd, 1) := by decide +kernel
theorem dX9_holds_37 : decode cX9_holds 37 = .ok (.iload_n 2, 1) := by decide +kernel
theorem dX9_holds_38 : decode cX9_holds 38 = .ok (.iload_n 3, 1) := by decide +kernel
theorem dX9_holds_39 : decode cX9_holds 39 = .ok (.invokestatic 223, 3) := by decide +kernel
theorem dX9_holds_42 : decode cX9_holds 42 = .ok (.baload, 1) := by decide +kernel
theorem dX9_holds_43 : decode cX9_holds 43 = .ok (.ifCond .eq 7, 3) := by decide +kernel
theorem dX9_holds_46 : decode cX9_holds 46 = .ok (.iconst 1, 1) := by decide +kernel
theorem dX9_holds_47 : decode cX9_holds 47 = .ok (.goto 4, 3) := by decide +kernel
theorem dX9_holds_50 : decode cX9_holds 50 = .ok (.iconst 0, 1) := by decide +kernel
theorem dX9_holds_51 : decode cX9_holds 51 = .ok (.ireturn, 1) := by decide +kernel
theorem dX9_causeOf_0 : decode cX9_causeOf 0 = .ok (.aload_n 0, 1) := by decide +kernel
theorem dX9_causeOf_1 : decode cX9_causeOf 1 = .ok (.getfield 31, 3) := by decide +kernel
theorem dX9_causeOf_4 : decode cX9_causeOf 4 = .ok (.iload_n 1, 1) := by decide +kernel
theorem dX9_causeOf_5 : decode cX9_causeOf 5 = .ok (.baload, 1) := by decide +kernel
theorem dX9_causeOf_6 : decode cX9_causeOf 6 = .ok (.ifCond .eq 5, 3) := by decide +kernel
theorem dX9_causeOf_9 : decode cX9_causeOf 9 = .ok (.iconst 1, 1) := by decide +kernel
theorem dX9_causeOf_10 : decode cX9_causeOf 10 = .ok (.ireturn, 1) := by decide +kernel
theorem dX9_causeOf_11 : decode cX9_causeOf 11 = .ok (.iload_n 3, 1) := by decide +kernel
theorem dX9_causeOf_12 : decode cX9_causeOf 12 = .ok (.iconst 2, 1) := by decide +kernel
theorem dX9_causeOf_13 : decode cX9_causeOf 13 = .ok (.if_icmp .ge 20, 3) := by decide +kernel
theorem dX9_causeOf_16 : decode cX9_causeOf 16 = .ok (.aload_n 0, 1) := by decide +kernel
theorem dX9_causeOf_17 : decode cX9_causeOf 17 = .ok (.getfield 25, 3) := by decide +kernel
theorem dX9_causeOf_20 : decode cX9_causeOf 20 = .ok (.iload_n 1, 1) := by decide +kernel
theorem dX9_causeOf_21 : decode cX9_causeOf 21 = .ok (.iaload, 1) := by decide +kernel
theorem dX9_causeOf_22 : decode cX9_causeOf 22 = .ok (.aload_n 0, 1) := by decide +kernel
theorem dX9_causeOf_23 : decode cX9_causeOf 23 = .ok (.getfield 38, 3) := by decide +kernel
theorem dX9_causeOf_26 : decode cX9_causeOf 26 = .ok (.iload_n 2, 1) := by decide +kernel
theorem dX9_causeOf_27 : decode cX9_causeOf 27 = .ok (.iaload, 1) := by decide +kernel
theorem dX9_causeOf_28 : decode cX9_causeOf 28 = .ok (.if_icmp .ge 5, 3) := by decide +kernel
theorem dX9_causeOf_31 : decode cX9_causeOf 31 = .ok (.iconst 2, 1) := by decide +kernel
theorem dX9_causeOf_32 : decode cX9_causeOf 32 = .ok (.ireturn, 1) := by decide +kernel
theorem dX9_causeOf_33 : decode cX9_causeOf 33 = .ok (.iload_n 3, 1) := by decide +kernel
theorem dX9_causeOf_34 : decode cX9_causeOf 34 = .ok (.iconst 1, 1) := by decide +kernel
theorem dX9_causeOf_35 : decode cX9_causeOf 35 = .ok (.if_icmp .eq 8, 3) := by decide +kernel
theorem dX9_causeOf_38 : decode cX9_causeOf 38 = .ok (.iload_n 3, 1) := by decide +kernel
theorem dX9_causeOf_39 : decode cX9_causeOf 39 = .ok (.iconst 2, 1) := by decide +kernel
theorem dX9_causeOf_40 : decode cX9_causeOf 40 = .ok (.if_icmp .ne 20, 3) := by decide +kernel
theorem dX9_causeOf_43 : decode cX9_causeOf 43 = .ok (.aload_n 0, 1) := by decide +kernel
theorem dX9_causeOf_44 : decode cX9_causeOf 44 = .ok (.getfield 25, 3) := by decide +kernel
theorem dX9_causeOf_47 : decode cX9_causeOf 47 = .ok (.iload_n 1, 1) := by decide +kernel
theorem dX9_causeOf_48 : decode cX9_causeOf 48 = .ok (.iaload, 1) := by decide +kernel
theorem dX9_causeOf_49 : decode cX9_causeOf 49 = .ok (.aload_n 0, 1) := by decide +kernel
theorem dX9_causeOf_50 : decode cX9_causeOf 50 = .ok (.getfield 38, 3) := by decide +kernel
theorem dX9_causeOf_53 : decode cX9_causeOf 53 = .ok (.iload_n 2, 1) := by decide +kernel
theorem dX9_causeOf_54 : decode cX9_causeOf 54 = .ok (.iaload, 1) := by decide +kernel
theorem dX9_causeOf_55 : decode cX9_causeOf 55 = .ok (.if_icmp .le 5, 3) := by decide +kernel
theorem dX9_causeOf_58 : decode cX9_causeOf 58 = .ok (.iconst 3, 1) := by decide +kernel
theorem dX9_causeOf_59 : decode cX9_causeOf 59 = .ok (.ireturn, 1) := by decide +kernel
theorem dX9_causeOf_60 : decode cX9_causeOf 60 = .ok (.aload_n 0, 1) := by decide +kernel
theorem dX9_causeOf_61 : decode cX9_causeOf 61 = .ok (.iload_n 1, 1) := by decide +kernel
theorem dX9_causeOf_62 : decode cX9_causeOf 62 = .ok (.iload_n 2, 1) := by decide +kernel
theorem dX9_causeOf_63 : decode cX9_causeOf 63 = .ok (.iload_n 3, 1) := by decide +kernel
theorem dX9_causeOf_64 : decode cX9_causeOf 64 = .ok (.invokevirtual 227, 3) := by decide +kernel
theorem dX9_causeOf_67 : decode cX9_causeOf 67 = .ok (.ifCond .eq 7, 3) := by decide +kernel
theorem dX9_causeOf_70 : decode cX9_causeOf 70 = .ok (.iconst 0, 1) := by decide +kernel
theorem dX9_causeOf_71 : decode cX9_causeOf 71 = .ok (.goto 4, 3) := by decide +kernel
theorem dX9_causeOf_74 : decode cX9_causeOf 74 = .ok (.iconst 4, 1) := by decide +kernel
theorem dX9_causeOf_75 : decode cX9_causeOf 75 = .ok (.ireturn, 1) := by decide +kernel
theorem dX9_request_0 : decode cX9_request 0 = .ok (.iload_n 1, 1) := by decide +kernel
theorem dX9_request_1 : decode cX9_request 1 = .ok (.invokestatic 191, 3) := by decide +kernel
theorem dX9_request_4 : decode cX9_request 4 = .ok (.ifCond .eq 22, 3) := by decide +kernel
theorem dX9_request_7 : decode cX9_request 7 = .ok (.iload_n 2, 1) := by decide +kernel
theorem dX9_request_8 : decode cX9_request 8 = .ok (.invokestatic 231, 3) := by decide +kernel
theorem dX9_request_11 : decode cX9_request 11 = .ok (.ifCond .eq 15, 3) := by decide +kernel
theorem dX9_request_14 : decode cX9_request 14 = .ok (.iload_n 3, 1) := by decide +kernel
theorem dX9_request_15 : decode cX9_request 15 = .ok (.i2l, 1) := by decide +kernel
theorem dX9_request_16 : decode cX9_request 16 = .ok (.lconst 0, 1) := by decide +kernel
theorem dX9_request_17 : decode cX9_request 17 = .ok (.ldc2_w 234, 3) := by decide +kernel
theorem dX9_request_20 : decode cX9_request 20 = .ok (.invokestatic 185, 3) := by decide +kernel
theorem dX9_request_23 : decode cX9_request 23 = .ok (.ifCond .ne 6, 3) := by decide +kernel
theorem dX9_request_26 : decode cX9_request 26 = .ok (.bipush (-2), 2) := by decide +kernel
theorem dX9_request_28 : decode cX9_request 28 = .ok (.ireturn, 1) := by decide +kernel
theorem dX9_request_29 : decode cX9_request 29 = .ok (.aload_n 0, 1) := by decide +kernel
theorem dX9_request_30 : decode cX9_request 30 = .ok (.invokevirtual 236, 3) := by decide +kernel
theorem dX9_request_33 : decode cX9_request 33 = .ok (.ifCond .ge 8, 3) := by decide +kernel
theorem dX9_request_36 : decode cX9_request 36 = .ok (.aload_n 0, 1) := by decide +kernel
theorem dX9_request_37 : decode cX9_request 37 = .ok (.invokevirtual 236, 3) := by decide +kernel
theorem dX9_request_40 : decode cX9_request 40 = .ok (.ireturn, 1) := by decide +kernel
theorem dX9_request_41 : decode cX9_request 41 = .ok (.aload_n 0, 1) := by decide +kernel
theorem dX9_request_42 : decode cX9_request 42 = .ok (.iload_n 1, 1) := by decide +kernel
theorem dX9_request_43 : decode cX9_request 43 = .ok (.iload_n 2, 1) := by decide +kernel
theorem dX9_request_44 : decode cX9_request 44 = .ok (.iload_n 3, 1) := by decide +kernel
theorem dX9_request_45 : decode cX9_request 45 = .ok (.invokevirtual 240, 3) := by decide +kernel
theorem dX9_request_48 : decode cX9_request 48 = .ok (.istore 4, 2) := by decide +kernel
theorem dX9_request_50 : decode cX9_request 50 = .ok (.iload 4, 2) := by decide +kernel
theorem dX9_request_52 : decode cX9_request 52 = .ok (.ifCond .ne 23, 3) := by decide +kernel
theorem dX9_request_55 : decode cX9_request 55 = .ok (.aload_n 0, 1) := by decide +kernel
theorem dX9_request_56 : decode cX9_request 56 = .ok (.getfield 35, 3) := by decide +kernel
theorem dX9_request_59 : decode cX9_request 59 = .ok (.iload_n 1, 1) := by decide +kernel
theorem dX9_request_60 : decode cX9_request 60 = .ok (.iconst 0, 1) := by decide +kernel
theorem dX9_request_61 : decode cX9_request 61 = .ok (.iastore, 1) := by decide +kernel
theorem dX9_request_62 : decode cX9_request 62 = .ok (.aload_n 0, 1) := by decide +kernel
theorem dX9_request_63 : decode cX9_request 63 = .ok (.dup, 1) := by decide +kernel
theorem dX9_request_64 : decode cX9_request 64 = .ok (.getfield 243, 3) := by decide +kernel
theorem dX9_request_67 : decode cX9_request 67 = .ok (.iconst 1, 1) := by decide +kernel
theorem dX9_request_68 : decode cX9_request 68 = .ok (.iadd, 1) := by decide +kernel
theorem dX9_request_69 : decode cX9_request 69 = .ok (.putfield 243, 3) := by decide +kernel
theorem dX9_request_72 : decode cX9_request 72 = .ok (.goto 47, 3) := by decide +kernel
theorem dX9_request_75 : decode cX9_request 75 = .ok (.aload_n 0, 1) := by decide +kernel
theorem dX9_request_76 : decode cX9_request 76 = .ok (.getfield 35, 3) := by decide +kernel
theorem dX9_request_79 : decode cX9_request 79 = .ok (.iload_n 1, 1) := by decide +kernel
theorem dX9_request_80 : decode cX9_request 80 = .ok (.dup2, 1) := by decide +kernel
theorem dX9_request_81 : decode cX9_request 81 = .ok (.iaload, 1) := by decide +kernel
theorem dX9_request_82 : decode cX9_request 82 = .ok (.iconst 1, 1) := by decide +kernel
theorem dX9_request_83 : decode cX9_request 83 = .ok (.iadd, 1) := by decide +kernel
theorem dX9_request_84 : decode cX9_request 84 = .ok (.iastore, 1) := by decide +kernel
theorem dX9_request_85 : decode cX9_request 85 = .ok (.aload_n 0, 1) := by decide +kernel
theorem dX9_request_86 : decode cX9_request 86 = .ok (.dup, 1) := by decide +kernel
theorem dX9_request_87 : decode cX9_request 87 = .ok (.getfield 246, 3) := by decide +kernel
theorem dX9_request_90 : decode cX9_request 90 = .ok (.iconst 1, 1) := by decide +kernel
theorem dX9_request_91 : decode cX9_request 91 = .ok (.iadd, 1) := by decide +kernel
theorem dX9_request_92 : decode cX9_request 92 = .ok (.putfield 246, 3) := by decide +kernel
theorem dX9_request_95 : decode cX9_request 95 = .ok (.aload_n 0, 1) := by decide +kernel
theorem dX9_request_96 : decode cX9_request 96 = .ok (.getfield 31, 3) := by decide +kernel
theorem dX9_request_99 : decode cX9_request 99 = .ok (.iload_n 1, 1) := by decide +kernel
theorem dX9_request_100 : decode cX9_request 100 = .ok (.dup2, 1) := by decide +kernel
theorem dX9_request_101 : decode cX9_request 101 = .ok (.baload, 1) := by decide +kernel
theorem dX9_request_102 : decode cX9_request 102 = .ok (.aload_n 0, 1) := by decide +kernel
theorem dX9_request_103 : decode cX9_request 103 = .ok (.getfield 35, 3) := by decide +kernel
theorem dX9_request_106 : decode cX9_request 106 = .ok (.iload_n 1, 1) := by decide +kernel
theorem dX9_request_107 : decode cX9_request 107 = .ok (.iaload, 1) := by decide +kernel
theorem dX9_request_108 : decode cX9_request 108 = .ok (.iconst 3, 1) := by decide +kernel
theorem dX9_request_109 : decode cX9_request 109 = .ok (.if_icmp .lt 7, 3) := by decide +kernel
theorem dX9_request_112 : decode cX9_request 112 = .ok (.iconst 1, 1) := by decide +kernel
theorem dX9_request_113 : decode cX9_request 113 = .ok (.goto 4, 3) := by decide +kernel
theorem dX9_request_116 : decode cX9_request 116 = .ok (.iconst 0, 1) := by decide +kernel
theorem dX9_request_117 : decode cX9_request 117 = .ok (.ior, 1) := by decide +kernel
theorem dX9_request_118 : decode cX9_request 118 = .ok (.bastore, 1) := by decide +kernel
theorem dX9_request_119 : decode cX9_request 119 = .ok (.aload_n 0, 1) := by decide +kernel
theorem dX9_request_120 : decode cX9_request 120 = .ok (.iconst 0, 1) := by decide +kernel
theorem dX9_request_121 : decode cX9_request 121 = .ok (.iload_n 1, 1) := by decide +kernel
theorem dX9_request_122 : decode cX9_request 122 = .ok (.iload_n 2, 1) := by decide +kernel
theorem dX9_request_123 : decode cX9_request 123 = .ok (.iload_n 3, 1) := by decide +kernel
theorem dX9_request_124 : decode cX9_request 124 = .ok (.iload 4, 2) := by decide +kernel
theorem dX9_request_126 : decode cX9_request 126 = .ok (.invokevirtual 249, 3) := by decide +kernel
theorem dX9_request_129 : decode cX9_request 129 = .ok (.iload 4, 2) := by decide +kernel
theorem dX9_request_131 : decode cX9_request 131 = .ok (.ireturn, 1) := by decide +kernel
theorem dX9_becomes_0 : decode cX9_becomes 0 = .ok (.iload_n 1, 1) := by decide +kernel
theorem dX9_becomes_1 : decode cX9_becomes 1 = .ok (.invokestatic 253, 3) := by decide +kernel
theorem dX9_becomes_4 : decode cX9_becomes 4 = .ok (.ifCond .eq 22, 3) := by decide +kernel
theorem dX9_becomes_7 : decode cX9_becomes 7 = .ok (.iload_n 2, 1) := by decide +kernel
theorem dX9_becomes_8 : decode cX9_becomes 8 = .ok (.invokestatic 231, 3) := by decide +kernel
theorem dX9_becomes_11 : decode cX9_becomes 11 = .ok (.ifCond .eq 15, 3) := by decide +kernel
theorem dX9_becomes_14 : decode cX9_becomes 14 = .ok (.iload_n 3, 1) := by decide +kernel
theorem dX9_becomes_15 : decode cX9_becomes 15 = .ok (.i2l, 1) := by decide +kernel
theorem dX9_becomes_16 : decode cX9_becomes 16 = .ok (.lconst 0, 1) := by decide +kernel
theorem dX9_becomes_17 : decode cX9_becomes 17 = .ok (.ldc2_w 234, 3) := by decide +kernel
theorem dX9_becomes_20 : decode cX9_becomes 20 = .ok (.invokestatic 185, 3) := by decide +kernel
theorem dX9_becomes_23 : decode cX9_becomes 23 = .ok (.ifCond .ne 6, 3) := by decide +kernel
theorem dX9_becomes_26 : decode cX9_becomes 26 = .ok (.bipush (-2), 2) := by decide +kernel
theorem dX9_becomes_28 : decode cX9_becomes 28 = .ok (.ireturn, 1) := by decide +kernel
theorem dX9_becomes_29 : decode cX9_becomes 29 = .ok (.aload_n 0, 1) := by decide +kernel
theorem dX9_becomes_30 : decode cX9_becomes 30 = .ok (.invokevirtual 236, 3) := by decide +kernel
theorem dX9_becomes_33 : decode cX9_becomes 33 = .ok (.ifCond .ge 8, 3) := by decide +kernel
theorem dX9_becomes_36 : decode cX9_becomes 36 = .ok (.aload_n 0, 1) := by decide +kernel
theorem dX9_becomes_37 : decode cX9_becomes 37 = .ok (.invokevirtual 236, 3) := by decide +kernel
theorem dX9_becomes_40 : decode cX9_becomes 40 = .ok (.ireturn, 1) := by decide +kernel
theorem dX9_becomes_41 : decode cX9_becomes 41 = .ok (.iload_n 1, 1) := by decide +kernel
theorem dX9_becomes_42 : decode cX9_becomes 42 = .ok (.iload_n 2, 1) := by decide +kernel
theorem dX9_becomes_43 : decode cX9_becomes 43 = .ok (.iload_n 3, 1) := by decide +kernel
theorem dX9_becomes_44 : decode cX9_becomes 44 = .ok (.invokestatic 223, 3) := by decide +kernel
theorem dX9_becomes_47 : decode cX9_becomes 47 = .ok (.istore 5, 2) := by decide +kernel
theorem dX9_becomes_49 : decode cX9_becomes 49 = .ok (.aload_n 0, 1) := by decide +kernel
theorem dX9_becomes_50 : decode cX9_becomes 50 = .ok (.getfield 44, 3) := by decide +kernel
theorem dX9_becomes_53 : decode cX9_becomes 53 = .ok (.iload 5, 2) := by decide +kernel
theorem dX9_becomes_55 : decode cX9_becomes 55 = .ok (.baload, 1) := by decide +kernel
theorem dX9_becomes_56 : decode cX9_becomes 56 = .ok (.iload 4, 2) := by decide +kernel
theorem dX9_becomes_58 : decode cX9_becomes 58 = .ok (.if_icmp .ne 7, 3) := by decide +kernel
theorem dX9_becomes_61 : decode cX9_becomes 61 = .ok (.iconst 0, 1) := by decide +kernel
theorem dX9_becomes_62 : decode cX9_becomes 62 = .ok (.goto 4, 3) := by decide +kernel
theorem dX9_becomes_65 : decode cX9_becomes 65 = .ok (.iconst 1, 1) := by decide +kernel
theorem dX9_becomes_66 : decode cX9_becomes 66 = .ok (.istore 6, 2) := by decide +kernel
theorem dX9_becomes_68 : decode cX9_becomes 68 = .ok (.aload_n 0, 1) := by decide +kernel
theorem dX9_becomes_69 : decode cX9_becomes 69 = .ok (.getfield 44, 3) := by decide +kernel
theorem dX9_becomes_72 : decode cX9_becomes 72 = .ok (.iload 5, 2) := by decide +kernel
theorem dX9_becomes_74 : decode cX9_becomes 74 = .ok (.iload 4, 2) := by decide +kernel
theorem dX9_becomes_76 : decode cX9_becomes 76 = .ok (.bastore, 1) := by decide +kernel
theorem dX9_becomes_77 : decode cX9_becomes 77 = .ok (.aload_n 0, 1) := by decide +kernel
theorem dX9_becomes_78 : decode cX9_becomes 78 = .ok (.iload 4, 2) := by decide +kernel
theorem dX9_becomes_80 : decode cX9_becomes 80 = .ok (.ifCond .eq 7, 3) := by decide +kernel
theorem dX9_becomes_83 : decode cX9_becomes 83 = .ok (.iconst 1, 1) := by decide +kernel
theorem dX9_becomes_84 : decode cX9_becomes 84 = .ok (.goto 4, 3) := by decide +kernel
theorem dX9_becomes_87 : decode cX9_becomes 87 = .ok (.iconst 2, 1) := by decide +kernel
theorem dX9_becomes_88 : decode cX9_becomes 88 = .ok (.iload_n 1, 1) := by decide +kernel
theorem dX9_becomes_89 : decode cX9_becomes 89 = .ok (.iload_n 2, 1) := by decide +kernel
theorem dX9_becomes_90 : decode cX9_becomes 90 = .ok (.iload_n 3, 1) := by decide +kernel
theorem dX9_becomes_91 : decode cX9_becomes 91 = .ok (.iconst 0, 1) := by decide +kernel
theorem dX9_becomes_92 : decode cX9_becomes 92 = .ok (.invokevirtual 249, 3) := by decide +kernel
theorem dX9_becomes_95 : decode cX9_becomes 95 = .ok (.iload 6, 2) := by decide +kernel
theorem dX9_becomes_97 : decode cX9_becomes 97 = .ok (.ireturn, 1) := by decide +kernel
theorem dX9_give_0 : decode cX9_give 0 = .ok (.aload_n 0, 1) := by decide +kernel
theorem dX9_give_1 : decode cX9_give 1 = .ok (.iload_n 1, 1) := by decide +kernel
theorem dX9_give_2 : decode cX9_give 2 = .ok (.iload_n 2, 1) := by decide +kernel
theorem dX9_give_3 : decode cX9_give 3 = .ok (.iload_n 3, 1) := by decide +kernel
theorem dX9_give_4 : decode cX9_give 4 = .ok (.iconst 1, 1) := by decide +kernel
theorem dX9_give_5 : decode cX9_give 5 = .ok (.invokevirtual 256, 3) := by decide +kernel
theorem dX9_give_8 : decode cX9_give 8 = .ok (.ireturn, 1) := by decide +kernel
theorem dX9_take_0 : decode cX9_take 0 = .ok (.aload_n 0, 1) := by decide +kernel
theorem dX9_take_1 : decode cX9_take 1 = .ok (.iload_n 1, 1) := by decide +kernel
theorem dX9_take_2 : decode cX9_take 2 = .ok (.iload_n 2, 1) := by decide +kernel
theorem dX9_take_3 : decode cX9_take 3 = .ok (.iload_n 3, 1) := by decide +kernel
theorem dX9_take_4 : decode cX9_take 4 = .ok (.iconst 0, 1) := by decide +kernel
theorem dX9_take_5 : decode cX9_take 5 = .ok (.invokevirtual 256, 3) := by decide +kernel
theorem dX9_take_8 : decode cX9_take 8 = .ok (.ireturn, 1) := by decide +kernel
theorem dX9_subject_0 : decode cX9_subject 0 = .ok (.iload_n 1, 1) := by decide +kernel
theorem dX9_subject_1 : decode cX9_subject 1 = .ok (.invokestatic 191, 3) := by decide +kernel
theorem dX9_subject_4 : decode cX9_subject 4 = .ok (.ifCond .eq 27, 3) := by decide +kernel
theorem dX9_subject_7 : decode cX9_subject 7 = .ok (.iload_n 2, 1) := by decide +kernel
theorem dX9_subject_8 : decode cX9_subject 8 = .ok (.i2l, 1) := by decide +kernel
theorem dX9_subject_9 : decode cX9_subject 9 = .ok (.lconst 0, 1) := by decide +kernel
theorem dX9_subject_10 : decode cX9_subject 10 = .ok (.ldc2_w 260, 3) := by decide +kernel
theorem dX9_subject_13 : decode cX9_subject 13 = .ok (.invokestatic 185, 3) := by decide +kernel
theorem dX9_subject_16 : decode cX9_subject 16 = .ok (.ifCond .eq 15, 3) := by decide +kernel
theorem dX9_subject_19 : decode cX9_subject 19 = .ok (.iload_n 3, 1) := by decide +kernel
theorem dX9_subject_20 : decode cX9_subject 20 = .ok (.i2l, 1) := by decide +kernel
theorem dX9_subject_21 : decode cX9_subject 21 = .ok (.lconst 0, 1) := by decide +kernel
theorem dX9_subject_22 : decode cX9_subject 22 = .ok (.ldc2_w 234, 3) := by decide +kernel
theorem dX9_subject_25 : decode cX9_subject 25 = .ok (.invokestatic 185, 3) := by decide +kernel
theorem dX9_subject_28 : decode cX9_subject 28 = .ok (.ifCond .ne 6, 3) := by decide +kernel
theorem dX9_subject_31 : decode cX9_subject 31 = .ok (.bipush (-2), 2) := by decide +kernel
theorem dX9_subject_33 : decode cX9_subject 33 = .ok (.ireturn, 1) := by decide +kernel
theorem dX9_subject_34 : decode cX9_subject 34 = .ok (.aload_n 0, 1) := by decide +kernel
theorem dX9_subject_35 : decode cX9_subject 35 = .ok (.invokevirtual 236, 3) := by decide +kernel
theorem dX9_subject_38 : decode cX9_subject 38 = .ok (.ifCond .ge 8, 3) := by decide +kernel
theorem dX9_subject_41 : decode cX9_subject 41 = .ok (.aload_n 0, 1) := by decide +kernel
theorem dX9_subject_42 : decode cX9_subject 42 = .ok (.invokevirtual 236, 3) := by decide +kernel
theorem dX9_subject_45 : decode cX9_subject 45 = .ok (.ireturn, 1) := by decide +kernel
theorem dX9_subject_46 : decode cX9_subject 46 = .ok (.aload_n 0, 1) := by decide +kernel
theorem dX9_subject_47 : decode cX9_subject 47 = .ok (.getfield 25, 3) := by decide +kernel
theorem dX9_subject_50 : decode cX9_subject 50 = .ok (.iload_n 1, 1) := by decide +kernel
theorem dX9_subject_51 : decode cX9_subject 51 = .ok (.iload_n 2, 1) := by decide +kernel
theorem dX9_subject_52 : decode cX9_subject 52 = .ok (.iastore, 1) := by decide +kernel
theorem dX9_subject_53 : decode cX9_subject 53 = .ok (.aload_n 0, 1) := by decide +kernel
theorem dX9_subject_54 : decode cX9_subject 54 = .ok (.getfield 28, 3) := by decide +kernel
theorem dX9_subject_57 : decode cX9_subject 57 = .ok (.iload_n 1, 1) := by decide +kernel
theorem dX9_subject_58 : decode cX9_subject 58 = .ok (.iload_n 3, 1) := by decide +kernel
theorem dX9_subject_59 : decode cX9_subject 59 = .ok (.iastore, 1) := by decide +kernel
theorem dX9_subject_60 : decode cX9_subject 60 = .ok (.aload_n 0, 1) := by decide +kernel
theorem dX9_subject_61 : decode cX9_subject 61 = .ok (.iconst 3, 1) := by decide +kernel
theorem dX9_subject_62 : decode cX9_subject 62 = .ok (.iload_n 1, 1) := by decide +kernel
theorem dX9_subject_63 : decode cX9_subject 63 = .ok (.iload_n 2, 1) := by decide +kernel
theorem dX9_subject_64 : decode cX9_subject 64 = .ok (.iload_n 3, 1) := by decide +kernel
theorem dX9_subject_65 : decode cX9_subject 65 = .ok (.iconst 0, 1) := by decide +kernel
theorem dX9_subject_66 : decode cX9_subject 66 = .ok (.invokevirtual 249, 3) := by decide +kernel
theorem dX9_subject_69 : decode cX9_subject 69 = .ok (.iconst 1, 1) := by decide +kernel
theorem dX9_subject_70 : decode cX9_subject 70 = .ok (.ireturn, 1) := by decide +kernel
theorem dX9_object_0 : decode cX9_object 0 = .ok (.iload_n 1, 1) := by decide +kernel
theorem dX9_object_1 : decode cX9_object 1 = .ok (.invokestatic 231, 3) := by decide +kernel
theorem dX9_object_4 : decode cX9_object 4 = .ok (.ifCond .eq 22, 3) := by decide +kernel
theorem dX9_object_7 : decode cX9_object 7 = .ok (.iload_n 2, 1) := by decide +kernel
theorem dX9_object_8 : decode cX9_object 8 = .ok (.i2l, 1) := by decide +kernel
theorem dX9_object_9 : decode cX9_object 9 = .ok (.lconst 0, 1) := by decide +kernel
theorem dX9_object_10 : decode cX9_object 10 = .ok (.ldc2_w 260, 3) := by decide +kernel
theorem dX9_object_13 : decode cX9_object 13 = .ok (.invokestatic 185, 3) := by decide +kernel
theorem dX9_object_16 : decode cX9_object 16 = .ok (.ifCond .eq 10, 3) := by decide +kernel
theorem dX9_object_19 : decode cX9_object 19 = .ok (.iload_n 3, 1) := by decide +kernel
theorem dX9_object_20 : decode cX9_object 20 = .ok (.invokestatic 191, 3) := by decide +kernel
theorem dX9_object_23 : decode cX9_object 23 = .ok (.ifCond .ne 6, 3) := by decide +kernel
theorem dX9_object_26 : decode cX9_object 26 = .ok (.bipush (-2), 2) := by decide +kernel
theorem dX9_object_28 : decode cX9_object 28 = .ok (.ireturn, 1) := by decide +kernel
theorem dX9_object_29 : decode cX9_object 29 = .ok (.aload_n 0, 1) := by decide +kernel
theorem dX9_object_30 : decode cX9_object 30 = .ok (.invokevirtual 236, 3) := by decide +kernel
theorem dX9_object_33 : decode cX9_object 33 = .ok (.ifCond .ge 8, 3) := by decide +kernel
theorem dX9_object_36 : decode cX9_object 36 = .ok (.aload_n 0, 1) := by decide +kernel
theorem dX9_object_37 : decode cX9_object 37 = .ok (.invokevirtual 236, 3) := by decide +kernel
theorem dX9_object_40 : decode cX9_object 40 = .ok (.ireturn, 1) := by decide +kernel
theorem dX9_object_41 : decode cX9_object 41 = .ok (.aload_n 0, 1) := by decide +kernel
theorem dX9_object_42 : decode cX9_object 42 = .ok (.getfield 38, 3) := by decide +kernel
theorem dX9_object_45 : decode cX9_object 45 = .ok (.iload_n 1, 1) := by decide +kernel
theorem dX9_object_46 : decode cX9_object 46 = .ok (.iload_n 2, 1) := by decide +kernel
theorem dX9_object_47 : decode cX9_object 47 = .ok (.iastore, 1) := by decide +kernel
theorem dX9_object_48 : decode cX9_object 48 = .ok (.aload_n 0, 1) := by decide +kernel
theorem dX9_object_49 : decode cX9_object 49 = .ok (.getfield 41, 3) := by decide +kernel
theorem dX9_object_52 : decode cX9_object 52 = .ok (.iload_n 1, 1) := by decide +kernel
theorem dX9_object_53 : decode cX9_object 53 = .ok (.iload_n 3, 1) := by decide +kernel
theorem dX9_object_54 : decode cX9_object 54 = .ok (.iastore, 1) := by decide +kernel
theorem dX9_object_55 : decode cX9_object 55 = .ok (.aload_n 0, 1) := by decide +kernel
theorem dX9_object_56 : decode cX9_object 56 = .ok (.iconst 4, 1) := by decide +kernel
theorem dX9_object_57 : decode cX9_object 57 = .ok (.iload_n 1, 1) := by decide +kernel
theorem dX9_object_58 : decode cX9_object 58 = .ok (.iload_n 2, 1) := by decide +kernel
theorem dX9_object_59 : decode cX9_object 59 = .ok (.iload_n 3, 1) := by decide +kernel
theorem dX9_object_60 : decode cX9_object 60 = .ok (.iconst 0, 1) := by decide +kernel
theorem dX9_object_61 : decode cX9_object 61 = .ok (.invokevirtual 249, 3) := by decide +kernel
theorem dX9_object_64 : decode cX9_object 64 = .ok (.iconst 1, 1) := by decide +kernel
theorem dX9_object_65 : decode cX9_object 65 = .ok (.ireturn, 1) := by decide +kernel
theorem dX9_unlock_0 : decode cX9_unlock 0 = .ok (.iload_n 1, 1) := by decide +kernel
theorem dX9_unlock_1 : decode cX9_unlock 1 = .ok (.invokestatic 191, 3) := by decide +kernel
theorem dX9_unlock_4 : decode cX9_unlock 4 = .ok (.ifCond .ne 6, 3) := by decide +kernel
theorem dX9_unlock_7 : decode cX9_unlock 7 = .ok (.bipush (-2), 2) := by decide +kernel
theorem dX9_unlock_9 : decode cX9_unlock 9 = .ok (.ireturn, 1) := by decide +kernel
theorem dX9_unlock_10 : decode cX9_unlock 10 = .ok (.aload_n 0, 1) := by decide +kernel
theorem dX9_unlock_11 : decode cX9_unlock 11 = .ok (.invokevirtual 236, 3) := by decide +kernel
theorem dX9_unlock_14 : decode cX9_unlock 14 = .ok (.ifCond .ge 8, 3) := by decide +kernel
theorem dX9_unlock_17 : decode cX9_unlock 17 = .ok (.aload_n 0, 1) := by decide +kernel
theorem dX9_unlock_18 : decode cX9_unlock 18 = .ok (.invokevirtual 236, 3) := by decide +kernel
theorem dX9_unlock_21 : decode cX9_unlock 21 = .ok (.ireturn, 1) := by decide +kernel
theorem dX9_unlock_22 : decode cX9_unlock 22 = .ok (.aload_n 0, 1) := by decide +kernel
theorem dX9_unlock_23 : decode cX9_unlock 23 = .ok (.getfield 31, 3) := by decide +kernel
theorem dX9_unlock_26 : decode cX9_unlock 26 = .ok (.iload_n 1, 1) := by decide +kernel
theorem dX9_unlock_27 : decode cX9_unlock 27 = .ok (.baload, 1) := by decide +kernel
theorem dX9_unlock_28 : decode cX9_unlock 28 = .ok (.ifCond .eq 7, 3) := by decide +kernel
theorem dX9_unlock_31 : decode cX9_unlock 31 = .ok (.iconst 1, 1) := by decide +kernel
theorem dX9_unlock_32 : decode cX9_unlock 32 = .ok (.goto 4, 3) := by decide +kernel
theorem dX9_unlock_35 : decode cX9_unlock 35 = .ok (.iconst 0, 1) := by decide +kernel
theorem dX9_unlock_36 : decode cX9_unlock 36 = .ok (.istore_n 2, 1) := by decide +kernel
theorem dX9_unlock_37 : decode cX9_unlock 37 = .ok (.aload_n 0, 1) := by decide +kernel
theorem dX9_unlock_38 : decode cX9_unlock 38 = .ok (.getfield 31, 3) := by decide +kernel
theorem dX9_unlock_41 : decode cX9_unlock 41 = .ok (.iload_n 1, 1) := by decide +kernel
theorem dX9_unlock_42 : decode cX9_unlock 42 = .ok (.iconst 0, 1) := by decide +kernel
theorem dX9_unlock_43 : decode cX9_unlock 43 = .ok (.bastore, 1) := by decide +kernel
theorem dX9_unlock_44 : decode cX9_unlock 44 = .ok (.aload_n 0, 1) := by decide +kernel
theorem dX9_unlock_45 : decode cX9_unlock 45 = .ok (.getfield 35, 3) := by decide +kernel
theorem dX9_unlock_48 : decode cX9_unlock 48 = .ok (.iload_n 1, 1) := by decide +kernel
theorem dX9_unlock_49 : decode cX9_unlock 49 = .ok (.iconst 0, 1) := by decide +kernel
theorem dX9_unlock_50 : decode cX9_unlock 50 = .ok (.iastore, 1) := by decide +kernel
theorem dX9_unlock_51 : decode cX9_unlock 51 = .ok (.aload_n 0, 1) := by decide +kernel
theorem dX9_unlock_52 : decode cX9_unlock 52 = .ok (.iconst 5, 1) := by decide +kernel
theorem dX9_unlock_53 : decode cX9_unlock 53 = .ok (.iload_n 1, 1) := by decide +kernel
theorem dX9_unlock_54 : decode cX9_unlock 54 = .ok (.iconst 0, 1) := by decide +kernel
theorem dX9_unlock_55 : decode cX9_unlock 55 = .ok (.iconst 0, 1) := by decide +kernel
theorem dX9_unlock_56 : decode cX9_unlock 56 = .ok (.iconst 0, 1) := by decide +kernel
theorem dX9_unlock_57 : decode cX9_unlock 57 = .ok (.invokevirtual 249, 3) := by decide +kernel
theorem dX9_unlock_60 : decode cX9_unlock 60 = .ok (.iload_n 2, 1) := by decide +kernel
theorem dX9_unlock_61 : decode cX9_unlock 61 = .ok (.ireturn, 1) := by decide +kernel
theorem dX9_subjectAt_0 : decode cX9_subjectAt 0 = .ok (.iload_n 1, 1) := by decide +kernel
theorem dX9_subjectAt_1 : decode cX9_subjectAt 1 = .ok (.invokestatic 191, 3) := by decide +kernel
theorem dX9_subjectAt_4 : decode cX9_subjectAt 4 = .ok (.ifCond .ne 6, 3) := by decide +kernel
theorem dX9_subjectAt_7 : decode cX9_subjectAt 7 = .ok (.bipush (-2), 2) := by decide +kernel
theorem dX9_subjectAt_9 : decode cX9_subjectAt 9 = .ok (.ireturn, 1) := by decide +kernel
theorem dX9_subjectAt_10 : decode cX9_subjectAt 10 = .ok (.iload_n 2, 1) := by decide +kernel
theorem dX9_subjectAt_11 : decode cX9_subjectAt 11 = .ok (.tableswitch 65 0 3 #[29, 36, 43, 58], 29) := by decide +kernel
theorem dX9_subjectAt_40 : decode cX9_subjectAt 40 = .ok (.aload_n 0, 1) := by decide +kernel
theorem dX9_subjectAt_41 : decode cX9_subjectAt 41 = .ok (.getfield 25, 3) := by decide +kernel
theorem dX9_subjectAt_44 : decode cX9_subjectAt 44 = .ok (.iload_n 1, 1) := by decide +kernel
theorem dX9_subjectAt_45 : decode cX9_subjectAt 45 = .ok (.iaload, 1) := by decide +kernel
theorem dX9_subjectAt_46 : decode cX9_subjectAt 46 = .ok (.ireturn, 1) := by decide +kernel
theorem dX9_subjectAt_47 : decode cX9_subjectAt 47 = .ok (.aload_n 0, 1) := by decide +kernel
theorem dX9_subjectAt_48 : decode cX9_subjectAt 48 = .ok (.getfield 28, 3) := by decide +kernel
theorem dX9_subjectAt_51 : decode cX9_subjectAt 51 = .ok (.iload_n 1, 1) := by decide +kernel
theorem dX9_subjectAt_52 : decode cX9_subjectAt 52 = .ok (.iaload, 1) := by decide +kernel
theorem dX9_subjectAt_53 : decode cX9_subjectAt 53 = .ok (.ireturn, 1) := by decide +kernel
theorem dX9_subjectAt_54 : decode cX9_subjectAt 54 = .ok (.aload_n 0, 1) := by decide +kernel
theorem dX9_subjectAt_55 : decode cX9_subjectAt 55 = .ok (.getfield 31, 3) := by decide +kernel
theorem dX9_subjectAt_58 : decode cX9_subjectAt 58 = .ok (.iload_n 1, 1) := by decide +kernel
theorem dX9_subjectAt_59 : decode cX9_subjectAt 59 = .ok (.baload, 1) := by decide +kernel
theorem dX9_subjectAt_60 : decode cX9_subjectAt 60 = .ok (.ifCond .eq 7, 3) := by decide +kernel
theorem dX9_subjectAt_63 : decode cX9_subjectAt 63 = .ok (.iconst 1, 1) := by decide +kernel
theorem dX9_subjectAt_64 : decode cX9_subjectAt 64 = .ok (.goto 4, 3) := by decide +kernel
theorem dX9_subjectAt_67 : decode cX9_subjectAt 67 = .ok (.iconst 0, 1) := by decide +kernel
theorem dX9_subjectAt_68 : decode cX9_subjectAt 68 = .ok (.ireturn, 1) := by decide +kernel
theorem dX9_subjectAt_69 : decode cX9_subjectAt 69 = .ok (.aload_n 0, 1) := by decide +kernel
theorem dX9_subjectAt_70 : decode cX9_subjectAt 70 = .ok (.getfield 35, 3) := by decide +kernel
theorem dX9_subjectAt_73 : decode cX9_subjectAt 73 = .ok (.iload_n 1, 1) := by decide +kernel
theorem dX9_subjectAt_74 : decode cX9_subjectAt 74 = .ok (.iaload, 1) := by decide +kernel
theorem dX9_subjectAt_75 : decode cX9_subjectAt 75 = .ok (.ireturn, 1) := by decide +kernel
theorem dX9_subjectAt_76 : decode cX9_subjectAt 76 = .ok (.bipush (-2), 2) := by decide +kernel
theorem dX9_subjectAt_78 : decode cX9_subjectAt 78 = .ok (.ireturn, 1) := by decide +kernel
theorem dX9_objectAt_0 : decode cX9_objectAt 0 = .ok (.iload_n 1, 1) := by decide +kernel
theorem dX9_objectAt_1 : decode cX9_objectAt 1 = .ok (.invokestatic 231, 3) := by decide +kernel
theorem dX9_objectAt_4 : decode cX9_objectAt 4 = .ok (.ifCond .eq 13, 3) := by decide +kernel
theorem dX9_objectAt_7 : decode cX9_objectAt 7 = .ok (.iload_n 2, 1) := by decide +kernel
theorem dX9_objectAt_8 : decode cX9_objectAt 8 = .ok (.i2l, 1) := by decide +kernel
theorem dX9_objectAt_9 : decode cX9_objectAt 9 = .ok (.lconst 0, 1) := by decide +kernel
theorem dX9_objectAt_10 : decode cX9_objectAt 10 = .ok (.lconst 1, 1) := by decide +kernel
theorem dX9_objectAt_11 : decode cX9_objectAt 11 = .ok (.invokestatic 185, 3) := by decide +kernel
theorem dX9_objectAt_14 : decode cX9_objectAt 14 = .ok (.ifCond .ne 8, 3) := by decide +kernel
theorem dX9_objectAt_17 : decode cX9_objectAt 17 = .ok (.bipush (-2), 2) := by decide +kernel
theorem dX9_objectAt_19 : decode cX9_objectAt 19 = .ok (.goto 22, 3) := by decide +kernel
theorem dX9_objectAt_22 : decode cX9_objectAt 22 = .ok (.iload_n 2, 1) := by decide +kernel
theorem dX9_objectAt_23 : decode cX9_objectAt 23 = .ok (.ifCond .ne 12, 3) := by decide +kernel
theorem dX9_objectAt_26 : decode cX9_objectAt 26 = .ok (.aload_n 0, 1) := by decide +kernel
theorem dX9_objectAt_27 : decode cX9_objectAt 27 = .ok (.getfield 38, 3) := by decide +kernel
theorem dX9_objectAt_30 : decode cX9_objectAt 30 = .ok (.iload_n 1, 1) := by decide +kernel
theorem dX9_objectAt_31 : decode cX9_objectAt 31 = .ok (.iaload, 1) := by decide +kernel
theorem dX9_objectAt_32 : decode cX9_objectAt 32 = .ok (.goto 9, 3) := by decide +kernel
theorem dX9_objectAt_35 : decode cX9_objectAt 35 = .ok (.aload_n 0, 1) := by decide +kernel
theorem dX9_objectAt_36 : decode cX9_objectAt 36 = .ok (.getfield 41, 3) := by decide +kernel
theorem dX9_objectAt_39 : decode cX9_objectAt 39 = .ok (.iload_n 1, 1) := by decide +kernel
theorem dX9_objectAt_40 : decode cX9_objectAt 40 = .ok (.iaload, 1) := by decide +kernel
theorem dX9_objectAt_41 : decode cX9_objectAt 41 = .ok (.ireturn, 1) := by decide +kernel
theorem dX9_given_0 : decode cX9_given 0 = .ok (.iload_n 1, 1) := by decide +kernel
theorem dX9_given_1 : decode cX9_given 1 = .ok (.invokestatic 253, 3) := by decide +kernel
theorem dX9_given_4 : decode cX9_given 4 = .ok (.ifCond .eq 22, 3) := by decide +kernel
theorem dX9_given_7 : decode cX9_given 7 = .ok (.iload_n 2, 1) := by decide +kernel
theorem dX9_given_8 : decode cX9_given 8 = .ok (.invokestatic 231, 3) := by decide +kernel
theorem dX9_given_11 : decode cX9_given 11 = .ok (.ifCond .eq 15, 3) := by decide +kernel
theorem dX9_given_14 : decode cX9_given 14 = .ok (.iload_n 3, 1) := by decide +kernel
theorem dX9_given_15 : decode cX9_given 15 = .ok (.i2l, 1) := by decide +kernel
theorem dX9_given_16 : decode cX9_given 16 = .ok (.lconst 0, 1) := by decide +kernel
theorem dX9_given_17 : decode cX9_given 17 = .ok (.ldc2_w 234, 3) := by decide +kernel
theorem dX9_given_20 : decode cX9_given 20 = .ok (.invokestatic 185, 3) := by decide +kernel
theorem dX9_given_23 : decode cX9_given 23 = .ok (.ifCond .ne 8, 3) := by decide +kernel
theorem dX9_given_26 : decode cX9_given 26 = .ok (.bipush (-2), 2) := by decide +kernel
theorem dX9_given_28 : decode cX9_given 28 = .ok (.goto 22, 3) := by decide +kernel
theorem dX9_given_31 : decode cX9_given 31 = .ok (.aload_n 0, 1) := by decide +kernel
theorem dX9_given_32 : decode cX9_given 32 = .ok (.getfield 44, 3) := by decide +kernel
theorem dX9_given_35 : decode cX9_given 35 = .ok (.iload_n 1, 1) := by decide +kernel
theorem dX9_given_36 : decode cX9_given 36 = .ok (.iload_n 2, 1) := by decide +kernel
theorem dX9_given_37 : decode cX9_given 37 = .ok (.iload_n 3, 1) := by decide +kernel
theorem dX9_given_38 : decode cX9_given 38 = .ok (.invokestatic 223, 3) := by decide +kernel
theorem dX9_given_41 : decode cX9_given 41 = .ok (.baload, 1) := by decide +kernel
theorem dX9_given_42 : decode cX9_given 42 = .ok (.ifCond .eq 7, 3) := by decide +kernel
theorem dX9_given_45 : decode cX9_given 45 = .ok (.iconst 1, 1) := by decide +kernel
theorem dX9_given_46 : decode cX9_given 46 = .ok (.goto 4, 3) := by decide +kernel
theorem dX9_given_49 : decode cX9_given 49 = .ok (.iconst 0, 1) := by decide +kernel
theorem dX9_given_50 : decode cX9_given 50 = .ok (.ireturn, 1) := by decide +kernel
theorem dX9_entry_0 : decode cX9_entry 0 = .ok (.iload_n 1, 1) := by decide +kernel
theorem dX9_entry_1 : decode cX9_entry 1 = .ok (.i2l, 1) := by decide +kernel
theorem dX9_entry_2 : decode cX9_entry 2 = .ok (.lconst 0, 1) := by decide +kernel
theorem dX9_entry_3 : decode cX9_entry 3 = .ok (.aload_n 0, 1) := by decide +kernel
theorem dX9_entry_4 : decode cX9_entry 4 = .ok (.invokevirtual 262, 3) := by decide +kernel
theorem dX9_entry_7 : decode cX9_entry 7 = .ok (.iconst 1, 1) := by decide +kernel
theorem dX9_entry_8 : decode cX9_entry 8 = .ok (.isub, 1) := by decide +kernel
theorem dX9_entry_9 : decode cX9_entry 9 = .ok (.i2l, 1) := by decide +kernel
theorem dX9_entry_10 : decode cX9_entry 10 = .ok (.invokestatic 185, 3) := by decide +kernel
theorem dX9_entry_13 : decode cX9_entry 13 = .ok (.ifCond .eq 29, 3) := by decide +kernel
theorem dX9_entry_16 : decode cX9_entry 16 = .ok (.iload_n 2, 1) := by decide +kernel
theorem dX9_entry_17 : decode cX9_entry 17 = .ok (.i2l, 1) := by decide +kernel
theorem dX9_entry_18 : decode cX9_entry 18 = .ok (.lconst 0, 1) := by decide +kernel
theorem dX9_entry_19 : decode cX9_entry 19 = .ok (.ldc2_w 183, 3) := by decide +kernel
theorem dX9_entry_22 : decode cX9_entry 22 = .ok (.invokestatic 185, 3) := by decide +kernel
theorem dX9_entry_25 : decode cX9_entry 25 = .ok (.ifCond .eq 17, 3) := by decide +kernel
theorem dX9_entry_28 : decode cX9_entry 28 = .ok (.aload_n 0, 1) := by decide +kernel
theorem dX9_entry_29 : decode cX9_entry 29 = .ok (.getfield 47, 3) := by decide +kernel
theorem dX9_entry_32 : decode cX9_entry 32 = .ok (.bipush 12, 2) := by decide +kernel
theorem dX9_entry_34 : decode cX9_entry 34 = .ok (.iload_n 1, 1) := by decide +kernel
theorem dX9_entry_35 : decode cX9_entry 35 = .ok (.imul, 1) := by decide +kernel
theorem dX9_entry_36 : decode cX9_entry 36 = .ok (.iload_n 2, 1) := by decide +kernel
theorem dX9_entry_37 : decode cX9_entry 37 = .ok (.iadd, 1) := by decide +kernel
theorem dX9_entry_38 : decode cX9_entry 38 = .ok (.iaload, 1) := by decide +kernel
theorem dX9_entry_39 : decode cX9_entry 39 = .ok (.goto 5, 3) := by decide +kernel
theorem dX9_entry_42 : decode cX9_entry 42 = .ok (.bipush (-2), 2) := by decide +kernel
theorem dX9_entry_44 : decode cX9_entry 44 = .ok (.ireturn, 1) := by decide +kernel
theorem dX9_chain_0 : decode cX9_chain 0 = .ok (.iload_n 1, 1) := by decide +kernel
theorem dX9_chain_1 : decode cX9_chain 1 = .ok (.i2l, 1) := by decide +kernel
theorem dX9_chain_2 : decode cX9_chain 2 = .ok (.lconst 0, 1) := by decide +kernel
theorem dX9_chain_3 : decode cX9_chain 3 = .ok (.aload_n 0, 1) := by decide +kernel
theorem dX9_chain_4 : decode cX9_chain 4 = .ok (.invokevirtual 262, 3) := by decide +kernel
theorem dX9_chain_7 : decode cX9_chain 7 = .ok (.i2l, 1) := by decide +kernel
theorem dX9_chain_8 : decode cX9_chain 8 = .ok (.invokestatic 185, 3) := by decide +kernel
theorem dX9_chain_11 : decode cX9_chain 11 = .ok (.ifCond .eq 29, 3) := by decide +kernel
theorem dX9_chain_14 : decode cX9_chain 14 = .ok (.iload_n 2, 1) := by decide +kernel
theorem dX9_chain_15 : decode cX9_chain 15 = .ok (.i2l, 1) := by decide +kernel
theorem dX9_chain_16 : decode cX9_chain 16 = .ok (.lconst 0, 1) := by decide +kernel
theorem dX9_chain_17 : decode cX9_chain 17 = .ok (.ldc2_w 265, 3) := by decide +kernel
theorem dX9_chain_20 : decode cX9_chain 20 = .ok (.invokestatic 185, 3) := by decide +kernel
theorem dX9_chain_23 : decode cX9_chain 23 = .ok (.ifCond .eq 17, 3) := by decide +kernel
theorem dX9_chain_26 : decode cX9_chain 26 = .ok (.aload_n 0, 1) := by decide +kernel
theorem dX9_chain_27 : decode cX9_chain 27 = .ok (.getfield 50, 3) := by decide +kernel
theorem dX9_chain_30 : decode cX9_chain 30 = .ok (.bipush 32, 2) := by decide +kernel
theorem dX9_chain_32 : decode cX9_chain 32 = .ok (.iload_n 1, 1) := by decide +kernel
theorem dX9_chain_33 : decode cX9_chain 33 = .ok (.imul, 1) := by decide +kernel
theorem dX9_chain_34 : decode cX9_chain 34 = .ok (.iload_n 2, 1) := by decide +kernel
theorem dX9_chain_35 : decode cX9_chain 35 = .ok (.iadd, 1) := by decide +kernel
theorem dX9_chain_36 : decode cX9_chain 36 = .ok (.iaload, 1) := by decide +kernel
theorem dX9_chain_37 : decode cX9_chain 37 = .ok (.goto 5, 3) := by decide +kernel
theorem dX9_chain_40 : decode cX9_chain 40 = .ok (.bipush (-2), 2) := by decide +kernel
theorem dX9_chain_42 : decode cX9_chain 42 = .ok (.ireturn, 1) := by decide +kernel
theorem dX9_rootOf_0 : decode cX9_rootOf 0 = .ok (.iload_n 2, 1) := by decide +kernel
theorem dX9_rootOf_1 : decode cX9_rootOf 1 = .ok (.ifCond .ne 12, 3) := by decide +kernel
theorem dX9_rootOf_4 : decode cX9_rootOf 4 = .ok (.aload_n 0, 1) := by decide +kernel
theorem dX9_rootOf_5 : decode cX9_rootOf 5 = .ok (.invokevirtual 173, 3) := by decide +kernel
theorem dX9_rootOf_8 : decode cX9_rootOf 8 = .ok (.aload_n 0, 1) := by decide +kernel
theorem dX9_rootOf_9 : decode cX9_rootOf 9 = .ok (.invokevirtual 180, 3) := by decide +kernel
theorem dX9_rootOf_12 : decode cX9_rootOf 12 = .ok (.return_, 1) := by decide +kernel
theorem dX9_rootOf_13 : decode cX9_rootOf 13 = .ok (.iconst 0, 1) := by decide +kernel
theorem dX9_rootOf_14 : decode cX9_rootOf 14 = .ok (.istore_n 3, 1) := by decide +kernel
theorem dX9_rootOf_15 : decode cX9_rootOf 15 = .ok (.iconst 0, 1) := by decide +kernel
theorem dX9_rootOf_16 : decode cX9_rootOf 16 = .ok (.istore 4, 2) := by decide +kernel
theorem dX9_rootOf_18 : decode cX9_rootOf 18 = .ok (.iload 4, 2) := by decide +kernel
theorem dX9_rootOf_20 : decode cX9_rootOf 20 = .ok (.iload_n 2, 1) := by decide +kernel
theorem dX9_rootOf_21 : decode cX9_rootOf 21 = .ok (.if_icmp .ge 77, 3) := by decide +kernel
theorem dX9_rootOf_24 : decode cX9_rootOf 24 = .ok (.aload_n 0, 1) := by decide +kernel
theorem dX9_rootOf_25 : decode cX9_rootOf 25 = .ok (.iload_n 1, 1) := by decide +kernel
theorem dX9_rootOf_26 : decode cX9_rootOf 26 = .ok (.iload 4, 2) := by decide +kernel
theorem dX9_rootOf_28 : decode cX9_rootOf 28 = .ok (.iadd, 1) := by decide +kernel
theorem dX9_rootOf_29 : decode cX9_rootOf 29 = .ok (.invokevirtual 267, 3) := by decide +kernel
theorem dX9_rootOf_32 : decode cX9_rootOf 32 = .ok (.iconst 1, 1) := by decide +kernel
theorem dX9_rootOf_33 : decode cX9_rootOf 33 = .ok (.istore 5, 2) := by decide +kernel
theorem dX9_rootOf_35 : decode cX9_rootOf 35 = .ok (.iload_n 3, 1) := by decide +kernel
theorem dX9_rootOf_36 : decode cX9_rootOf 36 = .ok (.ifCond .le 33, 3) := by decide +kernel
theorem dX9_rootOf_39 : decode cX9_rootOf 39 = .ok (.aload_n 0, 1) := by decide +kernel
theorem dX9_rootOf_40 : decode cX9_rootOf 40 = .ok (.getfield 59, 3) := by decide +kernel
theorem dX9_rootOf_43 : decode cX9_rootOf 43 = .ok (.iload_n 3, 1) := by decide +kernel
theorem dX9_rootOf_44 : decode cX9_rootOf 44 = .ok (.iconst 1, 1) := by decide +kernel
theorem dX9_rootOf_45 : decode cX9_rootOf 45 = .ok (.isub, 1) := by decide +kernel
theorem dX9_rootOf_46 : decode cX9_rootOf 46 = .ok (.iaload, 1) := by decide +kernel
theorem dX9_rootOf_47 : decode cX9_rootOf 47 = .ok (.iload 5, 2) := by decide +kernel
theorem dX9_rootOf_49 : decode cX9_rootOf 49 = .ok (.if_icmp .ne 20, 3) := by decide +kernel
theorem dX9_rootOf_52 : decode cX9_rootOf 52 = .ok (.iinc 3 (-1), 3) := by decide +kernel
theorem dX9_rootOf_55 : decode cX9_rootOf 55 = .ok (.aload_n 0, 1) := by decide +kernel
theorem dX9_rootOf_56 : decode cX9_rootOf 56 = .ok (.iload_n 3, 1) := by decide +kernel
theorem dX9_rootOf_57 : decode cX9_rootOf 57 = .ok (.invokevirtual 270, 3) := by decide +kernel
theorem dX9_rootOf_60 : decode cX9_rootOf 60 = .ok (.iconst 2, 1) := by decide +kernel
theorem dX9_rootOf_61 : decode cX9_rootOf 61 = .ok (.iload 5, 2) := by decide +kernel
theorem dX9_rootOf_63 : decode cX9_rootOf 63 = .ok (.imul, 1) := by decide +kernel
theorem dX9_rootOf_64 : decode cX9_rootOf 64 = .ok (.istore 5, 2) := by decide +kernel
theorem dX9_rootOf_66 : decode cX9_rootOf 66 = .ok (.goto (-31), 3) := by decide +kernel
theorem dX9_rootOf_69 : decode cX9_rootOf 69 = .ok (.aload_n 0, 1) := by decide +kernel
theorem dX9_rootOf_70 : decode cX9_rootOf 70 = .ok (.aload_n 0, 1) := by decide +kernel
theorem dX9_rootOf_71 : decode cX9_rootOf 71 = .ok (.getfield 56, 3) := by decide +kernel
theorem dX9_rootOf_74 : decode cX9_rootOf 74 = .ok (.bipush 32, 2) := by decide +kernel
theorem dX9_rootOf_76 : decode cX9_rootOf 76 = .ok (.iload_n 3, 1) := by decide +kernel
theorem dX9_rootOf_77 : decode cX9_rootOf 77 = .ok (.imul, 1) := by decide +kernel
theorem dX9_rootOf_78 : decode cX9_rootOf 78 = .ok (.invokevirtual 213, 3) := by decide +kernel
theorem dX9_rootOf_81 : decode cX9_rootOf 81 = .ok (.aload_n 0, 1) := by decide +kernel
theorem dX9_rootOf_82 : decode cX9_rootOf 82 = .ok (.getfield 59, 3) := by decide +kernel
theorem dX9_rootOf_85 : decode cX9_rootOf 85 = .ok (.iload_n 3, 1) := by decide +kernel
theorem dX9_rootOf_86 : decode cX9_rootOf 86 = .ok (.iload 5, 2) := by decide +kernel
theorem dX9_rootOf_88 : decode cX9_rootOf 88 = .ok (.iastore, 1) := by decide +kernel
theorem dX9_rootOf_89 : decode cX9_rootOf 89 = .ok (.iinc 3 1, 3) := by decide +kernel
theorem dX9_rootOf_92 : decode cX9_rootOf 92 = .ok (.iinc 4 1, 3) := by decide +kernel
theorem dX9_rootOf_95 : decode cX9_rootOf 95 = .ok (.goto (-77), 3) := by decide +kernel
theorem dX9_rootOf_98 : decode cX9_rootOf 98 = .ok (.iinc 3 (-1), 3) := by decide +kernel
theorem dX9_rootOf_101 : decode cX9_rootOf 101 = .ok (.iconst 0, 1) := by decide +kernel
theorem dX9_rootOf_102 : decode cX9_rootOf 102 = .ok (.istore 4, 2) := by decide +kernel
theorem dX9_rootOf_104 : decode cX9_rootOf 104 = .ok (.iload 4, 2) := by decide +kernel
theorem dX9_rootOf_106 : decode cX9_rootOf 106 = .ok (.bipush 32, 2) := by decide +kernel
theorem dX9_rootOf_108 : decode cX9_rootOf 108 = .ok (.if_icmp .ge 28, 3) := by decide +kernel
theorem dX9_rootOf_111 : decode cX9_rootOf 111 = .ok (.aload_n 0, 1) := by decide +kernel
theorem dX9_rootOf_112 : decode cX9_rootOf 112 = .ok (.getfield 22, 3) := by decide +kernel
theorem dX9_rootOf_115 : decode cX9_rootOf 115 = .ok (.iload 4, 2) := by decide +kernel
theorem dX9_rootOf_117 : decode cX9_rootOf 117 = .ok (.aload_n 0, 1) := by decide +kernel
theorem dX9_rootOf_118 : decode cX9_rootOf 118 = .ok (.getfield 56, 3) := by decide +kernel
theorem dX9_rootOf_121 : decode cX9_rootOf 121 = .ok (.bipush 32, 2) := by decide +kernel
theorem dX9_rootOf_123 : decode cX9_rootOf 123 = .ok (.iload_n 3, 1) := by decide +kernel
theorem dX9_rootOf_124 : decode cX9_rootOf 124 = .ok (.imul, 1) := by decide +kernel
theorem dX9_rootOf_125 : decode cX9_rootOf 125 = .ok (.iload 4, 2) := by decide +kernel
theorem dX9_rootOf_127 : decode cX9_rootOf 127 = .ok (.iadd, 1) := by decide +kernel
theorem dX9_rootOf_128 : decode cX9_rootOf 128 = .ok (.iaload, 1) := by decide +kernel
theorem dX9_rootOf_129 : decode cX9_rootOf 129 = .ok (.iastore, 1) := by decide +kernel
theorem dX9_rootOf_130 : decode cX9_rootOf 130 = .ok (.iinc 4 1, 3) := by decide +kernel
theorem dX9_rootOf_133 : decode cX9_rootOf 133 = .ok (.goto (-29), 3) := by decide +kernel
theorem dX9_rootOf_136 : decode cX9_rootOf 136 = .ok (.iload_n 3, 1) := by decide +kernel
theorem dX9_rootOf_137 : decode cX9_rootOf 137 = .ok (.ifCond .le 14, 3) := by decide +kernel
theorem dX9_rootOf_140 : decode cX9_rootOf 140 = .ok (.iinc 3 (-1), 3) := by decide +kernel
