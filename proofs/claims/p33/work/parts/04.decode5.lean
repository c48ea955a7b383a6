theorem dL_act_242 : decode cL_act 242 = .ok (.iadd, 1) := by decide +kernel
theorem dL_act_243 : decode cL_act 243 = .ok (.invokestatic 184, 3) := by decide +kernel
theorem dL_act_246 : decode cL_act 246 = .ok (.ireturn, 1) := by decide +kernel
theorem dL_act_247 : decode cL_act 247 = .ok (.aload_n 0, 1) := by decide +kernel
theorem dL_act_248 : decode cL_act 248 = .ok (.iload_n 2, 1) := by decide +kernel
theorem dL_act_249 : decode cL_act 249 = .ok (.iconst 5, 1) := by decide +kernel
theorem dL_act_250 : decode cL_act 250 = .ok (.irem, 1) := by decide +kernel
theorem dL_act_251 : decode cL_act 251 = .ok (.iload_n 2, 1) := by decide +kernel
theorem dL_act_252 : decode cL_act 252 = .ok (.bipush 8, 2) := by decide +kernel
theorem dL_act_254 : decode cL_act 254 = .ok (.idiv, 1) := by decide +kernel
theorem dL_act_255 : decode cL_act 255 = .ok (.iconst 3, 1) := by decide +kernel
theorem dL_act_256 : decode cL_act 256 = .ok (.irem, 1) := by decide +kernel
theorem dL_act_257 : decode cL_act 257 = .ok (.ifCond .le 7, 3) := by decide +kernel
theorem dL_act_260 : decode cL_act 260 = .ok (.iconst 1, 1) := by decide +kernel
theorem dL_act_261 : decode cL_act 261 = .ok (.goto 4, 3) := by decide +kernel
theorem dL_act_264 : decode cL_act 264 = .ok (.iconst 0, 1) := by decide +kernel
theorem dL_act_265 : decode cL_act 265 = .ok (.invokestatic 192, 3) := by decide +kernel
theorem dL_act_268 : decode cL_act 268 = .ok (.ireturn, 1) := by decide +kernel
theorem dL_act_269 : decode cL_act 269 = .ok (.aload_n 0, 1) := by decide +kernel
theorem dL_act_270 : decode cL_act 270 = .ok (.bipush 12, 2) := by decide +kernel
theorem dL_act_272 : decode cL_act 272 = .ok (.iload 4, 2) := by decide +kernel
theorem dL_act_274 : decode cL_act 274 = .ok (.iload 5, 2) := by decide +kernel
theorem dL_act_276 : decode cL_act 276 = .ok (.iload_n 2, 1) := by decide +kernel
theorem dL_act_277 : decode cL_act 277 = .ok (.sipush 1024, 3) := by decide +kernel
theorem dL_act_280 : decode cL_act 280 = .ok (.idiv, 1) := by decide +kernel
theorem dL_act_281 : decode cL_act 281 = .ok (.iconst 3, 1) := by decide +kernel
theorem dL_act_282 : decode cL_act 282 = .ok (.irem, 1) := by decide +kernel
theorem dL_act_283 : decode cL_act 283 = .ok (.ifCond .ne 7, 3) := by decide +kernel
theorem dL_act_286 : decode cL_act 286 = .ok (.iconst (-1), 1) := by decide +kernel
theorem dL_act_287 : decode cL_act 287 = .ok (.goto 14, 3) := by decide +kernel
theorem dL_act_290 : decode cL_act 290 = .ok (.iload 5, 2) := by decide +kernel
theorem dL_act_292 : decode cL_act 292 = .ok (.iload_n 2, 1) := by decide +kernel
theorem dL_act_293 : decode cL_act 293 = .ok (.sipush 4096, 3) := by decide +kernel
theorem dL_act_296 : decode cL_act 296 = .ok (.idiv, 1) := by decide +kernel
theorem dL_act_297 : decode cL_act 297 = .ok (.bipush 10, 2) := by decide +kernel
theorem dL_act_299 : decode cL_act 299 = .ok (.irem, 1) := by decide +kernel
theorem dL_act_300 : decode cL_act 300 = .ok (.iadd, 1) := by decide +kernel
theorem dL_act_301 : decode cL_act 301 = .ok (.invokestatic 184, 3) := by decide +kernel
theorem dL_act_304 : decode cL_act 304 = .ok (.ireturn, 1) := by decide +kernel
theorem dL_act_305 : decode cL_act 305 = .ok (.aload_n 0, 1) := by decide +kernel
theorem dL_act_306 : decode cL_act 306 = .ok (.bipush 13, 2) := by decide +kernel
theorem dL_act_308 : decode cL_act 308 = .ok (.iload_n 2, 1) := by decide +kernel
theorem dL_act_309 : decode cL_act 309 = .ok (.iconst 3, 1) := by decide +kernel
theorem dL_act_310 : decode cL_act 310 = .ok (.irem, 1) := by decide +kernel
theorem dL_act_311 : decode cL_act 311 = .ok (.iconst 0, 1) := by decide +kernel
theorem dL_act_312 : decode cL_act 312 = .ok (.iconst 0, 1) := by decide +kernel
theorem dL_act_313 : decode cL_act 313 = .ok (.invokestatic 184, 3) := by decide +kernel
theorem dL_act_316 : decode cL_act 316 = .ok (.ireturn, 1) := by decide +kernel
theorem dL_act_317 : decode cL_act 317 = .ok (.aload_n 0, 1) := by decide +kernel
theorem dL_act_318 : decode cL_act 318 = .ok (.bipush 15, 2) := by decide +kernel
theorem dL_act_320 : decode cL_act 320 = .ok (.iload_n 2, 1) := by decide +kernel
theorem dL_act_321 : decode cL_act 321 = .ok (.iconst 2, 1) := by decide +kernel
theorem dL_act_322 : decode cL_act 322 = .ok (.irem, 1) := by decide +kernel
theorem dL_act_323 : decode cL_act 323 = .ok (.iconst 1, 1) := by decide +kernel
theorem dL_act_324 : decode cL_act 324 = .ok (.iload_n 2, 1) := by decide +kernel
theorem dL_act_325 : decode cL_act 325 = .ok (.iconst 2, 1) := by decide +kernel
theorem dL_act_326 : decode cL_act 326 = .ok (.idiv, 1) := by decide +kernel
theorem dL_act_327 : decode cL_act 327 = .ok (.sipush 500, 3) := by decide +kernel
theorem dL_act_330 : decode cL_act 330 = .ok (.irem, 1) := by decide +kernel
theorem dL_act_331 : decode cL_act 331 = .ok (.iadd, 1) := by decide +kernel
theorem dL_act_332 : decode cL_act 332 = .ok (.iconst 0, 1) := by decide +kernel
theorem dL_act_333 : decode cL_act 333 = .ok (.invokestatic 184, 3) := by decide +kernel
theorem dL_act_336 : decode cL_act 336 = .ok (.ireturn, 1) := by decide +kernel
theorem dL_act_337 : decode cL_act 337 = .ok (.aload_n 0, 1) := by decide +kernel
theorem dL_act_338 : decode cL_act 338 = .ok (.bipush 16, 2) := by decide +kernel
theorem dL_act_340 : decode cL_act 340 = .ok (.iconst 0, 1) := by decide +kernel
theorem dL_act_341 : decode cL_act 341 = .ok (.iconst 0, 1) := by decide +kernel
theorem dL_act_342 : decode cL_act 342 = .ok (.iconst 0, 1) := by decide +kernel
theorem dL_act_343 : decode cL_act 343 = .ok (.invokestatic 184, 3) := by decide +kernel
theorem dL_act_346 : decode cL_act 346 = .ok (.ireturn, 1) := by decide +kernel
theorem dL_act_347 : decode cL_act 347 = .ok (.aload_n 0, 1) := by decide +kernel
theorem dL_act_348 : decode cL_act 348 = .ok (.bipush 21, 2) := by decide +kernel
theorem dL_act_350 : decode cL_act 350 = .ok (.iload_n 2, 1) := by decide +kernel
theorem dL_act_351 : decode cL_act 351 = .ok (.iconst 2, 1) := by decide +kernel
theorem dL_act_352 : decode cL_act 352 = .ok (.irem, 1) := by decide +kernel
theorem dL_act_353 : decode cL_act 353 = .ok (.iconst 0, 1) := by decide +kernel
theorem dL_act_354 : decode cL_act 354 = .ok (.iconst 0, 1) := by decide +kernel
theorem dL_act_355 : decode cL_act 355 = .ok (.invokestatic 184, 3) := by decide +kernel
theorem dL_act_358 : decode cL_act 358 = .ok (.ireturn, 1) := by decide +kernel
theorem dL_act_359 : decode cL_act 359 = .ok (.aload_n 0, 1) := by decide +kernel
theorem dL_act_360 : decode cL_act 360 = .ok (.bipush 22, 2) := by decide +kernel
theorem dL_act_362 : decode cL_act 362 = .ok (.iload_n 2, 1) := by decide +kernel
theorem dL_act_363 : decode cL_act 363 = .ok (.iconst 2, 1) := by decide +kernel
theorem dL_act_364 : decode cL_act 364 = .ok (.irem, 1) := by decide +kernel
theorem dL_act_365 : decode cL_act 365 = .ok (.iconst 0, 1) := by decide +kernel
theorem dL_act_366 : decode cL_act 366 = .ok (.iconst 0, 1) := by decide +kernel
theorem dL_act_367 : decode cL_act 367 = .ok (.invokestatic 184, 3) := by decide +kernel
theorem dL_act_370 : decode cL_act 370 = .ok (.ireturn, 1) := by decide +kernel
theorem dL_act_371 : decode cL_act 371 = .ok (.aload_n 0, 1) := by decide +kernel
theorem dL_act_372 : decode cL_act 372 = .ok (.bipush 14, 2) := by decide +kernel
theorem dL_act_374 : decode cL_act 374 = .ok (.iconst 1, 1) := by decide +kernel
theorem dL_act_375 : decode cL_act 375 = .ok (.iload_n 2, 1) := by decide +kernel
theorem dL_act_376 : decode cL_act 376 = .ok (.iconst 4, 1) := by decide +kernel
theorem dL_act_377 : decode cL_act 377 = .ok (.irem, 1) := by decide +kernel
theorem dL_act_378 : decode cL_act 378 = .ok (.iadd, 1) := by decide +kernel
theorem dL_act_379 : decode cL_act 379 = .ok (.iconst 0, 1) := by decide +kernel
theorem dL_act_380 : decode cL_act 380 = .ok (.iconst 0, 1) := by decide +kernel
theorem dL_act_381 : decode cL_act 381 = .ok (.invokestatic 184, 3) := by decide +kernel
theorem dL_act_384 : decode cL_act 384 = .ok (.ireturn, 1) := by decide +kernel
theorem dL_act_385 : decode cL_act 385 = .ok (.aload_n 0, 1) := by decide +kernel
theorem dL_act_386 : decode cL_act 386 = .ok (.invokevirtual 214, 3) := by decide +kernel
theorem dL_act_389 : decode cL_act 389 = .ok (.pop, 1) := by decide +kernel
theorem dL_act_390 : decode cL_act 390 = .ok (.aload_n 0, 1) := by decide +kernel
theorem dL_act_391 : decode cL_act 391 = .ok (.iconst 0, 1) := by decide +kernel
theorem dL_act_392 : decode cL_act 392 = .ok (.bipush 83, 2) := by decide +kernel
theorem dL_act_394 : decode cL_act 394 = .ok (.iconst 0, 1) := by decide +kernel
theorem dL_act_395 : decode cL_act 395 = .ok (.iconst 0, 1) := by decide +kernel
theorem dL_act_396 : decode cL_act 396 = .ok (.invokestatic 184, 3) := by decide +kernel
theorem dL_act_399 : decode cL_act 399 = .ok (.aload_n 0, 1) := by decide +kernel
theorem dL_act_400 : decode cL_act 400 = .ok (.iconst 0, 1) := by decide +kernel
theorem dL_act_401 : decode cL_act 401 = .ok (.iload_n 2, 1) := by decide +kernel
theorem dL_act_402 : decode cL_act 402 = .ok (.iconst 3, 1) := by decide +kernel
theorem dL_act_403 : decode cL_act 403 = .ok (.irem, 1) := by decide +kernel
theorem dL_act_404 : decode cL_act 404 = .ok (.ifCond .ne 8, 3) := by decide +kernel
theorem dL_act_407 : decode cL_act 407 = .ok (.bipush 99, 2) := by decide +kernel
theorem dL_act_409 : decode cL_act 409 = .ok (.goto 5, 3) := by decide +kernel
theorem dL_act_412 : decode cL_act 412 = .ok (.bipush 109, 2) := by decide +kernel
theorem dL_act_414 : decode cL_act 414 = .ok (.iconst 0, 1) := by decide +kernel
theorem dL_act_415 : decode cL_act 415 = .ok (.iconst 0, 1) := by decide +kernel
theorem dL_act_416 : decode cL_act 416 = .ok (.invokestatic 184, 3) := by decide +kernel
theorem dL_act_419 : decode cL_act 419 = .ok (.iadd, 1) := by decide +kernel
theorem dL_act_420 : decode cL_act 420 = .ok (.aload_n 0, 1) := by decide +kernel
theorem dL_act_421 : decode cL_act 421 = .ok (.iconst 0, 1) := by decide +kernel
theorem dL_act_422 : decode cL_act 422 = .ok (.bipush 48, 2) := by decide +kernel
theorem dL_act_424 : decode cL_act 424 = .ok (.iload_n 2, 1) := by decide +kernel
theorem dL_act_425 : decode cL_act 425 = .ok (.iconst 4, 1) := by decide +kernel
theorem dL_act_426 : decode cL_act 426 = .ok (.idiv, 1) := by decide +kernel
theorem dL_act_427 : decode cL_act 427 = .ok (.iconst 5, 1) := by decide +kernel
theorem dL_act_428 : decode cL_act 428 = .ok (.irem, 1) := by decide +kernel
theorem dL_act_429 : decode cL_act 429 = .ok (.iadd, 1) := by decide +kernel
theorem dL_act_430 : decode cL_act 430 = .ok (.iconst 0, 1) := by decide +kernel
theorem dL_act_431 : decode cL_act 431 = .ok (.iconst 0, 1) := by decide +kernel
theorem dL_act_432 : decode cL_act 432 = .ok (.invokestatic 184, 3) := by decide +kernel
theorem dL_act_435 : decode cL_act 435 = .ok (.iadd, 1) := by decide +kernel
theorem dL_act_436 : decode cL_act 436 = .ok (.aload_n 0, 1) := by decide +kernel
theorem dL_act_437 : decode cL_act 437 = .ok (.iconst 0, 1) := by decide +kernel
theorem dL_act_438 : decode cL_act 438 = .ok (.bipush 48, 2) := by decide +kernel
theorem dL_act_440 : decode cL_act 440 = .ok (.iload_n 2, 1) := by decide +kernel
theorem dL_act_441 : decode cL_act 441 = .ok (.bipush 32, 2) := by decide +kernel
theorem dL_act_443 : decode cL_act 443 = .ok (.idiv, 1) := by decide +kernel
theorem dL_act_444 : decode cL_act 444 = .ok (.iconst 4, 1) := by decide +kernel
theorem dL_act_445 : decode cL_act 445 = .ok (.irem, 1) := by decide +kernel
theorem dL_act_446 : decode cL_act 446 = .ok (.iadd, 1) := by decide +kernel
theorem dL_act_447 : decode cL_act 447 = .ok (.iconst 0, 1) := by decide +kernel
theorem dL_act_448 : decode cL_act 448 = .ok (.iconst 0, 1) := by decide +kernel
theorem dL_act_449 : decode cL_act 449 = .ok (.invokestatic 184, 3) := by decide +kernel
theorem dL_act_452 : decode cL_act 452 = .ok (.iadd, 1) := by decide +kernel
theorem dL_act_453 : decode cL_act 453 = .ok (.iload_n 2, 1) := by decide +kernel
theorem dL_act_454 : decode cL_act 454 = .ok (.bipush 64, 2) := by decide +kernel
theorem dL_act_456 : decode cL_act 456 = .ok (.irem, 1) := by decide +kernel
theorem dL_act_457 : decode cL_act 457 = .ok (.ifCond .ne 14, 3) := by decide +kernel
theorem dL_act_460 : decode cL_act 460 = .ok (.aload_n 0, 1) := by decide +kernel
theorem dL_act_461 : decode cL_act 461 = .ok (.iconst 1, 1) := by decide +kernel
theorem dL_act_462 : decode cL_act 462 = .ok (.iconst 0, 1) := by decide +kernel
theorem dL_act_463 : decode cL_act 463 = .ok (.iconst 0, 1) := by decide +kernel
theorem dL_act_464 : decode cL_act 464 = .ok (.iconst 0, 1) := by decide +kernel
theorem dL_act_465 : decode cL_act 465 = .ok (.invokestatic 184, 3) := by decide +kernel
theorem dL_act_468 : decode cL_act 468 = .ok (.goto 4, 3) := by decide +kernel
theorem dL_act_471 : decode cL_act 471 = .ok (.iconst 0, 1) := by decide +kernel
theorem dL_act_472 : decode cL_act 472 = .ok (.iadd, 1) := by decide +kernel
theorem dL_act_473 : decode cL_act 473 = .ok (.ireturn, 1) := by decide +kernel
theorem dL_act_474 : decode cL_act 474 = .ok (.aload_n 0, 1) := by decide +kernel
theorem dL_act_475 : decode cL_act 475 = .ok (.iload 4, 2) := by decide +kernel
theorem dL_act_477 : decode cL_act 477 = .ok (.aload_n 0, 1) := by decide +kernel
theorem dL_act_478 : decode cL_act 478 = .ok (.iconst 2, 1) := by decide +kernel
theorem dL_act_479 : decode cL_act 479 = .ok (.iconst 0, 1) := by decide +kernel
theorem dL_act_480 : decode cL_act 480 = .ok (.iconst 0, 1) := by decide +kernel
theorem dL_act_481 : decode cL_act 481 = .ok (.iconst 0, 1) := by decide +kernel
theorem dL_act_482 : decode cL_act 482 = .ok (.invokestatic 184, 3) := by decide +kernel
theorem dL_act_485 : decode cL_act 485 = .ok (.iload_n 2, 1) := by decide +kernel
theorem dL_act_486 : decode cL_act 486 = .ok (.bipush 16, 2) := by decide +kernel
theorem dL_act_488 : decode cL_act 488 = .ok (.idiv, 1) := by decide +kernel
theorem dL_act_489 : decode cL_act 489 = .ok (.bipush 8, 2) := by decide +kernel
theorem dL_act_491 : decode cL_act 491 = .ok (.irem, 1) := by decide +kernel
theorem dL_act_492 : decode cL_act 492 = .ok (.iadd, 1) := by decide +kernel
theorem dL_act_493 : decode cL_act 493 = .ok (.bipush 40, 2) := by decide +kernel
theorem dL_act_495 : decode cL_act 495 = .ok (.irem, 1) := by decide +kernel
theorem dL_act_496 : decode cL_act 496 = .ok (.iload_n 2, 1) := by decide +kernel
theorem dL_act_497 : decode cL_act 497 = .ok (.sipush 128, 3) := by decide +kernel
theorem dL_act_500 : decode cL_act 500 = .ok (.idiv, 1) := by decide +kernel
theorem dL_act_501 : decode cL_act 501 = .ok (.bipush 8, 2) := by decide +kernel
theorem dL_act_503 : decode cL_act 503 = .ok (.irem, 1) := by decide +kernel
theorem dL_act_504 : decode cL_act 504 = .ok (.ifCond .le 7, 3) := by decide +kernel
theorem dL_act_507 : decode cL_act 507 = .ok (.iconst 1, 1) := by decide +kernel
theorem dL_act_508 : decode cL_act 508 = .ok (.goto 4, 3) := by decide +kernel
theorem dL_act_511 : decode cL_act 511 = .ok (.iconst 0, 1) := by decide +kernel
theorem dL_act_512 : decode cL_act 512 = .ok (.invokestatic 188, 3) := by decide +kernel
theorem dL_act_515 : decode cL_act 515 = .ok (.ireturn, 1) := by decide +kernel
theorem dL_law_0 : decode cL_law 0 = .ok (.new 8, 3) := by decide +kernel
theorem dL_law_3 : decode cL_law 3 = .ok (.dup, 1) := by decide +kernel
theorem dL_law_4 : decode cL_law 4 = .ok (.invokespecial 217, 3) := by decide +kernel
theorem dL_law_7 : decode cL_law 7 = .ok (.astore_n 1, 1) := by decide +kernel
theorem dL_law_8 : decode cL_law 8 = .ok (.new 8, 3) := by decide +kernel
theorem dL_law_11 : decode cL_law 11 = .ok (.dup, 1) := by decide +kernel
theorem dL_law_12 : decode cL_law 12 = .ok (.invokespecial 217, 3) := by decide +kernel
theorem dL_law_15 : decode cL_law 15 = .ok (.astore_n 2, 1) := by decide +kernel
theorem dL_law_16 : decode cL_law 16 = .ok (.iconst 1, 1) := by decide +kernel
theorem dL_law_17 : decode cL_law 17 = .ok (.istore_n 3, 1) := by decide +kernel
theorem dL_law_18 : decode cL_law 18 = .ok (.iconst 0, 1) := by decide +kernel
theorem dL_law_19 : decode cL_law 19 = .ok (.istore 4, 2) := by decide +kernel
theorem dL_law_21 : decode cL_law 21 = .ok (.iload 4, 2) := by decide +kernel
theorem dL_law_23 : decode cL_law 23 = .ok (.bipush 30, 2) := by decide +kernel
theorem dL_law_25 : decode cL_law 25 = .ok (.if_icmp .ge 217, 3) := by decide +kernel
theorem dL_law_28 : decode cL_law 28 = .ok (.iload_n 3, 1) := by decide +kernel
theorem dL_law_29 : decode cL_law 29 = .ok (.ifCond .eq 213, 3) := by decide +kernel
theorem dL_law_32 : decode cL_law 32 = .ok (.aload_n 0, 1) := by decide +kernel
theorem dL_law_33 : decode cL_law 33 = .ok (.iconst 2, 1) := by decide +kernel
theorem dL_law_34 : decode cL_law 34 = .ok (.iload 4, 2) := by decide +kernel
theorem dL_law_36 : decode cL_law 36 = .ok (.imul, 1) := by decide +kernel
theorem dL_law_37 : decode cL_law 37 = .ok (.invokestatic 218, 3) := by decide +kernel
theorem dL_law_40 : decode cL_law 40 = .ok (.istore 5, 2) := by decide +kernel
theorem dL_law_42 : decode cL_law 42 = .ok (.aload_n 0, 1) := by decide +kernel
theorem dL_law_43 : decode cL_law 43 = .ok (.iconst 2, 1) := by decide +kernel
theorem dL_law_44 : decode cL_law 44 = .ok (.iload 4, 2) := by decide +kernel
theorem dL_law_46 : decode cL_law 46 = .ok (.imul, 1) := by decide +kernel
theorem dL_law_47 : decode cL_law 47 = .ok (.iconst 1, 1) := by decide +kernel
theorem dL_law_48 : decode cL_law 48 = .ok (.iadd, 1) := by decide +kernel
theorem dL_law_49 : decode cL_law 49 = .ok (.invokestatic 218, 3) := by decide +kernel
theorem dL_law_52 : decode cL_law 52 = .ok (.istore 6, 2) := by decide +kernel
theorem dL_law_54 : decode cL_law 54 = .ok (.aload_n 1, 1) := by decide +kernel
theorem dL_law_55 : decode cL_law 55 = .ok (.iload 5, 2) := by decide +kernel
theorem dL_law_57 : decode cL_law 57 = .ok (.invokestatic 222, 3) := by decide +kernel
theorem dL_law_60 : decode cL_law 60 = .ok (.ifCond .eq 45, 3) := by decide +kernel
theorem dL_law_63 : decode cL_law 63 = .ok (.aload_n 1, 1) := by decide +kernel
theorem dL_law_64 : decode cL_law 64 = .ok (.iload 5, 2) := by decide +kernel
theorem dL_law_66 : decode cL_law 66 = .ok (.iload 6, 2) := by decide +kernel
theorem dL_law_68 : decode cL_law 68 = .ok (.invokestatic 226, 3) := by decide +kernel
theorem dL_law_71 : decode cL_law 71 = .ok (.aload_n 2, 1) := by decide +kernel
theorem dL_law_72 : decode cL_law 72 = .ok (.iload 5, 2) := by decide +kernel
theorem dL_law_74 : decode cL_law 74 = .ok (.iload 6, 2) := by decide +kernel
theorem dL_law_76 : decode cL_law 76 = .ok (.invokestatic 226, 3) := by decide +kernel
theorem dL_law_79 : decode cL_law 79 = .ok (.if_icmp .ne 26, 3) := by decide +kernel
theorem dL_law_82 : decode cL_law 82 = .ok (.aload_n 1, 1) := by decide +kernel
theorem dL_law_83 : decode cL_law 83 = .ok (.iload 6, 2) := by decide +kernel
theorem dL_law_85 : decode cL_law 85 = .ok (.invokestatic 222, 3) := by decide +kernel
theorem dL_law_88 : decode cL_law 88 = .ok (.ifCond .eq 17, 3) := by decide +kernel
theorem dL_law_91 : decode cL_law 91 = .ok (.aload_n 1, 1) := by decide +kernel
theorem dL_law_92 : decode cL_law 92 = .ok (.aload_n 2, 1) := by decide +kernel
theorem dL_law_93 : decode cL_law 93 = .ok (.iload 5, 2) := by decide +kernel
theorem dL_law_95 : decode cL_law 95 = .ok (.invokestatic 229, 3) := by decide +kernel
theorem dL_law_98 : decode cL_law 98 = .ok (.ifCond .eq 7, 3) := by decide +kernel
theorem dL_law_101 : decode cL_law 101 = .ok (.iconst 1, 1) := by decide +kernel
theorem dL_law_102 : decode cL_law 102 = .ok (.goto 4, 3) := by decide +kernel
theorem dL_law_105 : decode cL_law 105 = .ok (.iconst 0, 1) := by decide +kernel
theorem dL_law_106 : decode cL_law 106 = .ok (.istore_n 3, 1) := by decide +kernel
theorem dL_law_107 : decode cL_law 107 = .ok (.iload 4, 2) := by decide +kernel
theorem dL_law_109 : decode cL_law 109 = .ok (.iconst 5, 1) := by decide +kernel
theorem dL_law_110 : decode cL_law 110 = .ok (.irem, 1) := by decide +kernel
theorem dL_law_111 : decode cL_law 111 = .ok (.iconst 4, 1) := by decide +kernel
theorem dL_law_112 : decode cL_law 112 = .ok (.if_icmp .ne 124, 3) := by decide +kernel
theorem dL_law_115 : decode cL_law 115 = .ok (.iload_n 3, 1) := by decide +kernel
theorem dL_law_116 : decode cL_law 116 = .ok (.ifCond .eq 120, 3) := by decide +kernel
theorem dL_law_119 : decode cL_law 119 = .ok (.aload_n 1, 1) := by decide +kernel
theorem dL_law_120 : decode cL_law 120 = .ok (.iload 6, 2) := by decide +kernel
theorem dL_law_122 : decode cL_law 122 = .ok (.invokestatic 233, 3) := by decide +kernel
theorem dL_law_125 : decode cL_law 125 = .ok (.ifCond .eq 16, 3) := by decide +kernel
theorem dL_law_128 : decode cL_law 128 = .ok (.aload_n 2, 1) := by decide +kernel
theorem dL_law_129 : decode cL_law 129 = .ok (.iload 6, 2) := by decide +kernel
theorem dL_law_131 : decode cL_law 131 = .ok (.invokestatic 233, 3) := by decide +kernel
theorem dL_law_134 : decode cL_law 134 = .ok (.ifCond .eq 7, 3) := by decide +kernel
theorem dL_law_137 : decode cL_law 137 = .ok (.iconst 1, 1) := by decide +kernel
theorem dL_law_138 : decode cL_law 138 = .ok (.goto 4, 3) := by decide +kernel
theorem dL_law_141 : decode cL_law 141 = .ok (.iconst 0, 1) := by decide +kernel
theorem dL_law_142 : decode cL_law 142 = .ok (.istore_n 3, 1) := by decide +kernel
theorem dL_law_143 : decode cL_law 143 = .ok (.iload 5, 2) := by decide +kernel
theorem dL_law_145 : decode cL_law 145 = .ok (.i2l, 1) := by decide +kernel
theorem dL_law_146 : decode cL_law 146 = .ok (.ldc2_w 236, 3) := by decide +kernel
theorem dL_law_149 : decode cL_law 149 = .ok (.lmul, 1) := by decide +kernel
theorem dL_law_150 : decode cL_law 150 = .ok (.ldc2_w 238, 3) := by decide +kernel
theorem dL_law_153 : decode cL_law 153 = .ok (.lsub, 1) := by decide +kernel
theorem dL_law_154 : decode cL_law 154 = .ok (.lstore 7, 2) := by decide +kernel
theorem dL_law_156 : decode cL_law 156 = .ok (.aload_n 1, 1) := by decide +kernel
theorem dL_law_157 : decode cL_law 157 = .ok (.lload 7, 2) := by decide +kernel
theorem dL_law_159 : decode cL_law 159 = .ok (.iconst 1, 1) := by decide +kernel
theorem dL_law_160 : decode cL_law 160 = .ok (.iload 6, 2) := by decide +kernel
theorem dL_law_162 : decode cL_law 162 = .ok (.bipush 30, 2) := by decide +kernel
theorem dL_law_164 : decode cL_law 164 = .ok (.irem, 1) := by decide +kernel
theorem dL_law_165 : decode cL_law 165 = .ok (.iadd, 1) := by decide +kernel
theorem dL_law_166 : decode cL_law 166 = .ok (.invokestatic 204, 3) := by decide +kernel
theorem dL_law_169 : decode cL_law 169 = .ok (.istore 9, 2) := by decide +kernel
theorem dL_law_171 : decode cL_law 171 = .ok (.iload_n 3, 1) := by decide +kernel
theorem dL_law_172 : decode cL_law 172 = .ok (.ifCond .eq 62, 3) := by decide +kernel
theorem dL_law_175 : decode cL_law 175 = .ok (.iload 9, 2) := by decide +kernel
theorem dL_law_177 : decode cL_law 177 = .ok (.aload_n 2, 1) := by decide +kernel
theorem dL_law_178 : decode cL_law 178 = .ok (.lload 7, 2) := by decide +kernel
theorem dL_law_180 : decode cL_law 180 = .ok (.iconst 1, 1) := by decide +kernel
theorem dL_law_181 : decode cL_law 181 = .ok (.iload 6, 2) := by decide +kernel
theorem dL_law_183 : decode cL_law 183 = .ok (.bipush 30, 2) := by decide +kernel
theorem dL_law_185 : decode cL_law 185 = .ok (.irem, 1) := by decide +kernel
theorem dL_law_186 : decode cL_law 186 = .ok (.iadd, 1) := by decide +kernel
theorem dL_law_187 : decode cL_law 187 = .ok (.invokestatic 204, 3) := by decide +kernel
theorem dL_law_190 : decode cL_law 190 = .ok (.if_icmp .ne 44, 3) := by decide +kernel
theorem dL_law_193 : decode cL_law 193 = .ok (.aload_n 1, 1) := by decide +kernel
theorem dL_law_194 : decode cL_law 194 = .ok (.iconst 2, 1) := by decide +kernel
theorem dL_law_195 : decode cL_law 195 = .ok (.iload 6, 2) := by decide +kernel
theorem dL_law_197 : decode cL_law 197 = .ok (.i2l, 1) := by decide +kernel
theorem dL_law_198 : decode cL_law 198 = .ok (.ldc2_w 240, 3) := by decide +kernel
theorem dL_law_201 : decode cL_law 201 = .ok (.lmul, 1) := by decide +kernel
theorem dL_law_202 : decode cL_law 202 = .ok (.invokestatic 196, 3) := by decide +kernel
theorem dL_law_205 : decode cL_law 205 = .ok (.aload_n 2, 1) := by decide +kernel
theorem dL_law_206 : decode cL_law 206 = .ok (.iconst 2, 1) := by decide +kernel
theorem dL_law_207 : decode cL_law 207 = .ok (.iload 6, 2) := by decide +kernel
theorem dL_law_209 : decode cL_law 209 = .ok (.i2l, 1) := by decide +kernel
theorem dL_law_210 : decode cL_law 210 = .ok (.ldc2_w 240, 3) := by decide +kernel
theorem dL_law_213 : decode cL_law 213 = .ok (.lmul, 1) := by decide +kernel
theorem dL_law_214 : decode cL_law 214 = .ok (.invokestatic 196, 3) := by decide +kernel
theorem dL_law_217 : decode cL_law 217 = .ok (.if_icmp .ne 17, 3) := by decide +kernel
theorem dL_law_220 : decode cL_law 220 = .ok (.aload_n 1, 1) := by decide +kernel
theorem dL_law_221 : decode cL_law 221 = .ok (.aload_n 2, 1) := by decide +kernel
theorem dL_law_222 : decode cL_law 222 = .ok (.iload 6, 2) := by decide +kernel
theorem dL_law_224 : decode cL_law 224 = .ok (.invokestatic 229, 3) := by decide +kernel
theorem dL_law_227 : decode cL_law 227 = .ok (.ifCond .eq 7, 3) := by decide +kernel
theorem dL_law_230 : decode cL_law 230 = .ok (.iconst 1, 1) := by decide +kernel
theorem dL_law_231 : decode cL_law 231 = .ok (.goto 4, 3) := by decide +kernel
theorem dL_law_234 : decode cL_law 234 = .ok (.iconst 0, 1) := by decide +kernel
theorem dL_law_235 : decode cL_law 235 = .ok (.istore_n 3, 1) := by decide +kernel
theorem dL_law_236 : decode cL_law 236 = .ok (.iinc 4 1, 3) := by decide +kernel
theorem dL_law_239 : decode cL_law 239 = .ok (.goto (-218), 3) := by decide +kernel
theorem dL_law_242 : decode cL_law 242 = .ok (.iload_n 3, 1) := by decide +kernel
theorem dL_law_243 : decode cL_law 243 = .ok (.ireturn, 1) := by decide +kernel
abbrev vwCl : List vw_C := [(RX1, TX1, 3), (RX2, TX2, 14), (RX3, TX3, 3), (RX4, TX4, 5), (RX5, TX5, 6)]
