/-! ===== printed by wip/whole/tools: the law ===== -/
abbrev cL_law : ByteArray := code
abbrev mL_law (b n : Nat) (xs : Nat → Int32) : tq_M := (RL, cL_law, 7, some .boolean, false, [], some (b, n, xs))
theorem dL_law_0 : decode cL_law 0 = .ok (.new 8, 3) := by decide +kernel
theorem dL_law_3 : decode cL_law 3 = .ok (.dup, 1) := by decide +kernel
theorem dL_law_4 : decode cL_law 4 = .ok (.invokespecial 167, 3) := by decide +kernel
theorem dL_law_7 : decode cL_law 7 = .ok (.astore_n 1, 1) := by decide +kernel
theorem dL_law_8 : decode cL_law 8 = .ok (.new 168, 3) := by decide +kernel
theorem dL_law_11 : decode cL_law 11 = .ok (.dup, 1) := by decide +kernel
theorem dL_law_12 : decode cL_law 12 = .ok (.invokespecial 170, 3) := by decide +kernel
theorem dL_law_15 : decode cL_law 15 = .ok (.astore_n 2, 1) := by decide +kernel
theorem dL_law_16 : decode cL_law 16 = .ok (.iconst 1, 1) := by decide +kernel
theorem dL_law_17 : decode cL_law 17 = .ok (.newarray .long, 2) := by decide +kernel
theorem dL_law_19 : decode cL_law 19 = .ok (.astore_n 3, 1) := by decide +kernel
theorem dL_law_20 : decode cL_law 20 = .ok (.iconst 0, 1) := by decide +kernel
theorem dL_law_21 : decode cL_law 21 = .ok (.istore 4, 2) := by decide +kernel
theorem dL_law_23 : decode cL_law 23 = .ok (.iload 4, 2) := by decide +kernel
theorem dL_law_25 : decode cL_law 25 = .ok (.aload_n 0, 1) := by decide +kernel
theorem dL_law_26 : decode cL_law 26 = .ok (.arraylength, 1) := by decide +kernel
theorem dL_law_27 : decode cL_law 27 = .ok (.iconst 5, 1) := by decide +kernel
theorem dL_law_28 : decode cL_law 28 = .ok (.isub, 1) := by decide +kernel
theorem dL_law_29 : decode cL_law 29 = .ok (.if_icmp .gt 3582, 3) := by decide +kernel
theorem dL_law_32 : decode cL_law 32 = .ok (.aload_n 0, 1) := by decide +kernel
theorem dL_law_33 : decode cL_law 33 = .ok (.iload 4, 2) := by decide +kernel
theorem dL_law_35 : decode cL_law 35 = .ok (.iaload, 1) := by decide +kernel
theorem dL_law_36 : decode cL_law 36 = .ok (.bipush 63, 2) := by decide +kernel
theorem dL_law_38 : decode cL_law 38 = .ok (.iand, 1) := by decide +kernel
theorem dL_law_39 : decode cL_law 39 = .ok (.tableswitch 3566 0 54 #[233, 313, 393, 473, 529, 597, 665, 745, 813, 857, 870, 883, 896, 921, 977, 1033, 1089, 1145, 1213, 1269, 1325, 1338, 1382, 1474, 1554, 1610, 1706, 1798, 1811, 1852, 1920, 1988, 2056, 2124, 2180, 2248, 2347, 2450, 2541, 2621, 2700, 2713, 2769, 2825, 2888, 2944, 3000, 3068, 3124, 3192, 3236, 3292, 3360, 3440, 3503], 233) := by decide +kernel
theorem dL_law_272 : decode cL_law 272 = .ok (.aload_n 1, 1) := by decide +kernel
theorem dL_law_273 : decode cL_law 273 = .ok (.aload_n 0, 1) := by decide +kernel
theorem dL_law_274 : decode cL_law 274 = .ok (.iload 4, 2) := by decide +kernel
theorem dL_law_276 : decode cL_law 276 = .ok (.iconst 1, 1) := by decide +kernel
theorem dL_law_277 : decode cL_law 277 = .ok (.iadd, 1) := by decide +kernel
theorem dL_law_278 : decode cL_law 278 = .ok (.iaload, 1) := by decide +kernel
theorem dL_law_279 : decode cL_law 279 = .ok (.aload_n 0, 1) := by decide +kernel
theorem dL_law_280 : decode cL_law 280 = .ok (.iload 4, 2) := by decide +kernel
theorem dL_law_282 : decode cL_law 282 = .ok (.iconst 2, 1) := by decide +kernel
theorem dL_law_283 : decode cL_law 283 = .ok (.iadd, 1) := by decide +kernel
theorem dL_law_284 : decode cL_law 284 = .ok (.iaload, 1) := by decide +kernel
theorem dL_law_285 : decode cL_law 285 = .ok (.aload_n 0, 1) := by decide +kernel
theorem dL_law_286 : decode cL_law 286 = .ok (.iload 4, 2) := by decide +kernel
theorem dL_law_288 : decode cL_law 288 = .ok (.iconst 3, 1) := by decide +kernel
theorem dL_law_289 : decode cL_law 289 = .ok (.iadd, 1) := by decide +kernel
theorem dL_law_290 : decode cL_law 290 = .ok (.iaload, 1) := by decide +kernel
theorem dL_law_291 : decode cL_law 291 = .ok (.aload_n 3, 1) := by decide +kernel
theorem dL_law_292 : decode cL_law 292 = .ok (.invokestatic 171, 3) := by decide +kernel
theorem dL_law_295 : decode cL_law 295 = .ok (.istore 5, 2) := by decide +kernel
theorem dL_law_297 : decode cL_law 297 = .ok (.aload_n 2, 1) := by decide +kernel
theorem dL_law_298 : decode cL_law 298 = .ok (.aload_n 0, 1) := by decide +kernel
theorem dL_law_299 : decode cL_law 299 = .ok (.iload 4, 2) := by decide +kernel
theorem dL_law_301 : decode cL_law 301 = .ok (.iconst 1, 1) := by decide +kernel
theorem dL_law_302 : decode cL_law 302 = .ok (.iadd, 1) := by decide +kernel
theorem dL_law_303 : decode cL_law 303 = .ok (.iaload, 1) := by decide +kernel
theorem dL_law_304 : decode cL_law 304 = .ok (.aload_n 0, 1) := by decide +kernel
theorem dL_law_305 : decode cL_law 305 = .ok (.iload 4, 2) := by decide +kernel
theorem dL_law_307 : decode cL_law 307 = .ok (.iconst 2, 1) := by decide +kernel
theorem dL_law_308 : decode cL_law 308 = .ok (.iadd, 1) := by decide +kernel
theorem dL_law_309 : decode cL_law 309 = .ok (.iaload, 1) := by decide +kernel
theorem dL_law_310 : decode cL_law 310 = .ok (.aload_n 0, 1) := by decide +kernel
theorem dL_law_311 : decode cL_law 311 = .ok (.iload 4, 2) := by decide +kernel
theorem dL_law_313 : decode cL_law 313 = .ok (.iconst 3, 1) := by decide +kernel
theorem dL_law_314 : decode cL_law 314 = .ok (.iadd, 1) := by decide +kernel
theorem dL_law_315 : decode cL_law 315 = .ok (.iaload, 1) := by decide +kernel
theorem dL_law_316 : decode cL_law 316 = .ok (.invokevirtual 176, 3) := by decide +kernel
theorem dL_law_319 : decode cL_law 319 = .ok (.istore 6, 2) := by decide +kernel
theorem dL_law_321 : decode cL_law 321 = .ok (.aload_n 2, 1) := by decide +kernel
theorem dL_law_322 : decode cL_law 322 = .ok (.invokevirtual 177, 3) := by decide +kernel
theorem dL_law_325 : decode cL_law 325 = .ok (.iload 5, 2) := by decide +kernel
theorem dL_law_327 : decode cL_law 327 = .ok (.if_icmp .eq 5, 3) := by decide +kernel
theorem dL_law_330 : decode cL_law 330 = .ok (.iconst 0, 1) := by decide +kernel
theorem dL_law_331 : decode cL_law 331 = .ok (.ireturn, 1) := by decide +kernel
theorem dL_law_332 : decode cL_law 332 = .ok (.iload 5, 2) := by decide +kernel
theorem dL_law_334 : decode cL_law 334 = .ok (.ifCond .ne 15, 3) := by decide +kernel
theorem dL_law_337 : decode cL_law 337 = .ok (.aload_n 3, 1) := by decide +kernel
theorem dL_law_338 : decode cL_law 338 = .ok (.iconst 0, 1) := by decide +kernel
theorem dL_law_339 : decode cL_law 339 = .ok (.laload, 1) := by decide +kernel
theorem dL_law_340 : decode cL_law 340 = .ok (.iload 6, 2) := by decide +kernel
theorem dL_law_342 : decode cL_law 342 = .ok (.i2l, 1) := by decide +kernel
theorem dL_law_343 : decode cL_law 343 = .ok (.lcmp, 1) := by decide +kernel
theorem dL_law_344 : decode cL_law 344 = .ok (.ifCond .eq 5, 3) := by decide +kernel
theorem dL_law_347 : decode cL_law 347 = .ok (.iconst 0, 1) := by decide +kernel
theorem dL_law_348 : decode cL_law 348 = .ok (.ireturn, 1) := by decide +kernel
theorem dL_law_349 : decode cL_law 349 = .ok (.goto 3256, 3) := by decide +kernel
theorem dL_law_352 : decode cL_law 352 = .ok (.aload_n 1, 1) := by decide +kernel
theorem dL_law_353 : decode cL_law 353 = .ok (.aload_n 0, 1) := by decide +kernel
theorem dL_law_354 : decode cL_law 354 = .ok (.iload 4, 2) := by decide +kernel
theorem dL_law_356 : decode cL_law 356 = .ok (.iconst 1, 1) := by decide +kernel
theorem dL_law_357 : decode cL_law 357 = .ok (.iadd, 1) := by decide +kernel
theorem dL_law_358 : decode cL_law 358 = .ok (.iaload, 1) := by decide +kernel
theorem dL_law_359 : decode cL_law 359 = .ok (.aload_n 0, 1) := by decide +kernel
theorem dL_law_360 : decode cL_law 360 = .ok (.iload 4, 2) := by decide +kernel
theorem dL_law_362 : decode cL_law 362 = .ok (.iconst 2, 1) := by decide +kernel
theorem dL_law_363 : decode cL_law 363 = .ok (.iadd, 1) := by decide +kernel
theorem dL_law_364 : decode cL_law 364 = .ok (.iaload, 1) := by decide +kernel
theorem dL_law_365 : decode cL_law 365 = .ok (.aload_n 0, 1) := by decide +kernel
theorem dL_law_366 : decode cL_law 366 = .ok (.iload 4, 2) := by decide +kernel
theorem dL_law_368 : decode cL_law 368 = .ok (.iconst 3, 1) := by decide +kernel
theorem dL_law_369 : decode cL_law 369 = .ok (.iadd, 1) := by decide +kernel
theorem dL_law_370 : decode cL_law 370 = .ok (.iaload, 1) := by decide +kernel
theorem dL_law_371 : decode cL_law 371 = .ok (.aload_n 3, 1) := by decide +kernel
theorem dL_law_372 : decode cL_law 372 = .ok (.invokestatic 180, 3) := by decide +kernel
theorem dL_law_375 : decode cL_law 375 = .ok (.istore 5, 2) := by decide +kernel
theorem dL_law_377 : decode cL_law 377 = .ok (.aload_n 2, 1) := by decide +kernel
theorem dL_law_378 : decode cL_law 378 = .ok (.aload_n 0, 1) := by decide +kernel
theorem dL_law_379 : decode cL_law 379 = .ok (.iload 4, 2) := by decide +kernel
theorem dL_law_381 : decode cL_law 381 = .ok (.iconst 1, 1) := by decide +kernel
theorem dL_law_382 : decode cL_law 382 = .ok (.iadd, 1) := by decide +kernel
theorem dL_law_383 : decode cL_law 383 = .ok (.iaload, 1) := by decide +kernel
theorem dL_law_384 : decode cL_law 384 = .ok (.aload_n 0, 1) := by decide +kernel
theorem dL_law_385 : decode cL_law 385 = .ok (.iload 4, 2) := by decide +kernel
theorem dL_law_387 : decode cL_law 387 = .ok (.iconst 2, 1) := by decide +kernel
theorem dL_law_388 : decode cL_law 388 = .ok (.iadd, 1) := by decide +kernel
theorem dL_law_389 : decode cL_law 389 = .ok (.iaload, 1) := by decide +kernel
theorem dL_law_390 : decode cL_law 390 = .ok (.aload_n 0, 1) := by decide +kernel
theorem dL_law_391 : decode cL_law 391 = .ok (.iload 4, 2) := by decide +kernel
theorem dL_law_393 : decode cL_law 393 = .ok (.iconst 3, 1) := by decide +kernel
theorem dL_law_394 : decode cL_law 394 = .ok (.iadd, 1) := by decide +kernel
theorem dL_law_395 : decode cL_law 395 = .ok (.iaload, 1) := by decide +kernel
theorem dL_law_396 : decode cL_law 396 = .ok (.invokevirtual 182, 3) := by decide +kernel
theorem dL_law_399 : decode cL_law 399 = .ok (.istore 6, 2) := by decide +kernel
theorem dL_law_401 : decode cL_law 401 = .ok (.aload_n 2, 1) := by decide +kernel
theorem dL_law_402 : decode cL_law 402 = .ok (.invokevirtual 177, 3) := by decide +kernel
theorem dL_law_405 : decode cL_law 405 = .ok (.iload 5, 2) := by decide +kernel
theorem dL_law_407 : decode cL_law 407 = .ok (.if_icmp .eq 5, 3) := by decide +kernel
theorem dL_law_410 : decode cL_law 410 = .ok (.iconst 0, 1) := by decide +kernel
theorem dL_law_411 : decode cL_law 411 = .ok (.ireturn, 1) := by decide +kernel
theorem dL_law_412 : decode cL_law 412 = .ok (.iload 5, 2) := by decide +kernel
theorem dL_law_414 : decode cL_law 414 = .ok (.ifCond .ne 15, 3) := by decide +kernel
theorem dL_law_417 : decode cL_law 417 = .ok (.aload_n 3, 1) := by decide +kernel
theorem dL_law_418 : decode cL_law 418 = .ok (.iconst 0, 1) := by decide +kernel
theorem dL_law_419 : decode cL_law 419 = .ok (.laload, 1) := by decide +kernel
theorem dL_law_420 : decode cL_law 420 = .ok (.iload 6, 2) := by decide +kernel
theorem dL_law_422 : decode cL_law 422 = .ok (.i2l, 1) := by decide +kernel
theorem dL_law_423 : decode cL_law 423 = .ok (.lcmp, 1) := by decide +kernel
theorem dL_law_424 : decode cL_law 424 = .ok (.ifCond .eq 5, 3) := by decide +kernel
theorem dL_law_427 : decode cL_law 427 = .ok (.iconst 0, 1) := by decide +kernel
theorem dL_law_428 : decode cL_law 428 = .ok (.ireturn, 1) := by decide +kernel
theorem dL_law_429 : decode cL_law 429 = .ok (.goto 3176, 3) := by decide +kernel
theorem dL_law_432 : decode cL_law 432 = .ok (.aload_n 1, 1) := by decide +kernel
theorem dL_law_433 : decode cL_law 433 = .ok (.aload_n 0, 1) := by decide +kernel
theorem dL_law_434 : decode cL_law 434 = .ok (.iload 4, 2) := by decide +kernel
theorem dL_law_436 : decode cL_law 436 = .ok (.iconst 1, 1) := by decide +kernel
theorem dL_law_437 : decode cL_law 437 = .ok (.iadd, 1) := by decide +kernel
theorem dL_law_438 : decode cL_law 438 = .ok (.iaload, 1) := by decide +kernel
theorem dL_law_439 : decode cL_law 439 = .ok (.aload_n 0, 1) := by decide +kernel
theorem dL_law_440 : decode cL_law 440 = .ok (.iload 4, 2) := by decide +kernel
theorem dL_law_442 : decode cL_law 442 = .ok (.iconst 2, 1) := by decide +kernel
theorem dL_law_443 : decode cL_law 443 = .ok (.iadd, 1) := by decide +kernel
theorem dL_law_444 : decode cL_law 444 = .ok (.iaload, 1) := by decide +kernel
theorem dL_law_445 : decode cL_law 445 = .ok (.aload_n 0, 1) := by decide +kernel
theorem dL_law_446 : decode cL_law 446 = .ok (.iload 4, 2) := by decide +kernel
theorem dL_law_448 : decode cL_law 448 = .ok (.iconst 3, 1) := by decide +kernel
theorem dL_law_449 : decode cL_law 449 = .ok (.iadd, 1) := by decide +kernel
theorem dL_law_450 : decode cL_law 450 = .ok (.iaload, 1) := by decide +kernel
theorem dL_law_451 : decode cL_law 451 = .ok (.aload_n 3, 1) := by decide +kernel
theorem dL_law_452 : decode cL_law 452 = .ok (.invokestatic 183, 3) := by decide +kernel
theorem dL_law_455 : decode cL_law 455 = .ok (.istore 5, 2) := by decide +kernel
theorem dL_law_457 : decode cL_law 457 = .ok (.aload_n 2, 1) := by decide +kernel
theorem dL_law_458 : decode cL_law 458 = .ok (.aload_n 0, 1) := by decide +kernel
theorem dL_law_459 : decode cL_law 459 = .ok (.iload 4, 2) := by decide +kernel
theorem dL_law_461 : decode cL_law 461 = .ok (.iconst 1, 1) := by decide +kernel
theorem dL_law_462 : decode cL_law 462 = .ok (.iadd, 1) := by decide +kernel
theorem dL_law_463 : decode cL_law 463 = .ok (.iaload, 1) := by decide +kernel
theorem dL_law_464 : decode cL_law 464 = .ok (.aload_n 0, 1) := by decide +kernel
theorem dL_law_465 : decode cL_law 465 = .ok (.iload 4, 2) := by decide +kernel
theorem dL_law_467 : decode cL_law 467 = .ok (.iconst 2, 1) := by decide +kernel
theorem dL_law_468 : decode cL_law 468 = .ok (.iadd, 1) := by decide +kernel
theorem dL_law_469 : decode cL_law 469 = .ok (.iaload, 1) := by decide +kernel
theorem dL_law_470 : decode cL_law 470 = .ok (.aload_n 0, 1) := by decide +kernel
theorem dL_law_471 : decode cL_law 471 = .ok (.iload 4, 2) := by decide +kernel
theorem dL_law_473 : decode cL_law 473 = .ok (.iconst 3, 1) := by decide +kernel
theorem dL_law_474 : decode cL_law 474 = .ok (.iadd, 1) := by decide +kernel
theorem dL_law_475 : decode cL_law 475 = .ok (.iaload, 1) := by decide +kernel
theorem dL_law_476 : decode cL_law 476 = .ok (.invokevirtual 185, 3) := by decide +kernel
theorem dL_law_479 : decode cL_law 479 = .ok (.istore 6, 2) := by decide +kernel
theorem dL_law_481 : decode cL_law 481 = .ok (.aload_n 2, 1) := by decide +kernel
theorem dL_law_482 : decode cL_law 482 = .ok (.invokevirtual 177, 3) := by decide +kernel
theorem dL_law_485 : decode cL_law 485 = .ok (.iload 5, 2) := by decide +kernel
theorem dL_law_487 : decode cL_law 487 = .ok (.if_icmp .eq 5, 3) := by decide +kernel
theorem dL_law_490 : decode cL_law 490 = .ok (.iconst 0, 1) := by decide +kernel
theorem dL_law_491 : decode cL_law 491 = .ok (.ireturn, 1) := by decide +kernel
theorem dL_law_492 : decode cL_law 492 = .ok (.iload 5, 2) := by decide +kernel
theorem dL_law_494 : decode cL_law 494 = .ok (.ifCond .ne 15, 3) := by decide +kernel
theorem dL_law_497 : decode cL_law 497 = .ok (.aload_n 3, 1) := by decide +kernel
theorem dL_law_498 : decode cL_law 498 = .ok (.iconst 0, 1) := by decide +kernel
theorem dL_law_499 : decode cL_law 499 = .ok (.laload, 1) := by decide +kernel
theorem dL_law_500 : decode cL_law 500 = .ok (.iload 6, 2) := by decide +kernel
theorem dL_law_502 : decode cL_law 502 = .ok (.i2l, 1) := by decide +kernel
theorem dL_law_503 : decode cL_law 503 = .ok (.lcmp, 1) := by decide +kernel
theorem dL_law_504 : decode cL_law 504 = .ok (.ifCond .eq 5, 3) := by decide +kernel
theorem dL_law_507 : decode cL_law 507 = .ok (.iconst 0, 1) := by decide +kernel
theorem dL_law_508 : decode cL_law 508 = .ok (.ireturn, 1) := by decide +kernel
theorem dL_law_509 : decode cL_law 509 = .ok (.goto 3096, 3) := by decide +kernel
theorem dL_law_512 : decode cL_law 512 = .ok (.aload_n 1, 1) := by decide +kernel
theorem dL_law_513 : decode cL_law 513 = .ok (.aload_n 0, 1) := by decide +kernel
theorem dL_law_514 : decode cL_law 514 = .ok (.iload 4, 2) := by decide +kernel
theorem dL_law_516 : decode cL_law 516 = .ok (.iconst 1, 1) := by decide +kernel
theorem dL_law_517 : decode cL_law 517 = .ok (.iadd, 1) := by decide +kernel
theorem dL_law_518 : decode cL_law 518 = .ok (.iaload, 1) := by decide +kernel
theorem dL_law_519 : decode cL_law 519 = .ok (.aload_n 3, 1) := by decide +kernel
theorem dL_law_520 : decode cL_law 520 = .ok (.invokestatic 186, 3) := by decide +kernel
theorem dL_law_523 : decode cL_law 523 = .ok (.istore 5, 2) := by decide +kernel
theorem dL_law_525 : decode cL_law 525 = .ok (.aload_n 2, 1) := by decide +kernel
theorem dL_law_526 : decode cL_law 526 = .ok (.aload_n 0, 1) := by decide +kernel
theorem dL_law_527 : decode cL_law 527 = .ok (.iload 4, 2) := by decide +kernel
theorem dL_law_529 : decode cL_law 529 = .ok (.iconst 1, 1) := by decide +kernel
theorem dL_law_530 : decode cL_law 530 = .ok (.iadd, 1) := by decide +kernel
theorem dL_law_531 : decode cL_law 531 = .ok (.iaload, 1) := by decide +kernel
theorem dL_law_532 : decode cL_law 532 = .ok (.invokevirtual 189, 3) := by decide +kernel
theorem dL_law_535 : decode cL_law 535 = .ok (.istore 6, 2) := by decide +kernel
theorem dL_law_537 : decode cL_law 537 = .ok (.aload_n 2, 1) := by decide +kernel
theorem dL_law_538 : decode cL_law 538 = .ok (.invokevirtual 177, 3) := by decide +kernel
theorem dL_law_541 : decode cL_law 541 = .ok (.iload 5, 2) := by decide +kernel
theorem dL_law_543 : decode cL_law 543 = .ok (.if_icmp .eq 5, 3) := by decide +kernel
theorem dL_law_546 : decode cL_law 546 = .ok (.iconst 0, 1) := by decide +kernel
theorem dL_law_547 : decode cL_law 547 = .ok (.ireturn, 1) := by decide +kernel
theorem dL_law_548 : decode cL_law 548 = .ok (.iload 5, 2) := by decide +kernel
theorem dL_law_550 : decode cL_law 550 = .ok (.ifCond .ne 15, 3) := by decide +kernel
theorem dL_law_553 : decode cL_law 553 = .ok (.aload_n 3, 1) := by decide +kernel
theorem dL_law_554 : decode cL_law 554 = .ok (.iconst 0, 1) := by decide +kernel
theorem dL_law_555 : decode cL_law 555 = .ok (.laload, 1) := by decide +kernel
theorem dL_law_556 : decode cL_law 556 = .ok (.iload 6, 2) := by decide +kernel
theorem dL_law_558 : decode cL_law 558 = .ok (.i2l, 1) := by decide +kernel
theorem dL_law_559 : decode cL_law 559 = .ok (.lcmp, 1) := by decide +kernel
theorem dL_law_560 : decode cL_law 560 = .ok (.ifCond .eq 5, 3) := by decide +kernel
theorem dL_law_563 : decode cL_law 563 = .ok (.iconst 0, 1) := by decide +kernel
theorem dL_law_564 : decode cL_law 564 = .ok (.ireturn, 1) := by decide +kernel
theorem dL_law_565 : decode cL_law 565 = .ok (.goto 3040, 3) := by decide +kernel
theorem dL_law_568 : decode cL_law 568 = .ok (.aload_n 1, 1) := by decide +kernel
theorem dL_law_569 : decode cL_law 569 = .ok (.aload_n 0, 1) := by decide +kernel
theorem dL_law_570 : decode cL_law 570 = .ok (.iload 4, 2) := by decide +kernel
theorem dL_law_572 : decode cL_law 572 = .ok (.iconst 1, 1) := by decide +kernel
theorem dL_law_573 : decode cL_law 573 = .ok (.iadd, 1) := by decide +kernel
theorem dL_law_574 : decode cL_law 574 = .ok (.iaload, 1) := by decide +kernel
theorem dL_law_575 : decode cL_law 575 = .ok (.aload_n 0, 1) := by decide +kernel
theorem dL_law_576 : decode cL_law 576 = .ok (.iload 4, 2) := by decide +kernel
theorem dL_law_578 : decode cL_law 578 = .ok (.iconst 2, 1) := by decide +kernel
theorem dL_law_579 : decode cL_law 579 = .ok (.iadd, 1) := by decide +kernel
theorem dL_law_580 : decode cL_law 580 = .ok (.iaload, 1) := by decide +kernel
theorem dL_law_581 : decode cL_law 581 = .ok (.aload_n 3, 1) := by decide +kernel
theorem dL_law_582 : decode cL_law 582 = .ok (.invokestatic 190, 3) := by decide +kernel
theorem dL_law_585 : decode cL_law 585 = .ok (.istore 5, 2) := by decide +kernel
theorem dL_law_587 : decode cL_law 587 = .ok (.aload_n 2, 1) := by decide +kernel
theorem dL_law_588 : decode cL_law 588 = .ok (.aload_n 0, 1) := by decide +kernel
theorem dL_law_589 : decode cL_law 589 = .ok (.iload 4, 2) := by decide +kernel
theorem dL_law_591 : decode cL_law 591 = .ok (.iconst 1, 1) := by decide +kernel
theorem dL_law_592 : decode cL_law 592 = .ok (.iadd, 1) := by decide +kernel
theorem dL_law_593 : decode cL_law 593 = .ok (.iaload, 1) := by decide +kernel
theorem dL_law_594 : decode cL_law 594 = .ok (.aload_n 0, 1) := by decide +kernel
theorem dL_law_595 : decode cL_law 595 = .ok (.iload 4, 2) := by decide +kernel
theorem dL_law_597 : decode cL_law 597 = .ok (.iconst 2, 1) := by decide +kernel
theorem dL_law_598 : decode cL_law 598 = .ok (.iadd, 1) := by decide +kernel
theorem dL_law_599 : decode cL_law 599 = .ok (.iaload, 1) := by decide +kernel
theorem dL_law_600 : decode cL_law 600 = .ok (.invokevirtual 193, 3) := by decide +kernel
theorem dL_law_603 : decode cL_law 603 = .ok (.istore 6, 2) := by decide +kernel
theorem dL_law_605 : decode cL_law 605 = .ok (.aload_n 2, 1) := by decide +kernel
theorem dL_law_606 : decode cL_law 606 = .ok (.invokevirtual 177, 3) := by decide +kernel
theorem dL_law_609 : decode cL_law 609 = .ok (.iload 5, 2) := by decide +kernel
theorem dL_law_611 : decode cL_law 611 = .ok (.if_icmp .eq 5, 3) := by decide +kernel
theorem dL_law_614 : decode cL_law 614 = .ok (.iconst 0, 1) := by decide +kernel
theorem dL_law_615 : decode cL_law 615 = .ok (.ireturn, 1) := by decide +kernel
theorem dL_law_616 : decode cL_law 616 = .ok (.iload 5, 2) := by decide +kernel
theorem dL_law_618 : decode cL_law 618 = .ok (.ifCond .ne 15, 3) := by decide +kernel
theorem dL_law_621 : decode cL_law 621 = .ok (.aload_n 3, 1) := by decide +kernel
theorem dL_law_622 : decode cL_law 622 = .ok (.iconst 0, 1) := by decide +kernel
theorem dL_law_623 : decode cL_law 623 = .ok (.laload, 1) := by decide +kernel
theorem dL_law_624 : decode cL_law 624 = .ok (.iload 6, 2) := by decide +kernel
theorem dL_law_626 : decode cL_law 626 = .ok (.i2l, 1) := by decide +kernel
theorem dL_law_627 : decode cL_law 627 = .ok (.lcmp, 1) := by decide +kernel
theorem dL_law_628 : decode cL_law 628 = .ok (.ifCond .eq 5, 3) := by decide +kernel
theorem dL_law_631 : decode cL_law 631 = .ok (.iconst 0, 1) := by decide +kernel
theorem dL_law_632 : decode cL_law 632 = .ok (.ireturn, 1) := by decide +kernel
theorem dL_law_633 : decode cL_law 633 = .ok (.goto 2972, 3) := by decide +kernel
theorem dL_law_636 : decode cL_law 636 = .ok (.aload_n 1, 1) := by decide +kernel
theorem dL_law_637 : decode cL_law 637 = .ok (.aload_n 0, 1) := by decide +kernel
theorem dL_law_638 : decode cL_law 638 = .ok (.iload 4, 2) := by decide +kernel
theorem dL_law_640 : decode cL_law 640 = .ok (.iconst 1, 1) := by decide +kernel
theorem dL_law_641 : decode cL_law 641 = .ok (.iadd, 1) := by decide +kernel
theorem dL_law_642 : decode cL_law 642 = .ok (.iaload, 1) := by decide +kernel
theorem dL_law_643 : decode cL_law 643 = .ok (.aload_n 0, 1) := by decide +kernel
theorem dL_law_644 : decode cL_law 644 = .ok (.iload 4, 2) := by decide +kernel
theorem dL_law_646 : decode cL_law 646 = .ok (.iconst 2, 1) := by decide +kernel
theorem dL_law_647 : decode cL_law 647 = .ok (.iadd, 1) := by decide +kernel
theorem dL_law_648 : decode cL_law 648 = .ok (.iaload, 1) := by decide +kernel
theorem dL_law_649 : decode cL_law 649 = .ok (.aload_n 3, 1) := by decide +kernel
theorem dL_law_650 : decode cL_law 650 = .ok (.invokestatic 194, 3) := by decide +kernel
theorem dL_law_653 : decode cL_law 653 = .ok (.istore 5, 2) := by decide +kernel
theorem dL_law_655 : decode cL_law 655 = .ok (.aload_n 2, 1) := by decide +kernel
theorem dL_law_656 : decode cL_law 656 = .ok (.aload_n 0, 1) := by decide +kernel
theorem dL_law_657 : decode cL_law 657 = .ok (.iload 4, 2) := by decide +kernel
theorem dL_law_659 : decode cL_law 659 = .ok (.iconst 1, 1) := by decide +kernel
theorem dL_law_660 : decode cL_law 660 = .ok (.iadd, 1) := by decide +kernel
theorem dL_law_661 : decode cL_law 661 = .ok (.iaload, 1) := by decide +kernel
theorem dL_law_662 : decode cL_law 662 = .ok (.aload_n 0, 1) := by decide +kernel
theorem dL_law_663 : decode cL_law 663 = .ok (.iload 4, 2) := by decide +kernel
theorem dL_law_665 : decode cL_law 665 = .ok (.iconst 2, 1) := by decide +kernel
theorem dL_law_666 : decode cL_law 666 = .ok (.iadd, 1) := by decide +kernel
theorem dL_law_667 : decode cL_law 667 = .ok (.iaload, 1) := by decide +kernel
theorem dL_law_668 : decode cL_law 668 = .ok (.invokevirtual 196, 3) := by decide +kernel
theorem dL_law_671 : decode cL_law 671 = .ok (.istore 6, 2) := by decide +kernel
theorem dL_law_673 : decode cL_law 673 = .ok (.aload_n 2, 1) := by decide +kernel
theorem dL_law_674 : decode cL_law 674 = .ok (.invokevirtual 177, 3) := by decide +kernel
theorem dL_law_677 : decode cL_law 677 = .ok (.iload 5, 2) := by decide +kernel
theorem dL_law_679 : decode cL_law 679 = .ok (.if_icmp .eq 5, 3) := by decide +kernel
theorem dL_law_682 : decode cL_law 682 = .ok (.iconst 0, 1) := by decide +kernel
theorem dL_law_683 : decode cL_law 683 = .ok (.ireturn, 1) := by decide +kernel
theorem dL_law_684 : decode cL_law 684 = .ok (.iload 5, 2) := by decide +kernel
theorem dL_law_686 : decode cL_law 686 = .ok (.ifCond .ne 15, 3) := by decide +kernel
theorem dL_law_689 : decode cL_law 689 = .ok (.aload_n 3, 1) := by decide +kernel
theorem dL_law_690 : decode cL_law 690 = .ok (.iconst 0, 1) := by decide +kernel
theorem dL_law_691 : decode cL_law 691 = .ok (.laload, 1) := by decide +kernel
theorem dL_law_692 : decode cL_law 692 = .ok (.iload 6, 2) := by decide +kernel
theorem dL_law_694 : decode cL_law 694 = .ok (.i2l, 1) := by decide +kernel
theorem dL_law_695 : decode cL_law 695 = .ok (.lcmp, 1) := by decide +kernel
theorem dL_law_696 : decode cL_law 696 = .ok (.ifCond .eq 5, 3) := by decide +kernel
theorem dL_law_699 : decode cL_law 699 = .ok (.iconst 0, 1) := by decide +kernel
theorem dL_law_700 : decode cL_law 700 = .ok (.ireturn, 1) := by decide +kernel
theorem dL_law_701 : decode cL_law 701 = .ok (.goto 2904, 3) := by decide +kernel
theorem dL_law_704 : decode cL_law 704 = .ok (.aload_n 1, 1) := by decide +kernel
theorem dL_law_705 : decode cL_law 705 = .ok (.aload_n 0, 1) := by decide +kernel
theorem dL_law_706 : decode cL_law 706 = .ok (.iload 4, 2) := by decide +kernel
theorem dL_law_708 : decode cL_law 708 = .ok (.iconst 1, 1) := by decide +kernel
theorem dL_law_709 : decode cL_law 709 = .ok (.iadd, 1) := by decide +kernel
theorem dL_law_710 : decode cL_law 710 = .ok (.iaload, 1) := by decide +kernel
theorem dL_law_711 : decode cL_law 711 = .ok (.aload_n 0, 1) := by decide +kernel
theorem dL_law_712 : decode cL_law 712 = .ok (.iload 4, 2) := by decide +kernel
theorem dL_law_714 : decode cL_law 714 = .ok (.iconst 2, 1) := by decide +kernel
theorem dL_law_715 : decode cL_law 715 = .ok (.iadd, 1) := by decide +kernel
theorem dL_law_716 : decode cL_law 716 = .ok (.iaload, 1) := by decide +kernel
theorem dL_law_717 : decode cL_law 717 = .ok (.aload_n 0, 1) := by decide +kernel
theorem dL_law_718 : decode cL_law 718 = .ok (.iload 4, 2) := by decide +kernel
theorem dL_law_720 : decode cL_law 720 = .ok (.iconst 3, 1) := by decide +kernel
theorem dL_law_721 : decode cL_law 721 = .ok (.iadd, 1) := by decide +kernel
theorem dL_law_722 : decode cL_law 722 = .ok (.iaload, 1) := by decide +kernel
theorem dL_law_723 : decode cL_law 723 = .ok (.aload_n 3, 1) := by decide +kernel
theorem dL_law_724 : decode cL_law 724 = .ok (.invokestatic 197, 3) := by decide +kernel
theorem dL_law_727 : decode cL_law 727 = .ok (.istore 5, 2) := by decide +kernel
theorem dL_law_729 : decode cL_law 729 = .ok (.aload_n 2, 1) := by decide +kernel
theorem dL_law_730 : decode cL_law 730 = .ok (.aload_n 0, 1) := by decide +kernel
theorem dL_law_731 : decode cL_law 731 = .ok (.iload 4, 2) := by decide +kernel
theorem dL_law_733 : decode cL_law 733 = .ok (.iconst 1, 1) := by decide +kernel
theorem dL_law_734 : decode cL_law 734 = .ok (.iadd, 1) := by decide +kernel
theorem dL_law_735 : decode cL_law 735 = .ok (.iaload, 1) := by decide +kernel
theorem dL_law_736 : decode cL_law 736 = .ok (.aload_n 0, 1) := by decide +kernel
theorem dL_law_737 : decode cL_law 737 = .ok (.iload 4, 2) := by decide +kernel
theorem dL_law_739 : decode cL_law 739 = .ok (.iconst 2, 1) := by decide +kernel
theorem dL_law_740 : decode cL_law 740 = .ok (.iadd, 1) := by decide +kernel
theorem dL_law_741 : decode cL_law 741 = .ok (.iaload, 1) := by decide +kernel
theorem dL_law_742 : decode cL_law 742 = .ok (.aload_n 0, 1) := by decide +kernel
theorem dL_law_743 : decode cL_law 743 = .ok (.iload 4, 2) := by decide +kernel
theorem dL_law_745 : decode cL_law 745 = .ok (.iconst 3, 1) := by decide +kernel
theorem dL_law_746 : decode cL_law 746 = .ok (.iadd, 1) := by decide +kernel
theorem dL_law_747 : decode cL_law 747 = .ok (.iaload, 1) := by decide +kernel
theorem dL_law_748 : decode cL_law 748 = .ok (.invokevirtual 199, 3) := by decide +kernel
theorem dL_law_751 : decode cL_law 751 = .ok (.istore 6, 2) := by decide +kernel
theorem dL_law_753 : decode cL_law 753 = .ok (.aload_n 2, 1) := by decide +kernel
theorem dL_law_754 : decode cL_law 754 = .ok (.invokevirtual 177, 3) := by decide +kernel
theorem dL_law_757 : decode cL_law 757 = .ok (.iload 5, 2) := by decide +kernel
theorem dL_law_759 : decode cL_law 759 = .ok (.if_icmp .eq 5, 3) := by decide +kernel
theorem dL_law_762 : decode cL_law 762 = .ok (.iconst 0, 1) := by decide +kernel
theorem dL_law_763 : decode cL_law 763 = .ok (.ireturn, 1) := by decide +kernel
theorem dL_law_764 : decode cL_law 764 = .ok (.iload 5, 2) := by decide +kernel
theorem dL_law_766 : decode cL_law 766 = .ok (.ifCond .ne 15, 3) := by decide +kernel
theorem dL_law_769 : decode cL_law 769 = .ok (.aload_n 3, 1) := by decide +kernel
theorem dL_law_770 : decode cL_law 770 = .ok (.iconst 0, 1) := by decide +kernel
theorem dL_law_771 : decode cL_law 771 = .ok (.laload, 1) := by decide +kernel
theorem dL_law_772 : decode cL_law 772 = .ok (.iload 6, 2) := by decide +kernel
theorem dL_law_774 : decode cL_law 774 = .ok (.i2l, 1) := by decide +kernel
theorem dL_law_775 : decode cL_law 775 = .ok (.lcmp, 1) := by decide +kernel
theorem dL_law_776 : decode cL_law 776 = .ok (.ifCond .eq 5, 3) := by decide +kernel
theorem dL_law_779 : decode cL_law 779 = .ok (.iconst 0, 1) := by decide +kernel
theorem dL_law_780 : decode cL_law 780 = .ok (.ireturn, 1) := by decide +kernel
theorem dL_law_781 : decode cL_law 781 = .ok (.goto 2824, 3) := by decide +kernel
theorem dL_law_784 : decode cL_law 784 = .ok (.aload_n 1, 1) := by decide +kernel
theorem dL_law_785 : decode cL_law 785 = .ok (.aload_n 0, 1) := by decide +kernel
theorem dL_law_786 : decode cL_law 786 = .ok (.iload 4, 2) := by decide +kernel
theorem dL_law_788 : decode cL_law 788 = .ok (.iconst 1, 1) := by decide +kernel
theorem dL_law_789 : decode cL_law 789 = .ok (.iadd, 1) := by decide +kernel
theorem dL_law_790 : decode cL_law 790 = .ok (.iaload, 1) := by decide +kernel
theorem dL_law_791 : decode cL_law 791 = .ok (.aload_n 0, 1) := by decide +kernel
theorem dL_law_792 : decode cL_law 792 = .ok (.iload 4, 2) := by decide +kernel
theorem dL_law_794 : decode cL_law 794 = .ok (.iconst 2, 1) := by decide +kernel
theorem dL_law_795 : decode cL_law 795 = .ok (.iadd, 1) := by decide +kernel
theorem dL_law_796 : decode cL_law 796 = .ok (.iaload, 1) := by decide +kernel
theorem dL_law_797 : decode cL_law 797 = .ok (.aload_n 3, 1) := by decide +kernel
theorem dL_law_798 : decode cL_law 798 = .ok (.invokestatic 200, 3) := by decide +kernel
theorem dL_law_801 : decode cL_law 801 = .ok (.istore 5, 2) := by decide +kernel
theorem dL_law_803 : decode cL_law 803 = .ok (.aload_n 2, 1) := by decide +kernel
theorem dL_law_804 : decode cL_law 804 = .ok (.aload_n 0, 1) := by decide +kernel
theorem dL_law_805 : decode cL_law 805 = .ok (.iload 4, 2) := by decide +kernel
theorem dL_law_807 : decode cL_law 807 = .ok (.iconst 1, 1) := by decide +kernel
theorem dL_law_808 : decode cL_law 808 = .ok (.iadd, 1) := by decide +kernel
theorem dL_law_809 : decode cL_law 809 = .ok (.iaload, 1) := by decide +kernel
theorem dL_law_810 : decode cL_law 810 = .ok (.aload_n 0, 1) := by decide +kernel
theorem dL_law_811 : decode cL_law 811 = .ok (.iload 4, 2) := by decide +kernel
theorem dL_law_813 : decode cL_law 813 = .ok (.iconst 2, 1) := by decide +kernel
theorem dL_law_814 : decode cL_law 814 = .ok (.iadd, 1) := by decide +kernel
theorem dL_law_815 : decode cL_law 815 = .ok (.iaload, 1) := by decide +kernel
theorem dL_law_816 : decode cL_law 816 = .ok (.invokevirtual 202, 3) := by decide +kernel
theorem dL_law_819 : decode cL_law 819 = .ok (.istore 6, 2) := by decide +kernel
theorem dL_law_821 : decode cL_law 821 = .ok (.aload_n 2, 1) := by decide +kernel
theorem dL_law_822 : decode cL_law 822 = .ok (.invokevirtual 177, 3) := by decide +kernel
theorem dL_law_825 : decode cL_law 825 = .ok (.iload 5, 2) := by decide +kernel
theorem dL_law_827 : decode cL_law 827 = .ok (.if_icmp .eq 5, 3) := by decide +kernel
theorem dL_law_830 : decode cL_law 830 = .ok (.iconst 0, 1) := by decide +kernel
theorem dL_law_831 : decode cL_law 831 = .ok (.ireturn, 1) := by decide +kernel
theorem dL_law_832 : decode cL_law 832 = .ok (.iload 5, 2) := by decide +kernel
theorem dL_law_834 : decode cL_law 834 = .ok (.ifCond .ne 15, 3) := by decide +kernel
theorem dL_law_837 : decode cL_law 837 = .ok (.aload_n 3, 1) := by decide +kernel
theorem dL_law_838 : decode cL_law 838 = .ok (.iconst 0, 1) := by decide +kernel
theorem dL_law_839 : decode cL_law 839 = .ok (.laload, 1) := by decide +kernel
theorem dL_law_840 : decode cL_law 840 = .ok (.iload 6, 2) := by decide +kernel
theorem dL_law_842 : decode cL_law 842 = .ok (.i2l, 1) := by decide +kernel
theorem dL_law_843 : decode cL_law 843 = .ok (.lcmp, 1) := by decide +kernel
theorem dL_law_844 : decode cL_law 844 = .ok (.ifCond .eq 5, 3) := by decide +kernel
theorem dL_law_847 : decode cL_law 847 = .ok (.iconst 0, 1) := by decide +kernel
theorem dL_law_848 : decode cL_law 848 = .ok (.ireturn, 1) := by decide +kernel
theorem dL_law_849 : decode cL_law 849 = .ok (.goto 2756, 3) := by decide +kernel
theorem dL_law_852 : decode cL_law 852 = .ok (.aload_n 1, 1) := by decide +kernel
theorem dL_law_853 : decode cL_law 853 = .ok (.aload_n 3, 1) := by decide +kernel
theorem dL_law_854 : decode cL_law 854 = .ok (.invokestatic 203, 3) := by decide +kernel
theorem dL_law_857 : decode cL_law 857 = .ok (.istore 5, 2) := by decide +kernel
theorem dL_law_859 : decode cL_law 859 = .ok (.aload_n 2, 1) := by decide +kernel
theorem dL_law_860 : decode cL_law 860 = .ok (.invokevirtual 206, 3) := by decide +kernel
theorem dL_law_863 : decode cL_law 863 = .ok (.istore 6, 2) := by decide +kernel
theorem dL_law_865 : decode cL_law 865 = .ok (.aload_n 2, 1) := by decide +kernel
theorem dL_law_866 : decode cL_law 866 = .ok (.invokevirtual 177, 3) := by decide +kernel
theorem dL_law_869 : decode cL_law 869 = .ok (.iload 5, 2) := by decide +kernel
theorem dL_law_871 : decode cL_law 871 = .ok (.if_icmp .eq 5, 3) := by decide +kernel
theorem dL_law_874 : decode cL_law 874 = .ok (.iconst 0, 1) := by decide +kernel
theorem dL_law_875 : decode cL_law 875 = .ok (.ireturn, 1) := by decide +kernel
theorem dL_law_876 : decode cL_law 876 = .ok (.iload 5, 2) := by decide +kernel
theorem dL_law_878 : decode cL_law 878 = .ok (.ifCond .ne 15, 3) := by decide +kernel
theorem dL_law_881 : decode cL_law 881 = .ok (.aload_n 3, 1) := by decide +kernel
theorem dL_law_882 : decode cL_law 882 = .ok (.iconst 0, 1) := by decide +kernel
theorem dL_law_883 : decode cL_law 883 = .ok (.laload, 1) := by decide +kernel
theorem dL_law_884 : decode cL_law 884 = .ok (.iload 6, 2) := by decide +kernel
theorem dL_law_886 : decode cL_law 886 = .ok (.i2l, 1) := by decide +kernel
theorem dL_law_887 : decode cL_law 887 = .ok (.lcmp, 1) := by decide +kernel
theorem dL_law_888 : decode cL_law 888 = .ok (.ifCond .eq 5, 3) := by decide +kernel
theorem dL_law_891 : decode cL_law 891 = .ok (.iconst 0, 1) := by decide +kernel
theorem dL_law_892 : decode cL_law 892 = .ok (.ireturn, 1) := by decide +kernel
theorem dL_law_893 : decode cL_law 893 = .ok (.goto 2712, 3) := by decide +kernel
theorem dL_law_896 : decode cL_law 896 = .ok (.aload_n 1, 1) := by decide +kernel
theorem dL_law_897 : decode cL_law 897 = .ok (.invokevirtual 207, 3) := by decide +kernel
theorem dL_law_900 : decode cL_law 900 = .ok (.aload_n 2, 1) := by decide +kernel
theorem dL_law_901 : decode cL_law 901 = .ok (.invokevirtual 210, 3) := by decide +kernel
theorem dL_law_904 : decode cL_law 904 = .ok (.if_icmp .eq 2701, 3) := by decide +kernel
theorem dL_law_907 : decode cL_law 907 = .ok (.iconst 0, 1) := by decide +kernel
theorem dL_law_908 : decode cL_law 908 = .ok (.ireturn, 1) := by decide +kernel
theorem dL_law_909 : decode cL_law 909 = .ok (.aload_n 1, 1) := by decide +kernel
theorem dL_law_910 : decode cL_law 910 = .ok (.invokevirtual 211, 3) := by decide +kernel
theorem dL_law_913 : decode cL_law 913 = .ok (.aload_n 2, 1) := by decide +kernel
theorem dL_law_914 : decode cL_law 914 = .ok (.invokevirtual 214, 3) := by decide +kernel
theorem dL_law_917 : decode cL_law 917 = .ok (.if_icmp .eq 2688, 3) := by decide +kernel
theorem dL_law_920 : decode cL_law 920 = .ok (.iconst 0, 1) := by decide +kernel
theorem dL_law_921 : decode cL_law 921 = .ok (.ireturn, 1) := by decide +kernel
theorem dL_law_922 : decode cL_law 922 = .ok (.aload_n 1, 1) := by decide +kernel
theorem dL_law_923 : decode cL_law 923 = .ok (.invokevirtual 215, 3) := by decide +kernel
theorem dL_law_926 : decode cL_law 926 = .ok (.aload_n 2, 1) := by decide +kernel
theorem dL_law_927 : decode cL_law 927 = .ok (.invokevirtual 218, 3) := by decide +kernel
theorem dL_law_930 : decode cL_law 930 = .ok (.if_icmp .eq 2675, 3) := by decide +kernel
theorem dL_law_933 : decode cL_law 933 = .ok (.iconst 0, 1) := by decide +kernel
theorem dL_law_934 : decode cL_law 934 = .ok (.ireturn, 1) := by decide +kernel
theorem dL_law_935 : decode cL_law 935 = .ok (.aload_n 1, 1) := by decide +kernel
theorem dL_law_936 : decode cL_law 936 = .ok (.aload_n 0, 1) := by decide +kernel
theorem dL_law_937 : decode cL_law 937 = .ok (.iload 4, 2) := by decide +kernel
theorem dL_law_939 : decode cL_law 939 = .ok (.iconst 1, 1) := by decide +kernel
theorem dL_law_940 : decode cL_law 940 = .ok (.iadd, 1) := by decide +kernel
theorem dL_law_941 : decode cL_law 941 = .ok (.iaload, 1) := by decide +kernel
theorem dL_law_942 : decode cL_law 942 = .ok (.invokevirtual 219, 3) := by decide +kernel
theorem dL_law_945 : decode cL_law 945 = .ok (.aload_n 2, 1) := by decide +kernel
theorem dL_law_946 : decode cL_law 946 = .ok (.aload_n 0, 1) := by decide +kernel
theorem dL_law_947 : decode cL_law 947 = .ok (.iload 4, 2) := by decide +kernel
theorem dL_law_949 : decode cL_law 949 = .ok (.iconst 1, 1) := by decide +kernel
theorem dL_law_950 : decode cL_law 950 = .ok (.iadd, 1) := by decide +kernel
theorem dL_law_951 : decode cL_law 951 = .ok (.iaload, 1) := by decide +kernel
theorem dL_law_952 : decode cL_law 952 = .ok (.invokevirtual 222, 3) := by decide +kernel
theorem dL_law_955 : decode cL_law 955 = .ok (.if_icmp .eq 2650, 3) := by decide +kernel
theorem dL_law_958 : decode cL_law 958 = .ok (.iconst 0, 1) := by decide +kernel
theorem dL_law_959 : decode cL_law 959 = .ok (.ireturn, 1) := by decide +kernel
theorem dL_law_960 : decode cL_law 960 = .ok (.aload_n 1, 1) := by decide +kernel
theorem dL_law_961 : decode cL_law 961 = .ok (.aload_n 0, 1) := by decide +kernel
theorem dL_law_962 : decode cL_law 962 = .ok (.iload 4, 2) := by decide +kernel
theorem dL_law_964 : decode cL_law 964 = .ok (.iconst 1, 1) := by decide +kernel
theorem dL_law_965 : decode cL_law 965 = .ok (.iadd, 1) := by decide +kernel
theorem dL_law_966 : decode cL_law 966 = .ok (.iaload, 1) := by decide +kernel
theorem dL_law_967 : decode cL_law 967 = .ok (.aload_n 3, 1) := by decide +kernel
theorem dL_law_968 : decode cL_law 968 = .ok (.invokestatic 223, 3) := by decide +kernel
theorem dL_law_971 : decode cL_law 971 = .ok (.istore 5, 2) := by decide +kernel
theorem dL_law_973 : decode cL_law 973 = .ok (.aload_n 2, 1) := by decide +kernel
theorem dL_law_974 : decode cL_law 974 = .ok (.aload_n 0, 1) := by decide +kernel
theorem dL_law_975 : decode cL_law 975 = .ok (.iload 4, 2) := by decide +kernel
theorem dL_law_977 : decode cL_law 977 = .ok (.iconst 1, 1) := by decide +kernel
theorem dL_law_978 : decode cL_law 978 = .ok (.iadd, 1) := by decide +kernel
theorem dL_law_979 : decode cL_law 979 = .ok (.iaload, 1) := by decide +kernel
theorem dL_law_980 : decode cL_law 980 = .ok (.invokevirtual 225, 3) := by decide +kernel
theorem dL_law_983 : decode cL_law 983 = .ok (.istore 6, 2) := by decide +kernel
theorem dL_law_985 : decode cL_law 985 = .ok (.aload_n 2, 1) := by decide +kernel
theorem dL_law_986 : decode cL_law 986 = .ok (.invokevirtual 177, 3) := by decide +kernel
theorem dL_law_989 : decode cL_law 989 = .ok (.iload 5, 2) := by decide +kernel
theorem dL_law_991 : decode cL_law 991 = .ok (.if_icmp .eq 5, 3) := by decide +kernel
theorem dL_law_994 : decode cL_law 994 = .ok (.iconst 0, 1) := by decide +kernel
theorem dL_law_995 : decode cL_law 995 = .ok (.ireturn, 1) := by decide +kernel
theorem dL_law_996 : decode cL_law 996 = .ok (.iload 5, 2) := by decide +kernel
theorem dL_law_998 : decode cL_law 998 = .ok (.ifCond .ne 15, 3) := by decide +kernel
theorem dL_law_1001 : decode cL_law 1001 = .ok (.aload_n 3, 1) := by decide +kernel
theorem dL_law_1002 : decode cL_law 1002 = .ok (.iconst 0, 1) := by decide +kernel
theorem dL_law_1003 : decode cL_law 1003 = .ok (.laload, 1) := by decide +kernel
theorem dL_law_1004 : decode cL_law 1004 = .ok (.iload 6, 2) := by decide +kernel
theorem dL_law_1006 : decode cL_law 1006 = .ok (.i2l, 1) := by decide +kernel
theorem dL_law_1007 : decode cL_law 1007 = .ok (.lcmp, 1) := by decide +kernel
theorem dL_law_1008 : decode cL_law 1008 = .ok (.ifCond .eq 5, 3) := by decide +kernel
theorem dL_law_1011 : decode cL_law 1011 = .ok (.iconst 0, 1) := by decide +kernel
theorem dL_law_1012 : decode cL_law 1012 = .ok (.ireturn, 1) := by decide +kernel
theorem dL_law_1013 : decode cL_law 1013 = .ok (.goto 2592, 3) := by decide +kernel
theorem dL_law_1016 : decode cL_law 1016 = .ok (.aload_n 1, 1) := by decide +kernel
theorem dL_law_1017 : decode cL_law 1017 = .ok (.aload_n 0, 1) := by decide +kernel
theorem dL_law_1018 : decode cL_law 1018 = .ok (.iload 4, 2) := by decide +kernel
theorem dL_law_1020 : decode cL_law 1020 = .ok (.iconst 1, 1) := by decide +kernel
theorem dL_law_1021 : decode cL_law 1021 = .ok (.iadd, 1) := by decide +kernel
theorem dL_law_1022 : decode cL_law 1022 = .ok (.iaload, 1) := by decide +kernel
theorem dL_law_1023 : decode cL_law 1023 = .ok (.aload_n 3, 1) := by decide +kernel
theorem dL_law_1024 : decode cL_law 1024 = .ok (.invokestatic 226, 3) := by decide +kernel
theorem dL_law_1027 : decode cL_law 1027 = .ok (.istore 5, 2) := by decide +kernel
theorem dL_law_1029 : decode cL_law 1029 = .ok (.aload_n 2, 1) := by decide +kernel
theorem dL_law_1030 : decode cL_law 1030 = .ok (.aload_n 0, 1) := by decide +kernel
theorem dL_law_1031 : decode cL_law 1031 = .ok (.iload 4, 2) := by decide +kernel
theorem dL_law_1033 : decode cL_law 1033 = .ok (.iconst 1, 1) := by decide +kernel
theorem dL_law_1034 : decode cL_law 1034 = .ok (.iadd, 1) := by decide +kernel
theorem dL_law_1035 : decode cL_law 1035 = .ok (.iaload, 1) := by decide +kernel
theorem dL_law_1036 : decode cL_law 1036 = .ok (.invokevirtual 228, 3) := by decide +kernel
theorem dL_law_1039 : decode cL_law 1039 = .ok (.istore 6, 2) := by decide +kernel
theorem dL_law_1041 : decode cL_law 1041 = .ok (.aload_n 2, 1) := by decide +kernel
theorem dL_law_1042 : decode cL_law 1042 = .ok (.invokevirtual 177, 3) := by decide +kernel
theorem dL_law_1045 : decode cL_law 1045 = .ok (.iload 5, 2) := by decide +kernel
theorem dL_law_1047 : decode cL_law 1047 = .ok (.if_icmp .eq 5, 3) := by decide +kernel
theorem dL_law_1050 : decode cL_law 1050 = .ok (.iconst 0, 1) := by decide +kernel
theorem dL_law_1051 : decode cL_law 1051 = .ok (.ireturn, 1) := by decide +kernel
theorem dL_law_1052 : decode cL_law 1052 = .ok (.iload 5, 2) := by decide +kernel
theorem dL_law_1054 : decode cL_law 1054 = .ok (.ifCond .ne 15, 3) := by decide +kernel
theorem dL_law_1057 : decode cL_law 1057 = .ok (.aload_n 3, 1) := by decide +kernel
theorem dL_law_1058 : decode cL_law 1058 = .ok (.iconst 0, 1) := by decide +kernel
theorem dL_law_1059 : decode cL_law 1059 = .ok (.laload, 1) := by decide +kernel
theorem dL_law_1060 : decode cL_law 1060 = .ok (.iload 6, 2) := by decide +kernel
theorem dL_law_1062 : decode cL_law 1062 = .ok (.i2l, 1) := by decide +kernel
theorem dL_law_1063 : decode cL_law 1063 = .ok (.lcmp, 1) := by decide +kernel
theorem dL_law_1064 : decode cL_law 1064 = .ok (.ifCond .eq 5, 3) := by decide +kernel
theorem dL_law_1067 : decode cL_law 1067 = .ok (.iconst 0, 1) := by decide +kernel
theorem dL_law_1068 : decode cL_law 1068 = .ok (.ireturn, 1) := by decide +kernel
theorem dL_law_1069 : decode cL_law 1069 = .ok (.goto 2536, 3) := by decide +kernel
theorem dL_law_1072 : decode cL_law 1072 = .ok (.aload_n 1, 1) := by decide +kernel
theorem dL_law_1073 : decode cL_law 1073 = .ok (.aload_n 0, 1) := by decide +kernel
theorem dL_law_1074 : decode cL_law 1074 = .ok (.iload 4, 2) := by decide +kernel
theorem dL_law_1076 : decode cL_law 1076 = .ok (.iconst 1, 1) := by decide +kernel
theorem dL_law_1077 : decode cL_law 1077 = .ok (.iadd, 1) := by decide +kernel
theorem dL_law_1078 : decode cL_law 1078 = .ok (.iaload, 1) := by decide +kernel
theorem dL_law_1079 : decode cL_law 1079 = .ok (.aload_n 3, 1) := by decide +kernel
theorem dL_law_1080 : decode cL_law 1080 = .ok (.invokestatic 229, 3) := by decide +kernel
theorem dL_law_1083 : decode cL_law 1083 = .ok (.istore 5, 2) := by decide +kernel
theorem dL_law_1085 : decode cL_law 1085 = .ok (.aload_n 2, 1) := by decide +kernel
theorem dL_law_1086 : decode cL_law 1086 = .ok (.aload_n 0, 1) := by decide +kernel
theorem dL_law_1087 : decode cL_law 1087 = .ok (.iload 4, 2) := by decide +kernel
theorem dL_law_1089 : decode cL_law 1089 = .ok (.iconst 1, 1) := by decide +kernel
theorem dL_law_1090 : decode cL_law 1090 = .ok (.iadd, 1) := by decide +kernel
theorem dL_law_1091 : decode cL_law 1091 = .ok (.iaload, 1) := by decide +kernel
theorem dL_law_1092 : decode cL_law 1092 = .ok (.invokevirtual 231, 3) := by decide +kernel
theorem dL_law_1095 : decode cL_law 1095 = .ok (.istore 6, 2) := by decide +kernel
theorem dL_law_1097 : decode cL_law 1097 = .ok (.aload_n 2, 1) := by decide +kernel
theorem dL_law_1098 : decode cL_law 1098 = .ok (.invokevirtual 177, 3) := by decide +kernel
theorem dL_law_1101 : decode cL_law 1101 = .ok (.iload 5, 2) := by decide +kernel
theorem dL_law_1103 : decode cL_law 1103 = .ok (.if_icmp .eq 5, 3) := by decide +kernel
theorem dL_law_1106 : decode cL_law 1106 = .ok (.iconst 0, 1) := by decide +kernel
theorem dL_law_1107 : decode cL_law 1107 = .ok (.ireturn, 1) := by decide +kernel
theorem dL_law_1108 : decode cL_law 1108 = .ok (.iload 5, 2) := by decide +kernel
theorem dL_law_1110 : decode cL_law 1110 = .ok (.ifCond .ne 15, 3) := by decide +kernel
theorem dL_law_1113 : decode cL_law 1113 = .ok (.aload_n 3, 1) := by decide +kernel
theorem dL_law_1114 : decode cL_law 1114 = .ok (.iconst 0, 1) := by decide +kernel
theorem dL_law_1115 : decode cL_law 1115 = .ok (.laload, 1) := by decide +kernel
theorem dL_law_1116 : decode cL_law 1116 = .ok (.iload 6, 2) := by decide +kernel
theorem dL_law_1118 : decode cL_law 1118 = .ok (.i2l, 1) := by decide +kernel
theorem dL_law_1119 : decode cL_law 1119 = .ok (.lcmp, 1) := by decide +kernel
theorem dL_law_1120 : decode cL_law 1120 = .ok (.ifCond .eq 5, 3) := by decide +kernel
theorem dL_law_1123 : decode cL_law 1123 = .ok (.iconst 0, 1) := by decide +kernel
theorem dL_law_1124 : decode cL_law 1124 = .ok (.ireturn, 1) := by decide +kernel
theorem dL_law_1125 : decode cL_law 1125 = .ok (.goto 2480, 3) := by decide +kernel
theorem dL_law_1128 : decode cL_law 1128 = .ok (.aload_n 1, 1) := by decide +kernel
theorem dL_law_1129 : decode cL_law 1129 = .ok (.aload_n 0, 1) := by decide +kernel
theorem dL_law_1130 : decode cL_law 1130 = .ok (.iload 4, 2) := by decide +kernel
theorem dL_law_1132 : decode cL_law 1132 = .ok (.iconst 1, 1) := by decide +kernel
theorem dL_law_1133 : decode cL_law 1133 = .ok (.iadd, 1) := by decide +kernel
theorem dL_law_1134 : decode cL_law 1134 = .ok (.iaload, 1) := by decide +kernel
theorem dL_law_1135 : decode cL_law 1135 = .ok (.aload_n 3, 1) := by decide +kernel
theorem dL_law_1136 : decode cL_law 1136 = .ok (.invokestatic 232, 3) := by decide +kernel
theorem dL_law_1139 : decode cL_law 1139 = .ok (.istore 5, 2) := by decide +kernel
theorem dL_law_1141 : decode cL_law 1141 = .ok (.aload_n 2, 1) := by decide +kernel
theorem dL_law_1142 : decode cL_law 1142 = .ok (.aload_n 0, 1) := by decide +kernel
theorem dL_law_1143 : decode cL_law 1143 = .ok (.iload 4, 2) := by decide +kernel
theorem dL_law_1145 : decode cL_law 1145 = .ok (.iconst 1, 1) := by decide +kernel
theorem dL_law_1146 : decode cL_law 1146 = .ok (.iadd, 1) := by decide +kernel
theorem dL_law_1147 : decode cL_law 1147 = .ok (.iaload, 1) := by decide +kernel
theorem dL_law_1148 : decode cL_law 1148 = .ok (.invokevirtual 234, 3) := by decide +kernel
theorem dL_law_1151 : decode cL_law 1151 = .ok (.istore 6, 2) := by decide +kernel
theorem dL_law_1153 : decode cL_law 1153 = .ok (.aload_n 2, 1) := by decide +kernel
theorem dL_law_1154 : decode cL_law 1154 = .ok (.invokevirtual 177, 3) := by decide +kernel
theorem dL_law_1157 : decode cL_law 1157 = .ok (.iload 5, 2) := by decide +kernel
theorem dL_law_1159 : decode cL_law 1159 = .ok (.if_icmp .eq 5, 3) := by decide +kernel
theorem dL_law_1162 : decode cL_law 1162 = .ok (.iconst 0, 1) := by decide +kernel
theorem dL_law_1163 : decode cL_law 1163 = .ok (.ireturn, 1) := by decide +kernel
theorem dL_law_1164 : decode cL_law 1164 = .ok (.iload 5, 2) := by decide +kernel
theorem dL_law_1166 : decode cL_law 1166 = .ok (.ifCond .ne 15, 3) := by decide +kernel
theorem dL_law_1169 : decode cL_law 1169 = .ok (.aload_n 3, 1) := by decide +kernel
theorem dL_law_1170 : decode cL_law 1170 = .ok (.iconst 0, 1) := by decide +kernel
theorem dL_law_1171 : decode cL_law 1171 = .ok (.laload, 1) := by decide +kernel
theorem dL_law_1172 : decode cL_law 1172 = .ok (.iload 6, 2) := by decide +kernel
theorem dL_law_1174 : decode cL_law 1174 = .ok (.i2l, 1) := by decide +kernel
theorem dL_law_1175 : decode cL_law 1175 = .ok (.lcmp, 1) := by decide +kernel
theorem dL_law_1176 : decode cL_law 1176 = .ok (.ifCond .eq 5, 3) := by decide +kernel
theorem dL_law_1179 : decode cL_law 1179 = .ok (.iconst 0, 1) := by decide +kernel
theorem dL_law_1180 : decode cL_law 1180 = .ok (.ireturn, 1) := by decide +kernel
theorem dL_law_1181 : decode cL_law 1181 = .ok (.goto 2424, 3) := by decide +kernel
theorem dL_law_1184 : decode cL_law 1184 = .ok (.aload_n 1, 1) := by decide +kernel
theorem dL_law_1185 : decode cL_law 1185 = .ok (.aload_n 0, 1) := by decide +kernel
theorem dL_law_1186 : decode cL_law 1186 = .ok (.iload 4, 2) := by decide +kernel
theorem dL_law_1188 : decode cL_law 1188 = .ok (.iconst 1, 1) := by decide +kernel
theorem dL_law_1189 : decode cL_law 1189 = .ok (.iadd, 1) := by decide +kernel
theorem dL_law_1190 : decode cL_law 1190 = .ok (.iaload, 1) := by decide +kernel
theorem dL_law_1191 : decode cL_law 1191 = .ok (.aload_n 0, 1) := by decide +kernel
theorem dL_law_1192 : decode cL_law 1192 = .ok (.iload 4, 2) := by decide +kernel
theorem dL_law_1194 : decode cL_law 1194 = .ok (.iconst 2, 1) := by decide +kernel
theorem dL_law_1195 : decode cL_law 1195 = .ok (.iadd, 1) := by decide +kernel
theorem dL_law_1196 : decode cL_law 1196 = .ok (.iaload, 1) := by decide +kernel
theorem dL_law_1197 : decode cL_law 1197 = .ok (.aload_n 3, 1) := by decide +kernel
theorem dL_law_1198 : decode cL_law 1198 = .ok (.invokestatic 235, 3) := by decide +kernel
theorem dL_law_1201 : decode cL_law 1201 = .ok (.istore 5, 2) := by decide +kernel
theorem dL_law_1203 : decode cL_law 1203 = .ok (.aload_n 2, 1) := by decide +kernel
theorem dL_law_1204 : decode cL_law 1204 = .ok (.aload_n 0, 1) := by decide +kernel
theorem dL_law_1205 : decode cL_law 1205 = .ok (.iload 4, 2) := by decide +kernel
theorem dL_law_1207 : decode cL_law 1207 = .ok (.iconst 1, 1) := by decide +kernel
theorem dL_law_1208 : decode cL_law 1208 = .ok (.iadd, 1) := by decide +kernel
theorem dL_law_1209 : decode cL_law 1209 = .ok (.iaload, 1) := by decide +kernel
theorem dL_law_1210 : decode cL_law 1210 = .ok (.aload_n 0, 1) := by decide +kernel
theorem dL_law_1211 : decode cL_law 1211 = .ok (.iload 4, 2) := by decide +kernel
theorem dL_law_1213 : decode cL_law 1213 = .ok (.iconst 2, 1) := by decide +kernel
theorem dL_law_1214 : decode cL_law 1214 = .ok (.iadd, 1) := by decide +kernel
theorem dL_law_1215 : decode cL_law 1215 = .ok (.iaload, 1) := by decide +kernel
theorem dL_law_1216 : decode cL_law 1216 = .ok (.invokevirtual 237, 3) := by decide +kernel
theorem dL_law_1219 : decode cL_law 1219 = .ok (.istore 6, 2) := by decide +kernel
theorem dL_law_1221 : decode cL_law 1221 = .ok (.aload_n 2, 1) := by decide +kernel
theorem dL_law_1222 : decode cL_law 1222 = .ok (.invokevirtual 177, 3) := by decide +kernel
theorem dL_law_1225 : decode cL_law 1225 = .ok (.iload 5, 2) := by decide +kernel
theorem dL_law_1227 : decode cL_law 1227 = .ok (.if_icmp .eq 5, 3) := by decide +kernel
theorem dL_law_1230 : decode cL_law 1230 = .ok (.iconst 0, 1) := by decide +kernel
theorem dL_law_1231 : decode cL_law 1231 = .ok (.ireturn, 1) := by decide +kernel
theorem dL_law_1232 : decode cL_law 1232 = .ok (.iload 5, 2) := by decide +kernel
theorem dL_law_1234 : decode cL_law 1234 = .ok (.ifCond .ne 15, 3) := by decide +kernel
theorem dL_law_1237 : decode cL_law 1237 = .ok (.aload_n 3, 1) := by decide +kernel
theorem dL_law_1238 : decode cL_law 1238 = .ok (.iconst 0, 1) := by decide +kernel
theorem dL_law_1239 : decode cL_law 1239 = .ok (.laload, 1) := by decide +kernel
theorem dL_law_1240 : decode cL_law 1240 = .ok (.iload 6, 2) := by decide +kernel
theorem dL_law_1242 : decode cL_law 1242 = .ok (.i2l, 1) := by decide +kernel
theorem dL_law_1243 : decode cL_law 1243 = .ok (.lcmp, 1) := by decide +kernel
theorem dL_law_1244 : decode cL_law 1244 = .ok (.ifCond .eq 5, 3) := by decide +kernel
theorem dL_law_1247 : decode cL_law 1247 = .ok (.iconst 0, 1) := by decide +kernel
theorem dL_law_1248 : decode cL_law 1248 = .ok (.ireturn, 1) := by decide +kernel
theorem dL_law_1249 : decode cL_law 1249 = .ok (.goto 2356, 3) := by decide +kernel
theorem dL_law_1252 : decode cL_law 1252 = .ok (.aload_n 1, 1) := by decide +kernel
theorem dL_law_1253 : decode cL_law 1253 = .ok (.aload_n 0, 1) := by decide +kernel
theorem dL_law_1254 : decode cL_law 1254 = .ok (.iload 4, 2) := by decide +kernel
theorem dL_law_1256 : decode cL_law 1256 = .ok (.iconst 1, 1) := by decide +kernel
theorem dL_law_1257 : decode cL_law 1257 = .ok (.iadd, 1) := by decide +kernel
theorem dL_law_1258 : decode cL_law 1258 = .ok (.iaload, 1) := by decide +kernel
theorem dL_law_1259 : decode cL_law 1259 = .ok (.aload_n 3, 1) := by decide +kernel
theorem dL_law_1260 : decode cL_law 1260 = .ok (.invokestatic 238, 3) := by decide +kernel
theorem dL_law_1263 : decode cL_law 1263 = .ok (.istore 5, 2) := by decide +kernel
theorem dL_law_1265 : decode cL_law 1265 = .ok (.aload_n 2, 1) := by decide +kernel
theorem dL_law_1266 : decode cL_law 1266 = .ok (.aload_n 0, 1) := by decide +kernel
theorem dL_law_1267 : decode cL_law 1267 = .ok (.iload 4, 2) := by decide +kernel
theorem dL_law_1269 : decode cL_law 1269 = .ok (.iconst 1, 1) := by decide +kernel
theorem dL_law_1270 : decode cL_law 1270 = .ok (.iadd, 1) := by decide +kernel
theorem dL_law_1271 : decode cL_law 1271 = .ok (.iaload, 1) := by decide +kernel
theorem dL_law_1272 : decode cL_law 1272 = .ok (.invokevirtual 240, 3) := by decide +kernel
theorem dL_law_1275 : decode cL_law 1275 = .ok (.istore 6, 2) := by decide +kernel
theorem dL_law_1277 : decode cL_law 1277 = .ok (.aload_n 2, 1) := by decide +kernel
theorem dL_law_1278 : decode cL_law 1278 = .ok (.invokevirtual 177, 3) := by decide +kernel
theorem dL_law_1281 : decode cL_law 1281 = .ok (.iload 5, 2) := by decide +kernel
theorem dL_law_1283 : decode cL_law 1283 = .ok (.if_icmp .eq 5, 3) := by decide +kernel
theorem dL_law_1286 : decode cL_law 1286 = .ok (.iconst 0, 1) := by decide +kernel
theorem dL_law_1287 : decode cL_law 1287 = .ok (.ireturn, 1) := by decide +kernel
theorem dL_law_1288 : decode cL_law 1288 = .ok (.iload 5, 2) := by decide +kernel
theorem dL_law_1290 : decode cL_law 1290 = .ok (.ifCond .ne 15, 3) := by decide +kernel
theorem dL_law_1293 : decode cL_law 1293 = .ok (.aload_n 3, 1) := by decide +kernel
theorem dL_law_1294 : decode cL_law 1294 = .ok (.iconst 0, 1) := by decide +kernel
theorem dL_law_1295 : decode cL_law 1295 = .ok (.laload, 1) := by decide +kernel
theorem dL_law_1296 : decode cL_law 1296 = .ok (.iload 6, 2) := by decide +kernel
theorem dL_law_1298 : decode cL_law 1298 = .ok (.i2l, 1) := by decide +kernel
theorem dL_law_1299 : decode cL_law 1299 = .ok (.lcmp, 1) := by decide +kernel
theorem dL_law_1300 : decode cL_law 1300 = .ok (.ifCond .eq 5, 3) := by decide +kernel
theorem dL_law_1303 : decode cL_law 1303 = .ok (.iconst 0, 1) := by decide +kernel
theorem dL_law_1304 : decode cL_law 1304 = .ok (.ireturn, 1) := by decide +kernel
theorem dL_law_1305 : decode cL_law 1305 = .ok (.goto 2300, 3) := by decide +kernel
theorem dL_law_1308 : decode cL_law 1308 = .ok (.aload_n 1, 1) := by decide +kernel
theorem dL_law_1309 : decode cL_law 1309 = .ok (.aload_n 0, 1) := by decide +kernel
theorem dL_law_1310 : decode cL_law 1310 = .ok (.iload 4, 2) := by decide +kernel
theorem dL_law_1312 : decode cL_law 1312 = .ok (.iconst 1, 1) := by decide +kernel
theorem dL_law_1313 : decode cL_law 1313 = .ok (.iadd, 1) := by decide +kernel
theorem dL_law_1314 : decode cL_law 1314 = .ok (.iaload, 1) := by decide +kernel
theorem dL_law_1315 : decode cL_law 1315 = .ok (.aload_n 3, 1) := by decide +kernel
theorem dL_law_1316 : decode cL_law 1316 = .ok (.invokestatic 241, 3) := by decide +kernel
theorem dL_law_1319 : decode cL_law 1319 = .ok (.istore 5, 2) := by decide +kernel
theorem dL_law_1321 : decode cL_law 1321 = .ok (.aload_n 2, 1) := by decide +kernel
theorem dL_law_1322 : decode cL_law 1322 = .ok (.aload_n 0, 1) := by decide +kernel
theorem dL_law_1323 : decode cL_law 1323 = .ok (.iload 4, 2) := by decide +kernel
theorem dL_law_1325 : decode cL_law 1325 = .ok (.iconst 1, 1) := by decide +kernel
theorem dL_law_1326 : decode cL_law 1326 = .ok (.iadd, 1) := by decide +kernel
theorem dL_law_1327 : decode cL_law 1327 = .ok (.iaload, 1) := by decide +kernel
theorem dL_law_1328 : decode cL_law 1328 = .ok (.invokevirtual 243, 3) := by decide +kernel
theorem dL_law_1331 : decode cL_law 1331 = .ok (.istore 6, 2) := by decide +kernel
theorem dL_law_1333 : decode cL_law 1333 = .ok (.aload_n 2, 1) := by decide +kernel
theorem dL_law_1334 : decode cL_law 1334 = .ok (.invokevirtual 177, 3) := by decide +kernel
theorem dL_law_1337 : decode cL_law 1337 = .ok (.iload 5, 2) := by decide +kernel
theorem dL_law_1339 : decode cL_law 1339 = .ok (.if_icmp .eq 5, 3) := by decide +kernel
theorem dL_law_1342 : decode cL_law 1342 = .ok (.iconst 0, 1) := by decide +kernel
theorem dL_law_1343 : decode cL_law 1343 = .ok (.ireturn, 1) := by decide +kernel
theorem dL_law_1344 : decode cL_law 1344 = .ok (.iload 5, 2) := by decide +kernel
theorem dL_law_1346 : decode cL_law 1346 = .ok (.ifCond .ne 15, 3) := by decide +kernel
theorem dL_law_1349 : decode cL_law 1349 = .ok (.aload_n 3, 1) := by decide +kernel
theorem dL_law_1350 : decode cL_law 1350 = .ok (.iconst 0, 1) := by decide +kernel
theorem dL_law_1351 : decode cL_law 1351 = .ok (.laload, 1) := by decide +kernel
theorem dL_law_1352 : decode cL_law 1352 = .ok (.iload 6, 2) := by decide +kernel
theorem dL_law_1354 : decode cL_law 1354 = .ok (.i2l, 1) := by decide +kernel
theorem dL_law_1355 : decode cL_law 1355 = .ok (.lcmp, 1) := by decide +kernel
theorem dL_law_1356 : decode cL_law 1356 = .ok (.ifCond .eq 5, 3) := by decide +kernel
theorem dL_law_1359 : decode cL_law 1359 = .ok (.iconst 0, 1) := by decide +kernel
theorem dL_law_1360 : decode cL_law 1360 = .ok (.ireturn, 1) := by decide +kernel
theorem dL_law_1361 : decode cL_law 1361 = .ok (.goto 2244, 3) := by decide +kernel
theorem dL_law_1364 : decode cL_law 1364 = .ok (.aload_n 1, 1) := by decide +kernel
theorem dL_law_1365 : decode cL_law 1365 = .ok (.invokevirtual 244, 3) := by decide +kernel
theorem dL_law_1368 : decode cL_law 1368 = .ok (.aload_n 2, 1) := by decide +kernel
theorem dL_law_1369 : decode cL_law 1369 = .ok (.invokevirtual 247, 3) := by decide +kernel
theorem dL_law_1372 : decode cL_law 1372 = .ok (.if_icmp .eq 2233, 3) := by decide +kernel
theorem dL_law_1375 : decode cL_law 1375 = .ok (.iconst 0, 1) := by decide +kernel
theorem dL_law_1376 : decode cL_law 1376 = .ok (.ireturn, 1) := by decide +kernel
theorem dL_law_1377 : decode cL_law 1377 = .ok (.aload_n 1, 1) := by decide +kernel
theorem dL_law_1378 : decode cL_law 1378 = .ok (.aload_n 3, 1) := by decide +kernel
theorem dL_law_1379 : decode cL_law 1379 = .ok (.invokestatic 248, 3) := by decide +kernel
theorem dL_law_1382 : decode cL_law 1382 = .ok (.istore 5, 2) := by decide +kernel
theorem dL_law_1384 : decode cL_law 1384 = .ok (.aload_n 2, 1) := by decide +kernel
theorem dL_law_1385 : decode cL_law 1385 = .ok (.invokevirtual 250, 3) := by decide +kernel
theorem dL_law_1388 : decode cL_law 1388 = .ok (.istore 6, 2) := by decide +kernel
theorem dL_law_1390 : decode cL_law 1390 = .ok (.aload_n 2, 1) := by decide +kernel
theorem dL_law_1391 : decode cL_law 1391 = .ok (.invokevirtual 177, 3) := by decide +kernel
theorem dL_law_1394 : decode cL_law 1394 = .ok (.iload 5, 2) := by decide +kernel
theorem dL_law_1396 : decode cL_law 1396 = .ok (.if_icmp .eq 5, 3) := by decide +kernel
theorem dL_law_1399 : decode cL_law 1399 = .ok (.iconst 0, 1) := by decide +kernel
theorem dL_law_1400 : decode cL_law 1400 = .ok (.ireturn, 1) := by decide +kernel
theorem dL_law_1401 : decode cL_law 1401 = .ok (.iload 5, 2) := by decide +kernel
theorem dL_law_1403 : decode cL_law 1403 = .ok (.ifCond .ne 15, 3) := by decide +kernel
theorem dL_law_1406 : decode cL_law 1406 = .ok (.aload_n 3, 1) := by decide +kernel
theorem dL_law_1407 : decode cL_law 1407 = .ok (.iconst 0, 1) := by decide +kernel
theorem dL_law_1408 : decode cL_law 1408 = .ok (.laload, 1) := by decide +kernel
theorem dL_law_1409 : decode cL_law 1409 = .ok (.iload 6, 2) := by decide +kernel
theorem dL_law_1411 : decode cL_law 1411 = .ok (.i2l, 1) := by decide +kernel
theorem dL_law_1412 : decode cL_law 1412 = .ok (.lcmp, 1) := by decide +kernel
theorem dL_law_1413 : decode cL_law 1413 = .ok (.ifCond .eq 5, 3) := by decide +kernel
theorem dL_law_1416 : decode cL_law 1416 = .ok (.iconst 0, 1) := by decide +kernel
theorem dL_law_1417 : decode cL_law 1417 = .ok (.ireturn, 1) := by decide +kernel
theorem dL_law_1418 : decode cL_law 1418 = .ok (.goto 2187, 3) := by decide +kernel
theorem dL_law_1421 : decode cL_law 1421 = .ok (.aload_n 1, 1) := by decide +kernel
theorem dL_law_1422 : decode cL_law 1422 = .ok (.aload_n 0, 1) := by decide +kernel
theorem dL_law_1423 : decode cL_law 1423 = .ok (.iload 4, 2) := by decide +kernel
theorem dL_law_1425 : decode cL_law 1425 = .ok (.iconst 1, 1) := by decide +kernel
theorem dL_law_1426 : decode cL_law 1426 = .ok (.iadd, 1) := by decide +kernel
theorem dL_law_1427 : decode cL_law 1427 = .ok (.iaload, 1) := by decide +kernel
theorem dL_law_1428 : decode cL_law 1428 = .ok (.aload_n 0, 1) := by decide +kernel
theorem dL_law_1429 : decode cL_law 1429 = .ok (.iload 4, 2) := by decide +kernel
theorem dL_law_1431 : decode cL_law 1431 = .ok (.iconst 2, 1) := by decide +kernel
theorem dL_law_1432 : decode cL_law 1432 = .ok (.iadd, 1) := by decide +kernel
theorem dL_law_1433 : decode cL_law 1433 = .ok (.iaload, 1) := by decide +kernel
theorem dL_law_1434 : decode cL_law 1434 = .ok (.aload_n 0, 1) := by decide +kernel
theorem dL_law_1435 : decode cL_law 1435 = .ok (.iload 4, 2) := by decide +kernel
theorem dL_law_1437 : decode cL_law 1437 = .ok (.iconst 3, 1) := by decide +kernel
theorem dL_law_1438 : decode cL_law 1438 = .ok (.iadd, 1) := by decide +kernel
theorem dL_law_1439 : decode cL_law 1439 = .ok (.iaload, 1) := by decide +kernel
theorem dL_law_1440 : decode cL_law 1440 = .ok (.aload_n 0, 1) := by decide +kernel
theorem dL_law_1441 : decode cL_law 1441 = .ok (.iload 4, 2) := by decide +kernel
theorem dL_law_1443 : decode cL_law 1443 = .ok (.iconst 4, 1) := by decide +kernel
theorem dL_law_1444 : decode cL_law 1444 = .ok (.iadd, 1) := by decide +kernel
theorem dL_law_1445 : decode cL_law 1445 = .ok (.iaload, 1) := by decide +kernel
theorem dL_law_1446 : decode cL_law 1446 = .ok (.aload_n 3, 1) := by decide +kernel
theorem dL_law_1447 : decode cL_law 1447 = .ok (.invokestatic 251, 3) := by decide +kernel
theorem dL_law_1450 : decode cL_law 1450 = .ok (.istore 5, 2) := by decide +kernel
theorem dL_law_1452 : decode cL_law 1452 = .ok (.aload_n 2, 1) := by decide +kernel
theorem dL_law_1453 : decode cL_law 1453 = .ok (.aload_n 0, 1) := by decide +kernel
theorem dL_law_1454 : decode cL_law 1454 = .ok (.iload 4, 2) := by decide +kernel
theorem dL_law_1456 : decode cL_law 1456 = .ok (.iconst 1, 1) := by decide +kernel
theorem dL_law_1457 : decode cL_law 1457 = .ok (.iadd, 1) := by decide +kernel
theorem dL_law_1458 : decode cL_law 1458 = .ok (.iaload, 1) := by decide +kernel
theorem dL_law_1459 : decode cL_law 1459 = .ok (.aload_n 0, 1) := by decide +kernel
theorem dL_law_1460 : decode cL_law 1460 = .ok (.iload 4, 2) := by decide +kernel
theorem dL_law_1462 : decode cL_law 1462 = .ok (.iconst 2, 1) := by decide +kernel
theorem dL_law_1463 : decode cL_law 1463 = .ok (.iadd, 1) := by decide +kernel
theorem dL_law_1464 : decode cL_law 1464 = .ok (.iaload, 1) := by decide +kernel
theorem dL_law_1465 : decode cL_law 1465 = .ok (.aload_n 0, 1) := by decide +kernel
theorem dL_law_1466 : decode cL_law 1466 = .ok (.iload 4, 2) := by decide +kernel
theorem dL_law_1468 : decode cL_law 1468 = .ok (.iconst 3, 1) := by decide +kernel
theorem dL_law_1469 : decode cL_law 1469 = .ok (.iadd, 1) := by decide +kernel
theorem dL_law_1470 : decode cL_law 1470 = .ok (.iaload, 1) := by decide +kernel
theorem dL_law_1471 : decode cL_law 1471 = .ok (.aload_n 0, 1) := by decide +kernel
theorem dL_law_1472 : decode cL_law 1472 = .ok (.iload 4, 2) := by decide +kernel
theorem dL_law_1474 : decode cL_law 1474 = .ok (.iconst 4, 1) := by decide +kernel
theorem dL_law_1475 : decode cL_law 1475 = .ok (.iadd, 1) := by decide +kernel
theorem dL_law_1476 : decode cL_law 1476 = .ok (.iaload, 1) := by decide +kernel
theorem dL_law_1477 : decode cL_law 1477 = .ok (.invokevirtual 254, 3) := by decide +kernel
theorem dL_law_1480 : decode cL_law 1480 = .ok (.istore 6, 2) := by decide +kernel
theorem dL_law_1482 : decode cL_law 1482 = .ok (.aload_n 2, 1) := by decide +kernel
theorem dL_law_1483 : decode cL_law 1483 = .ok (.invokevirtual 177, 3) := by decide +kernel
theorem dL_law_1486 : decode cL_law 1486 = .ok (.iload 5, 2) := by decide +kernel
theorem dL_law_1488 : decode cL_law 1488 = .ok (.if_icmp .eq 5, 3) := by decide +kernel
theorem dL_law_1491 : decode cL_law 1491 = .ok (.iconst 0, 1) := by decide +kernel
theorem dL_law_1492 : decode cL_law 1492 = .ok (.ireturn, 1) := by decide +kernel
theorem dL_law_1493 : decode cL_law 1493 = .ok (.iload 5, 2) := by decide +kernel
theorem dL_law_1495 : decode cL_law 1495 = .ok (.ifCond .ne 15, 3) := by decide +kernel
theorem dL_law_1498 : decode cL_law 1498 = .ok (.aload_n 3, 1) := by decide +kernel
theorem dL_law_1499 : decode cL_law 1499 = .ok (.iconst 0, 1) := by decide +kernel
theorem dL_law_1500 : decode cL_law 1500 = .ok (.laload, 1) := by decide +kernel
theorem dL_law_1501 : decode cL_law 1501 = .ok (.iload 6, 2) := by decide +kernel
theorem dL_law_1503 : decode cL_law 1503 = .ok (.i2l, 1) := by decide +kernel
theorem dL_law_1504 : decode cL_law 1504 = .ok (.lcmp, 1) := by decide +kernel
theorem dL_law_1505 : decode cL_law 1505 = .ok (.ifCond .eq 5, 3) := by decide +kernel
theorem dL_law_1508 : decode cL_law 1508 = .ok (.iconst 0, 1) := by decide +kernel
theorem dL_law_1509 : decode cL_law 1509 = .ok (.ireturn, 1) := by decide +kernel
theorem dL_law_1510 : decode cL_law 1510 = .ok (.goto 2095, 3) := by decide +kernel
theorem dL_law_1513 : decode cL_law 1513 = .ok (.aload_n 1, 1) := by decide +kernel
theorem dL_law_1514 : decode cL_law 1514 = .ok (.aload_n 0, 1) := by decide +kernel
theorem dL_law_1515 : decode cL_law 1515 = .ok (.iload 4, 2) := by decide +kernel
theorem dL_law_1517 : decode cL_law 1517 = .ok (.iconst 1, 1) := by decide +kernel
theorem dL_law_1518 : decode cL_law 1518 = .ok (.iadd, 1) := by decide +kernel
theorem dL_law_1519 : decode cL_law 1519 = .ok (.iaload, 1) := by decide +kernel
theorem dL_law_1520 : decode cL_law 1520 = .ok (.aload_n 0, 1) := by decide +kernel
theorem dL_law_1521 : decode cL_law 1521 = .ok (.iload 4, 2) := by decide +kernel
theorem dL_law_1523 : decode cL_law 1523 = .ok (.iconst 2, 1) := by decide +kernel
theorem dL_law_1524 : decode cL_law 1524 = .ok (.iadd, 1) := by decide +kernel
theorem dL_law_1525 : decode cL_law 1525 = .ok (.iaload, 1) := by decide +kernel
theorem dL_law_1526 : decode cL_law 1526 = .ok (.aload_n 0, 1) := by decide +kernel
theorem dL_law_1527 : decode cL_law 1527 = .ok (.iload 4, 2) := by decide +kernel
theorem dL_law_1529 : decode cL_law 1529 = .ok (.iconst 3, 1) := by decide +kernel
theorem dL_law_1530 : decode cL_law 1530 = .ok (.iadd, 1) := by decide +kernel
theorem dL_law_1531 : decode cL_law 1531 = .ok (.iaload, 1) := by decide +kernel
theorem dL_law_1532 : decode cL_law 1532 = .ok (.aload_n 3, 1) := by decide +kernel
theorem dL_law_1533 : decode cL_law 1533 = .ok (.invokestatic 255, 3) := by decide +kernel
theorem dL_law_1536 : decode cL_law 1536 = .ok (.istore 5, 2) := by decide +kernel
theorem dL_law_1538 : decode cL_law 1538 = .ok (.aload_n 2, 1) := by decide +kernel
theorem dL_law_1539 : decode cL_law 1539 = .ok (.aload_n 0, 1) := by decide +kernel
theorem dL_law_1540 : decode cL_law 1540 = .ok (.iload 4, 2) := by decide +kernel
theorem dL_law_1542 : decode cL_law 1542 = .ok (.iconst 1, 1) := by decide +kernel
theorem dL_law_1543 : decode cL_law 1543 = .ok (.iadd, 1) := by decide +kernel
theorem dL_law_1544 : decode cL_law 1544 = .ok (.iaload, 1) := by decide +kernel
theorem dL_law_1545 : decode cL_law 1545 = .ok (.aload_n 0, 1) := by decide +kernel
theorem dL_law_1546 : decode cL_law 1546 = .ok (.iload 4, 2) := by decide +kernel
theorem dL_law_1548 : decode cL_law 1548 = .ok (.iconst 2, 1) := by decide +kernel
theorem dL_law_1549 : decode cL_law 1549 = .ok (.iadd, 1) := by decide +kernel
theorem dL_law_1550 : decode cL_law 1550 = .ok (.iaload, 1) := by decide +kernel
theorem dL_law_1551 : decode cL_law 1551 = .ok (.aload_n 0, 1) := by decide +kernel
theorem dL_law_1552 : decode cL_law 1552 = .ok (.iload 4, 2) := by decide +kernel
theorem dL_law_1554 : decode cL_law 1554 = .ok (.iconst 3, 1) := by decide +kernel
theorem dL_law_1555 : decode cL_law 1555 = .ok (.iadd, 1) := by decide +kernel
theorem dL_law_1556 : decode cL_law 1556 = .ok (.iaload, 1) := by decide +kernel
theorem dL_law_1557 : decode cL_law 1557 = .ok (.invokevirtual 257, 3) := by decide +kernel
theorem dL_law_1560 : decode cL_law 1560 = .ok (.istore 6, 2) := by decide +kernel
theorem dL_law_1562 : decode cL_law 1562 = .ok (.aload_n 2, 1) := by decide +kernel
theorem dL_law_1563 : decode cL_law 1563 = .ok (.invokevirtual 177, 3) := by decide +kernel
theorem dL_law_1566 : decode cL_law 1566 = .ok (.iload 5, 2) := by decide +kernel
theorem dL_law_1568 : decode cL_law 1568 = .ok (.if_icmp .eq 5, 3) := by decide +kernel
theorem dL_law_1571 : decode cL_law 1571 = .ok (.iconst 0, 1) := by decide +kernel
theorem dL_law_1572 : decode cL_law 1572 = .ok (.ireturn, 1) := by decide +kernel
theorem dL_law_1573 : decode cL_law 1573 = .ok (.iload 5, 2) := by decide +kernel
theorem dL_law_1575 : decode cL_law 1575 = .ok (.ifCond .ne 15, 3) := by decide +kernel
theorem dL_law_1578 : decode cL_law 1578 = .ok (.aload_n 3, 1) := by decide +kernel
theorem dL_law_1579 : decode cL_law 1579 = .ok (.iconst 0, 1) := by decide +kernel
theorem dL_law_1580 : decode cL_law 1580 = .ok (.laload, 1) := by decide +kernel
theorem dL_law_1581 : decode cL_law 1581 = .ok (.iload 6, 2) := by decide +kernel
theorem dL_law_1583 : decode cL_law 1583 = .ok (.i2l, 1) := by decide +kernel
theorem dL_law_1584 : decode cL_law 1584 = .ok (.lcmp, 1) := by decide +kernel
theorem dL_law_1585 : decode cL_law 1585 = .ok (.ifCond .eq 5, 3) := by decide +kernel
theorem dL_law_1588 : decode cL_law 1588 = .ok (.iconst 0, 1) := by decide +kernel
theorem dL_law_1589 : decode cL_law 1589 = .ok (.ireturn, 1) := by decide +kernel
theorem dL_law_1590 : decode cL_law 1590 = .ok (.goto 2015, 3) := by decide +kernel
theorem dL_law_1593 : decode cL_law 1593 = .ok (.aload_n 1, 1) := by decide +kernel
theorem dL_law_1594 : decode cL_law 1594 = .ok (.aload_n 0, 1) := by decide +kernel
theorem dL_law_1595 : decode cL_law 1595 = .ok (.iload 4, 2) := by decide +kernel
theorem dL_law_1597 : decode cL_law 1597 = .ok (.iconst 1, 1) := by decide +kernel
theorem dL_law_1598 : decode cL_law 1598 = .ok (.iadd, 1) := by decide +kernel
theorem dL_law_1599 : decode cL_law 1599 = .ok (.iaload, 1) := by decide +kernel
theorem dL_law_1600 : decode cL_law 1600 = .ok (.aload_n 3, 1) := by decide +kernel
theorem dL_law_1601 : decode cL_law 1601 = .ok (.invokestatic 258, 3) := by decide +kernel
theorem dL_law_1604 : decode cL_law 1604 = .ok (.istore 5, 2) := by decide +kernel
theorem dL_law_1606 : decode cL_law 1606 = .ok (.aload_n 2, 1) := by decide +kernel
theorem dL_law_1607 : decode cL_law 1607 = .ok (.aload_n 0, 1) := by decide +kernel
theorem dL_law_1608 : decode cL_law 1608 = .ok (.iload 4, 2) := by decide +kernel
theorem dL_law_1610 : decode cL_law 1610 = .ok (.iconst 1, 1) := by decide +kernel
theorem dL_law_1611 : decode cL_law 1611 = .ok (.iadd, 1) := by decide +kernel
theorem dL_law_1612 : decode cL_law 1612 = .ok (.iaload, 1) := by decide +kernel
theorem dL_law_1613 : decode cL_law 1613 = .ok (.invokevirtual 260, 3) := by decide +kernel
theorem dL_law_1616 : decode cL_law 1616 = .ok (.istore 6, 2) := by decide +kernel
theorem dL_law_1618 : decode cL_law 1618 = .ok (.aload_n 2, 1) := by decide +kernel
theorem dL_law_1619 : decode cL_law 1619 = .ok (.invokevirtual 177, 3) := by decide +kernel
theorem dL_law_1622 : decode cL_law 1622 = .ok (.iload 5, 2) := by decide +kernel
theorem dL_law_1624 : decode cL_law 1624 = .ok (.if_icmp .eq 5, 3) := by decide +kernel
theorem dL_law_1627 : decode cL_law 1627 = .ok (.iconst 0, 1) := by decide +kernel
theorem dL_law_1628 : decode cL_law 1628 = .ok (.ireturn, 1) := by decide +kernel
theorem dL_law_1629 : decode cL_law 1629 = .ok (.iload 5, 2) := by decide +kernel
theorem dL_law_1631 : decode cL_law 1631 = .ok (.ifCond .ne 15, 3) := by decide +kernel
theorem dL_law_1634 : decode cL_law 1634 = .ok (.aload_n 3, 1) := by decide +kernel
theorem dL_law_1635 : decode cL_law 1635 = .ok (.iconst 0, 1) := by decide +kernel
theorem dL_law_1636 : decode cL_law 1636 = .ok (.laload, 1) := by decide +kernel
theorem dL_law_1637 : decode cL_law 1637 = .ok (.iload 6, 2) := by decide +kernel
theorem dL_law_1639 : decode cL_law 1639 = .ok (.i2l, 1) := by decide +kernel
theorem dL_law_1640 : decode cL_law 1640 = .ok (.lcmp, 1) := by decide +kernel
theorem dL_law_1641 : decode cL_law 1641 = .ok (.ifCond .eq 5, 3) := by decide +kernel
theorem dL_law_1644 : decode cL_law 1644 = .ok (.iconst 0, 1) := by decide +kernel
theorem dL_law_1645 : decode cL_law 1645 = .ok (.ireturn, 1) := by decide +kernel
theorem dL_law_1646 : decode cL_law 1646 = .ok (.goto 1959, 3) := by decide +kernel
theorem dL_law_1649 : decode cL_law 1649 = .ok (.aload_n 1, 1) := by decide +kernel
theorem dL_law_1650 : decode cL_law 1650 = .ok (.aload_n 0, 1) := by decide +kernel
theorem dL_law_1651 : decode cL_law 1651 = .ok (.iload 4, 2) := by decide +kernel
theorem dL_law_1653 : decode cL_law 1653 = .ok (.iconst 1, 1) := by decide +kernel
theorem dL_law_1654 : decode cL_law 1654 = .ok (.iadd, 1) := by decide +kernel
theorem dL_law_1655 : decode cL_law 1655 = .ok (.iaload, 1) := by decide +kernel
theorem dL_law_1656 : decode cL_law 1656 = .ok (.aload_n 0, 1) := by decide +kernel
theorem dL_law_1657 : decode cL_law 1657 = .ok (.iload 4, 2) := by decide +kernel
theorem dL_law_1659 : decode cL_law 1659 = .ok (.iconst 2, 1) := by decide +kernel
theorem dL_law_1660 : decode cL_law 1660 = .ok (.iadd, 1) := by decide +kernel
theorem dL_law_1661 : decode cL_law 1661 = .ok (.iaload, 1) := by decide +kernel
theorem dL_law_1662 : decode cL_law 1662 = .ok (.aload_n 0, 1) := by decide +kernel
theorem dL_law_1663 : decode cL_law 1663 = .ok (.iload 4, 2) := by decide +kernel
theorem dL_law_1665 : decode cL_law 1665 = .ok (.iconst 3, 1) := by decide +kernel
theorem dL_law_1666 : decode cL_law 1666 = .ok (.iadd, 1) := by decide +kernel
theorem dL_law_1667 : decode cL_law 1667 = .ok (.iaload, 1) := by decide +kernel
theorem dL_law_1668 : decode cL_law 1668 = .ok (.ifCond .eq 7, 3) := by decide +kernel
theorem dL_law_1671 : decode cL_law 1671 = .ok (.iconst 1, 1) := by decide +kernel
theorem dL_law_1672 : decode cL_law 1672 = .ok (.goto 4, 3) := by decide +kernel
theorem dL_law_1675 : decode cL_law 1675 = .ok (.iconst 0, 1) := by decide +kernel
theorem dL_law_1676 : decode cL_law 1676 = .ok (.aload_n 3, 1) := by decide +kernel
theorem dL_law_1677 : decode cL_law 1677 = .ok (.invokestatic 261, 3) := by decide +kernel
theorem dL_law_1680 : decode cL_law 1680 = .ok (.istore 5, 2) := by decide +kernel
theorem dL_law_1682 : decode cL_law 1682 = .ok (.aload_n 2, 1) := by decide +kernel
theorem dL_law_1683 : decode cL_law 1683 = .ok (.aload_n 0, 1) := by decide +kernel
theorem dL_law_1684 : decode cL_law 1684 = .ok (.iload 4, 2) := by decide +kernel
theorem dL_law_1686 : decode cL_law 1686 = .ok (.iconst 1, 1) := by decide +kernel
theorem dL_law_1687 : decode cL_law 1687 = .ok (.iadd, 1) := by decide +kernel
theorem dL_law_1688 : decode cL_law 1688 = .ok (.iaload, 1) := by decide +kernel
theorem dL_law_1689 : decode cL_law 1689 = .ok (.aload_n 0, 1) := by decide +kernel
theorem dL_law_1690 : decode cL_law 1690 = .ok (.iload 4, 2) := by decide +kernel
theorem dL_law_1692 : decode cL_law 1692 = .ok (.iconst 2, 1) := by decide +kernel
theorem dL_law_1693 : decode cL_law 1693 = .ok (.iadd, 1) := by decide +kernel
theorem dL_law_1694 : decode cL_law 1694 = .ok (.iaload, 1) := by decide +kernel
theorem dL_law_1695 : decode cL_law 1695 = .ok (.aload_n 0, 1) := by decide +kernel
theorem dL_law_1696 : decode cL_law 1696 = .ok (.iload 4, 2) := by decide +kernel
theorem dL_law_1698 : decode cL_law 1698 = .ok (.iconst 3, 1) := by decide +kernel
theorem dL_law_1699 : decode cL_law 1699 = .ok (.iadd, 1) := by decide +kernel
theorem dL_law_1700 : decode cL_law 1700 = .ok (.iaload, 1) := by decide +kernel
theorem dL_law_1701 : decode cL_law 1701 = .ok (.ifCond .eq 7, 3) := by decide +kernel
theorem dL_law_1704 : decode cL_law 1704 = .ok (.iconst 1, 1) := by decide +kernel
theorem dL_law_1705 : decode cL_law 1705 = .ok (.goto 4, 3) := by decide +kernel
theorem dL_law_1708 : decode cL_law 1708 = .ok (.iconst 0, 1) := by decide +kernel
theorem dL_law_1709 : decode cL_law 1709 = .ok (.invokevirtual 264, 3) := by decide +kernel
theorem dL_law_1712 : decode cL_law 1712 = .ok (.istore 6, 2) := by decide +kernel
theorem dL_law_1714 : decode cL_law 1714 = .ok (.aload_n 2, 1) := by decide +kernel
theorem dL_law_1715 : decode cL_law 1715 = .ok (.invokevirtual 177, 3) := by decide +kernel
theorem dL_law_1718 : decode cL_law 1718 = .ok (.iload 5, 2) := by decide +kernel
theorem dL_law_1720 : decode cL_law 1720 = .ok (.if_icmp .eq 5, 3) := by decide +kernel
theorem dL_law_1723 : decode cL_law 1723 = .ok (.iconst 0, 1) := by decide +kernel
theorem dL_law_1724 : decode cL_law 1724 = .ok (.ireturn, 1) := by decide +kernel
theorem dL_law_1725 : decode cL_law 1725 = .ok (.iload 5, 2) := by decide +kernel
theorem dL_law_1727 : decode cL_law 1727 = .ok (.ifCond .ne 15, 3) := by decide +kernel
theorem dL_law_1730 : decode cL_law 1730 = .ok (.aload_n 3, 1) := by decide +kernel
theorem dL_law_1731 : decode cL_law 1731 = .ok (.iconst 0, 1) := by decide +kernel
theorem dL_law_1732 : decode cL_law 1732 = .ok (.laload, 1) := by decide +kernel
theorem dL_law_1733 : decode cL_law 1733 = .ok (.iload 6, 2) := by decide +kernel
theorem dL_law_1735 : decode cL_law 1735 = .ok (.i2l, 1) := by decide +kernel
theorem dL_law_1736 : decode cL_law 1736 = .ok (.lcmp, 1) := by decide +kernel
theorem dL_law_1737 : decode cL_law 1737 = .ok (.ifCond .eq 5, 3) := by decide +kernel
theorem dL_law_1740 : decode cL_law 1740 = .ok (.iconst 0, 1) := by decide +kernel
theorem dL_law_1741 : decode cL_law 1741 = .ok (.ireturn, 1) := by decide +kernel
theorem dL_law_1742 : decode cL_law 1742 = .ok (.goto 1863, 3) := by decide +kernel
theorem dL_law_1745 : decode cL_law 1745 = .ok (.aload_n 1, 1) := by decide +kernel
theorem dL_law_1746 : decode cL_law 1746 = .ok (.aload_n 0, 1) := by decide +kernel
theorem dL_law_1747 : decode cL_law 1747 = .ok (.iload 4, 2) := by decide +kernel
theorem dL_law_1749 : decode cL_law 1749 = .ok (.iconst 1, 1) := by decide +kernel
theorem dL_law_1750 : decode cL_law 1750 = .ok (.iadd, 1) := by decide +kernel
theorem dL_law_1751 : decode cL_law 1751 = .ok (.iaload, 1) := by decide +kernel
theorem dL_law_1752 : decode cL_law 1752 = .ok (.aload_n 0, 1) := by decide +kernel
theorem dL_law_1753 : decode cL_law 1753 = .ok (.iload 4, 2) := by decide +kernel
theorem dL_law_1755 : decode cL_law 1755 = .ok (.iconst 2, 1) := by decide +kernel
theorem dL_law_1756 : decode cL_law 1756 = .ok (.iadd, 1) := by decide +kernel
theorem dL_law_1757 : decode cL_law 1757 = .ok (.iaload, 1) := by decide +kernel
theorem dL_law_1758 : decode cL_law 1758 = .ok (.aload_n 0, 1) := by decide +kernel
theorem dL_law_1759 : decode cL_law 1759 = .ok (.iload 4, 2) := by decide +kernel
theorem dL_law_1761 : decode cL_law 1761 = .ok (.iconst 3, 1) := by decide +kernel
theorem dL_law_1762 : decode cL_law 1762 = .ok (.iadd, 1) := by decide +kernel
theorem dL_law_1763 : decode cL_law 1763 = .ok (.iaload, 1) := by decide +kernel
theorem dL_law_1764 : decode cL_law 1764 = .ok (.aload_n 0, 1) := by decide +kernel
theorem dL_law_1765 : decode cL_law 1765 = .ok (.iload 4, 2) := by decide +kernel
theorem dL_law_1767 : decode cL_law 1767 = .ok (.iconst 4, 1) := by decide +kernel
theorem dL_law_1768 : decode cL_law 1768 = .ok (.iadd, 1) := by decide +kernel
theorem dL_law_1769 : decode cL_law 1769 = .ok (.iaload, 1) := by decide +kernel
theorem dL_law_1770 : decode cL_law 1770 = .ok (.aload_n 3, 1) := by decide +kernel
theorem dL_law_1771 : decode cL_law 1771 = .ok (.invokestatic 265, 3) := by decide +kernel
theorem dL_law_1774 : decode cL_law 1774 = .ok (.istore 5, 2) := by decide +kernel
theorem dL_law_1776 : decode cL_law 1776 = .ok (.aload_n 2, 1) := by decide +kernel
theorem dL_law_1777 : decode cL_law 1777 = .ok (.aload_n 0, 1) := by decide +kernel
theorem dL_law_1778 : decode cL_law 1778 = .ok (.iload 4, 2) := by decide +kernel
theorem dL_law_1780 : decode cL_law 1780 = .ok (.iconst 1, 1) := by decide +kernel
theorem dL_law_1781 : decode cL_law 1781 = .ok (.iadd, 1) := by decide +kernel
theorem dL_law_1782 : decode cL_law 1782 = .ok (.iaload, 1) := by decide +kernel
theorem dL_law_1783 : decode cL_law 1783 = .ok (.aload_n 0, 1) := by decide +kernel
theorem dL_law_1784 : decode cL_law 1784 = .ok (.iload 4, 2) := by decide +kernel
theorem dL_law_1786 : decode cL_law 1786 = .ok (.iconst 2, 1) := by decide +kernel
theorem dL_law_1787 : decode cL_law 1787 = .ok (.iadd, 1) := by decide +kernel
theorem dL_law_1788 : decode cL_law 1788 = .ok (.iaload, 1) := by decide +kernel
theorem dL_law_1789 : decode cL_law 1789 = .ok (.aload_n 0, 1) := by decide +kernel
theorem dL_law_1790 : decode cL_law 1790 = .ok (.iload 4, 2) := by decide +kernel
theorem dL_law_1792 : decode cL_law 1792 = .ok (.iconst 3, 1) := by decide +kernel
theorem dL_law_1793 : decode cL_law 1793 = .ok (.iadd, 1) := by decide +kernel
theorem dL_law_1794 : decode cL_law 1794 = .ok (.iaload, 1) := by decide +kernel
theorem dL_law_1795 : decode cL_law 1795 = .ok (.aload_n 0, 1) := by decide +kernel
theorem dL_law_1796 : decode cL_law 1796 = .ok (.iload 4, 2) := by decide +kernel
theorem dL_law_1798 : decode cL_law 1798 = .ok (.iconst 4, 1) := by decide +kernel
theorem dL_law_1799 : decode cL_law 1799 = .ok (.iadd, 1) := by decide +kernel
theorem dL_law_1800 : decode cL_law 1800 = .ok (.iaload, 1) := by decide +kernel
theorem dL_law_1801 : decode cL_law 1801 = .ok (.invokevirtual 267, 3) := by decide +kernel
theorem dL_law_1804 : decode cL_law 1804 = .ok (.istore 6, 2) := by decide +kernel
theorem dL_law_1806 : decode cL_law 1806 = .ok (.aload_n 2, 1) := by decide +kernel
theorem dL_law_1807 : decode cL_law 1807 = .ok (.invokevirtual 177, 3) := by decide +kernel
theorem dL_law_1810 : decode cL_law 1810 = .ok (.iload 5, 2) := by decide +kernel
theorem dL_law_1812 : decode cL_law 1812 = .ok (.if_icmp .eq 5, 3) := by decide +kernel
theorem dL_law_1815 : decode cL_law 1815 = .ok (.iconst 0, 1) := by decide +kernel
theorem dL_law_1816 : decode cL_law 1816 = .ok (.ireturn, 1) := by decide +kernel
theorem dL_law_1817 : decode cL_law 1817 = .ok (.iload 5, 2) := by decide +kernel
theorem dL_law_1819 : decode cL_law 1819 = .ok (.ifCond .ne 15, 3) := by decide +kernel
theorem dL_law_1822 : decode cL_law 1822 = .ok (.aload_n 3, 1) := by decide +kernel
theorem dL_law_1823 : decode cL_law 1823 = .ok (.iconst 0, 1) := by decide +kernel
theorem dL_law_1824 : decode cL_law 1824 = .ok (.laload, 1) := by decide +kernel
theorem dL_law_1825 : decode cL_law 1825 = .ok (.iload 6, 2) := by decide +kernel
theorem dL_law_1827 : decode cL_law 1827 = .ok (.i2l, 1) := by decide +kernel
theorem dL_law_1828 : decode cL_law 1828 = .ok (.lcmp, 1) := by decide +kernel
theorem dL_law_1829 : decode cL_law 1829 = .ok (.ifCond .eq 5, 3) := by decide +kernel
theorem dL_law_1832 : decode cL_law 1832 = .ok (.iconst 0, 1) := by decide +kernel
theorem dL_law_1833 : decode cL_law 1833 = .ok (.ireturn, 1) := by decide +kernel
theorem dL_law_1834 : decode cL_law 1834 = .ok (.goto 1771, 3) := by decide +kernel
theorem dL_law_1837 : decode cL_law 1837 = .ok (.aload_n 1, 1) := by decide +kernel
theorem dL_law_1838 : decode cL_law 1838 = .ok (.invokevirtual 268, 3) := by decide +kernel
theorem dL_law_1841 : decode cL_law 1841 = .ok (.aload_n 2, 1) := by decide +kernel
theorem dL_law_1842 : decode cL_law 1842 = .ok (.invokevirtual 271, 3) := by decide +kernel
theorem dL_law_1845 : decode cL_law 1845 = .ok (.if_icmp .eq 1760, 3) := by decide +kernel
theorem dL_law_1848 : decode cL_law 1848 = .ok (.iconst 0, 1) := by decide +kernel
theorem dL_law_1849 : decode cL_law 1849 = .ok (.ireturn, 1) := by decide +kernel
theorem dL_law_1850 : decode cL_law 1850 = .ok (.aload_n 1, 1) := by decide +kernel
theorem dL_law_1851 : decode cL_law 1851 = .ok (.aload_n 0, 1) := by decide +kernel
theorem dL_law_1852 : decode cL_law 1852 = .ok (.iload 4, 2) := by decide +kernel
theorem dL_law_1854 : decode cL_law 1854 = .ok (.iconst 1, 1) := by decide +kernel
theorem dL_law_1855 : decode cL_law 1855 = .ok (.iadd, 1) := by decide +kernel
theorem dL_law_1856 : decode cL_law 1856 = .ok (.iaload, 1) := by decide +kernel
theorem dL_law_1857 : decode cL_law 1857 = .ok (.ifCond .eq 7, 3) := by decide +kernel
theorem dL_law_1860 : decode cL_law 1860 = .ok (.iconst 1, 1) := by decide +kernel
theorem dL_law_1861 : decode cL_law 1861 = .ok (.goto 4, 3) := by decide +kernel
theorem dL_law_1864 : decode cL_law 1864 = .ok (.iconst 0, 1) := by decide +kernel
theorem dL_law_1865 : decode cL_law 1865 = .ok (.invokevirtual 272, 3) := by decide +kernel
theorem dL_law_1868 : decode cL_law 1868 = .ok (.aload_n 2, 1) := by decide +kernel
theorem dL_law_1869 : decode cL_law 1869 = .ok (.aload_n 0, 1) := by decide +kernel
theorem dL_law_1870 : decode cL_law 1870 = .ok (.iload 4, 2) := by decide +kernel
theorem dL_law_1872 : decode cL_law 1872 = .ok (.iconst 1, 1) := by decide +kernel
theorem dL_law_1873 : decode cL_law 1873 = .ok (.iadd, 1) := by decide +kernel
theorem dL_law_1874 : decode cL_law 1874 = .ok (.iaload, 1) := by decide +kernel
theorem dL_law_1875 : decode cL_law 1875 = .ok (.ifCond .eq 7, 3) := by decide +kernel
theorem dL_law_1878 : decode cL_law 1878 = .ok (.iconst 1, 1) := by decide +kernel
theorem dL_law_1879 : decode cL_law 1879 = .ok (.goto 4, 3) := by decide +kernel
theorem dL_law_1882 : decode cL_law 1882 = .ok (.iconst 0, 1) := by decide +kernel
theorem dL_law_1883 : decode cL_law 1883 = .ok (.invokevirtual 275, 3) := by decide +kernel
theorem dL_law_1886 : decode cL_law 1886 = .ok (.if_icmp .eq 1719, 3) := by decide +kernel
theorem dL_law_1889 : decode cL_law 1889 = .ok (.iconst 0, 1) := by decide +kernel
theorem dL_law_1890 : decode cL_law 1890 = .ok (.ireturn, 1) := by decide +kernel
theorem dL_law_1891 : decode cL_law 1891 = .ok (.aload_n 1, 1) := by decide +kernel
theorem dL_law_1892 : decode cL_law 1892 = .ok (.aload_n 0, 1) := by decide +kernel
theorem dL_law_1893 : decode cL_law 1893 = .ok (.iload 4, 2) := by decide +kernel
theorem dL_law_1895 : decode cL_law 1895 = .ok (.iconst 1, 1) := by decide +kernel
theorem dL_law_1896 : decode cL_law 1896 = .ok (.iadd, 1) := by decide +kernel
theorem dL_law_1897 : decode cL_law 1897 = .ok (.iaload, 1) := by decide +kernel
theorem dL_law_1898 : decode cL_law 1898 = .ok (.aload_n 0, 1) := by decide +kernel
theorem dL_law_1899 : decode cL_law 1899 = .ok (.iload 4, 2) := by decide +kernel
theorem dL_law_1901 : decode cL_law 1901 = .ok (.iconst 2, 1) := by decide +kernel
theorem dL_law_1902 : decode cL_law 1902 = .ok (.iadd, 1) := by decide +kernel
theorem dL_law_1903 : decode cL_law 1903 = .ok (.iaload, 1) := by decide +kernel
theorem dL_law_1904 : decode cL_law 1904 = .ok (.aload_n 3, 1) := by decide +kernel
theorem dL_law_1905 : decode cL_law 1905 = .ok (.invokestatic 276, 3) := by decide +kernel
theorem dL_law_1908 : decode cL_law 1908 = .ok (.istore 5, 2) := by decide +kernel
theorem dL_law_1910 : decode cL_law 1910 = .ok (.aload_n 2, 1) := by decide +kernel
theorem dL_law_1911 : decode cL_law 1911 = .ok (.aload_n 0, 1) := by decide +kernel
theorem dL_law_1912 : decode cL_law 1912 = .ok (.iload 4, 2) := by decide +kernel
theorem dL_law_1914 : decode cL_law 1914 = .ok (.iconst 1, 1) := by decide +kernel
theorem dL_law_1915 : decode cL_law 1915 = .ok (.iadd, 1) := by decide +kernel
theorem dL_law_1916 : decode cL_law 1916 = .ok (.iaload, 1) := by decide +kernel
theorem dL_law_1917 : decode cL_law 1917 = .ok (.aload_n 0, 1) := by decide +kernel
theorem dL_law_1918 : decode cL_law 1918 = .ok (.iload 4, 2) := by decide +kernel
theorem dL_law_1920 : decode cL_law 1920 = .ok (.iconst 2, 1) := by decide +kernel
theorem dL_law_1921 : decode cL_law 1921 = .ok (.iadd, 1) := by decide +kernel
theorem dL_law_1922 : decode cL_law 1922 = .ok (.iaload, 1) := by decide +kernel
theorem dL_law_1923 : decode cL_law 1923 = .ok (.invokevirtual 278, 3) := by decide +kernel
theorem dL_law_1926 : decode cL_law 1926 = .ok (.istore 6, 2) := by decide +kernel
theorem dL_law_1928 : decode cL_law 1928 = .ok (.aload_n 2, 1) := by decide +kernel
theorem dL_law_1929 : decode cL_law 1929 = .ok (.invokevirtual 177, 3) := by decide +kernel
theorem dL_law_1932 : decode cL_law 1932 = .ok (.iload 5, 2) := by decide +kernel
theorem dL_law_1934 : decode cL_law 1934 = .ok (.if_icmp .eq 5, 3) := by decide +kernel
theorem dL_law_1937 : decode cL_law 1937 = .ok (.iconst 0, 1) := by decide +kernel
theorem dL_law_1938 : decode cL_law 1938 = .ok (.ireturn, 1) := by decide +kernel
theorem dL_law_1939 : decode cL_law 1939 = .ok (.iload 5, 2) := by decide +kernel
theorem dL_law_1941 : decode cL_law 1941 = .ok (.ifCond .ne 15, 3) := by decide +kernel
theorem dL_law_1944 : decode cL_law 1944 = .ok (.aload_n 3, 1) := by decide +kernel
theorem dL_law_1945 : decode cL_law 1945 = .ok (.iconst 0, 1) := by decide +kernel
theorem dL_law_1946 : decode cL_law 1946 = .ok (.laload, 1) := by decide +kernel
theorem dL_law_1947 : decode cL_law 1947 = .ok (.iload 6, 2) := by decide +kernel
theorem dL_law_1949 : decode cL_law 1949 = .ok (.i2l, 1) := by decide +kernel
theorem dL_law_1950 : decode cL_law 1950 = .ok (.lcmp, 1) := by decide +kernel
theorem dL_law_1951 : decode cL_law 1951 = .ok (.ifCond .eq 5, 3) := by decide +kernel
theorem dL_law_1954 : decode cL_law 1954 = .ok (.iconst 0, 1) := by decide +kernel
theorem dL_law_1955 : decode cL_law 1955 = .ok (.ireturn, 1) := by decide +kernel
theorem dL_law_1956 : decode cL_law 1956 = .ok (.goto 1649, 3) := by decide +kernel
theorem dL_law_1959 : decode cL_law 1959 = .ok (.aload_n 1, 1) := by decide +kernel
theorem dL_law_1960 : decode cL_law 1960 = .ok (.aload_n 0, 1) := by decide +kernel
theorem dL_law_1961 : decode cL_law 1961 = .ok (.iload 4, 2) := by decide +kernel
theorem dL_law_1963 : decode cL_law 1963 = .ok (.iconst 1, 1) := by decide +kernel
theorem dL_law_1964 : decode cL_law 1964 = .ok (.iadd, 1) := by decide +kernel
theorem dL_law_1965 : decode cL_law 1965 = .ok (.iaload, 1) := by decide +kernel
theorem dL_law_1966 : decode cL_law 1966 = .ok (.aload_n 0, 1) := by decide +kernel
theorem dL_law_1967 : decode cL_law 1967 = .ok (.iload 4, 2) := by decide +kernel
theorem dL_law_1969 : decode cL_law 1969 = .ok (.iconst 2, 1) := by decide +kernel
theorem dL_law_1970 : decode cL_law 1970 = .ok (.iadd, 1) := by decide +kernel
theorem dL_law_1971 : decode cL_law 1971 = .ok (.iaload, 1) := by decide +kernel
theorem dL_law_1972 : decode cL_law 1972 = .ok (.aload_n 3, 1) := by decide +kernel
theorem dL_law_1973 : decode cL_law 1973 = .ok (.invokestatic 279, 3) := by decide +kernel
theorem dL_law_1976 : decode cL_law 1976 = .ok (.istore 5, 2) := by decide +kernel
theorem dL_law_1978 : decode cL_law 1978 = .ok (.aload_n 2, 1) := by decide +kernel
theorem dL_law_1979 : decode cL_law 1979 = .ok (.aload_n 0, 1) := by decide +kernel
theorem dL_law_1980 : decode cL_law 1980 = .ok (.iload 4, 2) := by decide +kernel
theorem dL_law_1982 : decode cL_law 1982 = .ok (.iconst 1, 1) := by decide +kernel
theorem dL_law_1983 : decode cL_law 1983 = .ok (.iadd, 1) := by decide +kernel
theorem dL_law_1984 : decode cL_law 1984 = .ok (.iaload, 1) := by decide +kernel
theorem dL_law_1985 : decode cL_law 1985 = .ok (.aload_n 0, 1) := by decide +kernel
theorem dL_law_1986 : decode cL_law 1986 = .ok (.iload 4, 2) := by decide +kernel
theorem dL_law_1988 : decode cL_law 1988 = .ok (.iconst 2, 1) := by decide +kernel
theorem dL_law_1989 : decode cL_law 1989 = .ok (.iadd, 1) := by decide +kernel
theorem dL_law_1990 : decode cL_law 1990 = .ok (.iaload, 1) := by decide +kernel
theorem dL_law_1991 : decode cL_law 1991 = .ok (.invokevirtual 281, 3) := by decide +kernel
theorem dL_law_1994 : decode cL_law 1994 = .ok (.istore 6, 2) := by decide +kernel
theorem dL_law_1996 : decode cL_law 1996 = .ok (.aload_n 2, 1) := by decide +kernel
theorem dL_law_1997 : decode cL_law 1997 = .ok (.invokevirtual 177, 3) := by decide +kernel
theorem dL_law_2000 : decode cL_law 2000 = .ok (.iload 5, 2) := by decide +kernel
theorem dL_law_2002 : decode cL_law 2002 = .ok (.if_icmp .eq 5, 3) := by decide +kernel
theorem dL_law_2005 : decode cL_law 2005 = .ok (.iconst 0, 1) := by decide +kernel
theorem dL_law_2006 : decode cL_law 2006 = .ok (.ireturn, 1) := by decide +kernel
theorem dL_law_2007 : decode cL_law 2007 = .ok (.iload 5, 2) := by decide +kernel
theorem dL_law_2009 : decode cL_law 2009 = .ok (.ifCond .ne 15, 3) := by decide +kernel
theorem dL_law_2012 : decode cL_law 2012 = .ok (.aload_n 3, 1) := by decide +kernel
theorem dL_law_2013 : decode cL_law 2013 = .ok (.iconst 0, 1) := by decide +kernel
theorem dL_law_2014 : decode cL_law 2014 = .ok (.laload, 1) := by decide +kernel
theorem dL_law_2015 : decode cL_law 2015 = .ok (.iload 6, 2) := by decide +kernel
theorem dL_law_2017 : decode cL_law 2017 = .ok (.i2l, 1) := by decide +kernel
theorem dL_law_2018 : decode cL_law 2018 = .ok (.lcmp, 1) := by decide +kernel
theorem dL_law_2019 : decode cL_law 2019 = .ok (.ifCond .eq 5, 3) := by decide +kernel
theorem dL_law_2022 : decode cL_law 2022 = .ok (.iconst 0, 1) := by decide +kernel
theorem dL_law_2023 : decode cL_law 2023 = .ok (.ireturn, 1) := by decide +kernel
theorem dL_law_2024 : decode cL_law 2024 = .ok (.goto 1581, 3) := by decide +kernel
theorem dL_law_2027 : decode cL_law 2027 = .ok (.aload_n 1, 1) := by decide +kernel
theorem dL_law_2028 : decode cL_law 2028 = .ok (.aload_n 0, 1) := by decide +kernel
theorem dL_law_2029 : decode cL_law 2029 = .ok (.iload 4, 2) := by decide +kernel
theorem dL_law_2031 : decode cL_law 2031 = .ok (.iconst 1, 1) := by decide +kernel
theorem dL_law_2032 : decode cL_law 2032 = .ok (.iadd, 1) := by decide +kernel
theorem dL_law_2033 : decode cL_law 2033 = .ok (.iaload, 1) := by decide +kernel
theorem dL_law_2034 : decode cL_law 2034 = .ok (.aload_n 0, 1) := by decide +kernel
theorem dL_law_2035 : decode cL_law 2035 = .ok (.iload 4, 2) := by decide +kernel
theorem dL_law_2037 : decode cL_law 2037 = .ok (.iconst 2, 1) := by decide +kernel
theorem dL_law_2038 : decode cL_law 2038 = .ok (.iadd, 1) := by decide +kernel
theorem dL_law_2039 : decode cL_law 2039 = .ok (.iaload, 1) := by decide +kernel
theorem dL_law_2040 : decode cL_law 2040 = .ok (.aload_n 3, 1) := by decide +kernel
theorem dL_law_2041 : decode cL_law 2041 = .ok (.invokestatic 282, 3) := by decide +kernel
theorem dL_law_2044 : decode cL_law 2044 = .ok (.istore 5, 2) := by decide +kernel
theorem dL_law_2046 : decode cL_law 2046 = .ok (.aload_n 2, 1) := by decide +kernel
theorem dL_law_2047 : decode cL_law 2047 = .ok (.aload_n 0, 1) := by decide +kernel
theorem dL_law_2048 : decode cL_law 2048 = .ok (.iload 4, 2) := by decide +kernel
theorem dL_law_2050 : decode cL_law 2050 = .ok (.iconst 1, 1) := by decide +kernel
theorem dL_law_2051 : decode cL_law 2051 = .ok (.iadd, 1) := by decide +kernel
theorem dL_law_2052 : decode cL_law 2052 = .ok (.iaload, 1) := by decide +kernel
theorem dL_law_2053 : decode cL_law 2053 = .ok (.aload_n 0, 1) := by decide +kernel
theorem dL_law_2054 : decode cL_law 2054 = .ok (.iload 4, 2) := by decide +kernel
theorem dL_law_2056 : decode cL_law 2056 = .ok (.iconst 2, 1) := by decide +kernel
theorem dL_law_2057 : decode cL_law 2057 = .ok (.iadd, 1) := by decide +kernel
theorem dL_law_2058 : decode cL_law 2058 = .ok (.iaload, 1) := by decide +kernel
theorem dL_law_2059 : decode cL_law 2059 = .ok (.invokevirtual 284, 3) := by decide +kernel
theorem dL_law_2062 : decode cL_law 2062 = .ok (.istore 6, 2) := by decide +kernel
theorem dL_law_2064 : decode cL_law 2064 = .ok (.aload_n 2, 1) := by decide +kernel
theorem dL_law_2065 : decode cL_law 2065 = .ok (.invokevirtual 177, 3) := by decide +kernel
theorem dL_law_2068 : decode cL_law 2068 = .ok (.iload 5, 2) := by decide +kernel
theorem dL_law_2070 : decode cL_law 2070 = .ok (.if_icmp .eq 5, 3) := by decide +kernel
theorem dL_law_2073 : decode cL_law 2073 = .ok (.iconst 0, 1) := by decide +kernel
theorem dL_law_2074 : decode cL_law 2074 = .ok (.ireturn, 1) := by decide +kernel
theorem dL_law_2075 : decode cL_law 2075 = .ok (.iload 5, 2) := by decide +kernel
theorem dL_law_2077 : decode cL_law 2077 = .ok (.ifCond .ne 15, 3) := by decide +kernel
theorem dL_law_2080 : decode cL_law 2080 = .ok (.aload_n 3, 1) := by decide +kernel
theorem dL_law_2081 : decode cL_law 2081 = .ok (.iconst 0, 1) := by decide +kernel
theorem dL_law_2082 : decode cL_law 2082 = .ok (.laload, 1) := by decide +kernel
theorem dL_law_2083 : decode cL_law 2083 = .ok (.iload 6, 2) := by decide +kernel
theorem dL_law_2085 : decode cL_law 2085 = .ok (.i2l, 1) := by decide +kernel
theorem dL_law_2086 : decode cL_law 2086 = .ok (.lcmp, 1) := by decide +kernel
theorem dL_law_2087 : decode cL_law 2087 = .ok (.ifCond .eq 5, 3) := by decide +kernel
theorem dL_law_2090 : decode cL_law 2090 = .ok (.iconst 0, 1) := by decide +kernel
theorem dL_law_2091 : decode cL_law 2091 = .ok (.ireturn, 1) := by decide +kernel
theorem dL_law_2092 : decode cL_law 2092 = .ok (.goto 1513, 3) := by decide +kernel
theorem dL_law_2095 : decode cL_law 2095 = .ok (.aload_n 1, 1) := by decide +kernel
theorem dL_law_2096 : decode cL_law 2096 = .ok (.aload_n 0, 1) := by decide +kernel
theorem dL_law_2097 : decode cL_law 2097 = .ok (.iload 4, 2) := by decide +kernel
theorem dL_law_2099 : decode cL_law 2099 = .ok (.iconst 1, 1) := by decide +kernel
theorem dL_law_2100 : decode cL_law 2100 = .ok (.iadd, 1) := by decide +kernel
theorem dL_law_2101 : decode cL_law 2101 = .ok (.iaload, 1) := by decide +kernel
theorem dL_law_2102 : decode cL_law 2102 = .ok (.aload_n 0, 1) := by decide +kernel
theorem dL_law_2103 : decode cL_law 2103 = .ok (.iload 4, 2) := by decide +kernel
theorem dL_law_2105 : decode cL_law 2105 = .ok (.iconst 2, 1) := by decide +kernel
theorem dL_law_2106 : decode cL_law 2106 = .ok (.iadd, 1) := by decide +kernel
theorem dL_law_2107 : decode cL_law 2107 = .ok (.iaload, 1) := by decide +kernel
theorem dL_law_2108 : decode cL_law 2108 = .ok (.aload_n 3, 1) := by decide +kernel
theorem dL_law_2109 : decode cL_law 2109 = .ok (.invokestatic 285, 3) := by decide +kernel
theorem dL_law_2112 : decode cL_law 2112 = .ok (.istore 5, 2) := by decide +kernel
theorem dL_law_2114 : decode cL_law 2114 = .ok (.aload_n 2, 1) := by decide +kernel
theorem dL_law_2115 : decode cL_law 2115 = .ok (.aload_n 0, 1) := by decide +kernel
theorem dL_law_2116 : decode cL_law 2116 = .ok (.iload 4, 2) := by decide +kernel
theorem dL_law_2118 : decode cL_law 2118 = .ok (.iconst 1, 1) := by decide +kernel
theorem dL_law_2119 : decode cL_law 2119 = .ok (.iadd, 1) := by decide +kernel
theorem dL_law_2120 : decode cL_law 2120 = .ok (.iaload, 1) := by decide +kernel
theorem dL_law_2121 : decode cL_law 2121 = .ok (.aload_n 0, 1) := by decide +kernel
theorem dL_law_2122 : decode cL_law 2122 = .ok (.iload 4, 2) := by decide +kernel
theorem dL_law_2124 : decode cL_law 2124 = .ok (.iconst 2, 1) := by decide +kernel
theorem dL_law_2125 : decode cL_law 2125 = .ok (.iadd, 1) := by decide +kernel
theorem dL_law_2126 : decode cL_law 2126 = .ok (.iaload, 1) := by decide +kernel
theorem dL_law_2127 : decode cL_law 2127 = .ok (.invokevirtual 287, 3) := by decide +kernel
theorem dL_law_2130 : decode cL_law 2130 = .ok (.istore 6, 2) := by decide +kernel
theorem dL_law_2132 : decode cL_law 2132 = .ok (.aload_n 2, 1) := by decide +kernel
theorem dL_law_2133 : decode cL_law 2133 = .ok (.invokevirtual 177, 3) := by decide +kernel
theorem dL_law_2136 : decode cL_law 2136 = .ok (.iload 5, 2) := by decide +kernel
theorem dL_law_2138 : decode cL_law 2138 = .ok (.if_icmp .eq 5, 3) := by decide +kernel
theorem dL_law_2141 : decode cL_law 2141 = .ok (.iconst 0, 1) := by decide +kernel
theorem dL_law_2142 : decode cL_law 2142 = .ok (.ireturn, 1) := by decide +kernel
theorem dL_law_2143 : decode cL_law 2143 = .ok (.iload 5, 2) := by decide +kernel
theorem dL_law_2145 : decode cL_law 2145 = .ok (.ifCond .ne 15, 3) := by decide +kernel
theorem dL_law_2148 : decode cL_law 2148 = .ok (.aload_n 3, 1) := by decide +kernel
theorem dL_law_2149 : decode cL_law 2149 = .ok (.iconst 0, 1) := by decide +kernel
theorem dL_law_2150 : decode cL_law 2150 = .ok (.laload, 1) := by decide +kernel
theorem dL_law_2151 : decode cL_law 2151 = .ok (.iload 6, 2) := by decide +kernel
theorem dL_law_2153 : decode cL_law 2153 = .ok (.i2l, 1) := by decide +kernel
theorem dL_law_2154 : decode cL_law 2154 = .ok (.lcmp, 1) := by decide +kernel
theorem dL_law_2155 : decode cL_law 2155 = .ok (.ifCond .eq 5, 3) := by decide +kernel
theorem dL_law_2158 : decode cL_law 2158 = .ok (.iconst 0, 1) := by decide +kernel
theorem dL_law_2159 : decode cL_law 2159 = .ok (.ireturn, 1) := by decide +kernel
theorem dL_law_2160 : decode cL_law 2160 = .ok (.goto 1445, 3) := by decide +kernel
theorem dL_law_2163 : decode cL_law 2163 = .ok (.aload_n 1, 1) := by decide +kernel
theorem dL_law_2164 : decode cL_law 2164 = .ok (.aload_n 0, 1) := by decide +kernel
theorem dL_law_2165 : decode cL_law 2165 = .ok (.iload 4, 2) := by decide +kernel
theorem dL_law_2167 : decode cL_law 2167 = .ok (.iconst 1, 1) := by decide +kernel
theorem dL_law_2168 : decode cL_law 2168 = .ok (.iadd, 1) := by decide +kernel
theorem dL_law_2169 : decode cL_law 2169 = .ok (.iaload, 1) := by decide +kernel
theorem dL_law_2170 : decode cL_law 2170 = .ok (.aload_n 3, 1) := by decide +kernel
theorem dL_law_2171 : decode cL_law 2171 = .ok (.invokestatic 288, 3) := by decide +kernel
theorem dL_law_2174 : decode cL_law 2174 = .ok (.istore 5, 2) := by decide +kernel
theorem dL_law_2176 : decode cL_law 2176 = .ok (.aload_n 2, 1) := by decide +kernel
theorem dL_law_2177 : decode cL_law 2177 = .ok (.aload_n 0, 1) := by decide +kernel
theorem dL_law_2178 : decode cL_law 2178 = .ok (.iload 4, 2) := by decide +kernel
theorem dL_law_2180 : decode cL_law 2180 = .ok (.iconst 1, 1) := by decide +kernel
theorem dL_law_2181 : decode cL_law 2181 = .ok (.iadd, 1) := by decide +kernel
theorem dL_law_2182 : decode cL_law 2182 = .ok (.iaload, 1) := by decide +kernel
theorem dL_law_2183 : decode cL_law 2183 = .ok (.invokevirtual 290, 3) := by decide +kernel
theorem dL_law_2186 : decode cL_law 2186 = .ok (.istore 6, 2) := by decide +kernel
theorem dL_law_2188 : decode cL_law 2188 = .ok (.aload_n 2, 1) := by decide +kernel
theorem dL_law_2189 : decode cL_law 2189 = .ok (.invokevirtual 177, 3) := by decide +kernel
theorem dL_law_2192 : decode cL_law 2192 = .ok (.iload 5, 2) := by decide +kernel
theorem dL_law_2194 : decode cL_law 2194 = .ok (.if_icmp .eq 5, 3) := by decide +kernel
theorem dL_law_2197 : decode cL_law 2197 = .ok (.iconst 0, 1) := by decide +kernel
theorem dL_law_2198 : decode cL_law 2198 = .ok (.ireturn, 1) := by decide +kernel
theorem dL_law_2199 : decode cL_law 2199 = .ok (.iload 5, 2) := by decide +kernel
theorem dL_law_2201 : decode cL_law 2201 = .ok (.ifCond .ne 15, 3) := by decide +kernel
theorem dL_law_2204 : decode cL_law 2204 = .ok (.aload_n 3, 1) := by decide +kernel
theorem dL_law_2205 : decode cL_law 2205 = .ok (.iconst 0, 1) := by decide +kernel
theorem dL_law_2206 : decode cL_law 2206 = .ok (.laload, 1) := by decide +kernel
theorem dL_law_2207 : decode cL_law 2207 = .ok (.iload 6, 2) := by decide +kernel
theorem dL_law_2209 : decode cL_law 2209 = .ok (.i2l, 1) := by decide +kernel
theorem dL_law_2210 : decode cL_law 2210 = .ok (.lcmp, 1) := by decide +kernel
theorem dL_law_2211 : decode cL_law 2211 = .ok (.ifCond .eq 5, 3) := by decide +kernel
theorem dL_law_2214 : decode cL_law 2214 = .ok (.iconst 0, 1) := by decide +kernel
theorem dL_law_2215 : decode cL_law 2215 = .ok (.ireturn, 1) := by decide +kernel
theorem dL_law_2216 : decode cL_law 2216 = .ok (.goto 1389, 3) := by decide +kernel
theorem dL_law_2219 : decode cL_law 2219 = .ok (.aload_n 1, 1) := by decide +kernel
theorem dL_law_2220 : decode cL_law 2220 = .ok (.aload_n 0, 1) := by decide +kernel
theorem dL_law_2221 : decode cL_law 2221 = .ok (.iload 4, 2) := by decide +kernel
theorem dL_law_2223 : decode cL_law 2223 = .ok (.iconst 1, 1) := by decide +kernel
theorem dL_law_2224 : decode cL_law 2224 = .ok (.iadd, 1) := by decide +kernel
theorem dL_law_2225 : decode cL_law 2225 = .ok (.iaload, 1) := by decide +kernel
theorem dL_law_2226 : decode cL_law 2226 = .ok (.aload_n 0, 1) := by decide +kernel
theorem dL_law_2227 : decode cL_law 2227 = .ok (.iload 4, 2) := by decide +kernel
theorem dL_law_2229 : decode cL_law 2229 = .ok (.iconst 2, 1) := by decide +kernel
theorem dL_law_2230 : decode cL_law 2230 = .ok (.iadd, 1) := by decide +kernel
theorem dL_law_2231 : decode cL_law 2231 = .ok (.iaload, 1) := by decide +kernel
theorem dL_law_2232 : decode cL_law 2232 = .ok (.aload_n 3, 1) := by decide +kernel
theorem dL_law_2233 : decode cL_law 2233 = .ok (.invokestatic 291, 3) := by decide +kernel
theorem dL_law_2236 : decode cL_law 2236 = .ok (.istore 5, 2) := by decide +kernel
theorem dL_law_2238 : decode cL_law 2238 = .ok (.aload_n 2, 1) := by decide +kernel
theorem dL_law_2239 : decode cL_law 2239 = .ok (.aload_n 0, 1) := by decide +kernel
theorem dL_law_2240 : decode cL_law 2240 = .ok (.iload 4, 2) := by decide +kernel
theorem dL_law_2242 : decode cL_law 2242 = .ok (.iconst 1, 1) := by decide +kernel
theorem dL_law_2243 : decode cL_law 2243 = .ok (.iadd, 1) := by decide +kernel
theorem dL_law_2244 : decode cL_law 2244 = .ok (.iaload, 1) := by decide +kernel
theorem dL_law_2245 : decode cL_law 2245 = .ok (.aload_n 0, 1) := by decide +kernel
theorem dL_law_2246 : decode cL_law 2246 = .ok (.iload 4, 2) := by decide +kernel
theorem dL_law_2248 : decode cL_law 2248 = .ok (.iconst 2, 1) := by decide +kernel
theorem dL_law_2249 : decode cL_law 2249 = .ok (.iadd, 1) := by decide +kernel
theorem dL_law_2250 : decode cL_law 2250 = .ok (.iaload, 1) := by decide +kernel
theorem dL_law_2251 : decode cL_law 2251 = .ok (.invokevirtual 293, 3) := by decide +kernel
theorem dL_law_2254 : decode cL_law 2254 = .ok (.istore 6, 2) := by decide +kernel
theorem dL_law_2256 : decode cL_law 2256 = .ok (.aload_n 2, 1) := by decide +kernel
theorem dL_law_2257 : decode cL_law 2257 = .ok (.invokevirtual 177, 3) := by decide +kernel
theorem dL_law_2260 : decode cL_law 2260 = .ok (.iload 5, 2) := by decide +kernel
theorem dL_law_2262 : decode cL_law 2262 = .ok (.if_icmp .eq 5, 3) := by decide +kernel
theorem dL_law_2265 : decode cL_law 2265 = .ok (.iconst 0, 1) := by decide +kernel
theorem dL_law_2266 : decode cL_law 2266 = .ok (.ireturn, 1) := by decide +kernel
theorem dL_law_2267 : decode cL_law 2267 = .ok (.iload 5, 2) := by decide +kernel
theorem dL_law_2269 : decode cL_law 2269 = .ok (.ifCond .ne 15, 3) := by decide +kernel
theorem dL_law_2272 : decode cL_law 2272 = .ok (.aload_n 3, 1) := by decide +kernel
theorem dL_law_2273 : decode cL_law 2273 = .ok (.iconst 0, 1) := by decide +kernel
theorem dL_law_2274 : decode cL_law 2274 = .ok (.laload, 1) := by decide +kernel
theorem dL_law_2275 : decode cL_law 2275 = .ok (.iload 6, 2) := by decide +kernel
theorem dL_law_2277 : decode cL_law 2277 = .ok (.i2l, 1) := by decide +kernel
theorem dL_law_2278 : decode cL_law 2278 = .ok (.lcmp, 1) := by decide +kernel
theorem dL_law_2279 : decode cL_law 2279 = .ok (.ifCond .eq 5, 3) := by decide +kernel
theorem dL_law_2282 : decode cL_law 2282 = .ok (.iconst 0, 1) := by decide +kernel
theorem dL_law_2283 : decode cL_law 2283 = .ok (.ireturn, 1) := by decide +kernel
theorem dL_law_2284 : decode cL_law 2284 = .ok (.goto 1321, 3) := by decide +kernel
theorem dL_law_2287 : decode cL_law 2287 = .ok (.aload_n 1, 1) := by decide +kernel
theorem dL_law_2288 : decode cL_law 2288 = .ok (.aload_n 0, 1) := by decide +kernel
theorem dL_law_2289 : decode cL_law 2289 = .ok (.iload 4, 2) := by decide +kernel
theorem dL_law_2291 : decode cL_law 2291 = .ok (.iconst 1, 1) := by decide +kernel
theorem dL_law_2292 : decode cL_law 2292 = .ok (.iadd, 1) := by decide +kernel
theorem dL_law_2293 : decode cL_law 2293 = .ok (.iaload, 1) := by decide +kernel
theorem dL_law_2294 : decode cL_law 2294 = .ok (.aload_n 0, 1) := by decide +kernel
theorem dL_law_2295 : decode cL_law 2295 = .ok (.iload 4, 2) := by decide +kernel
theorem dL_law_2297 : decode cL_law 2297 = .ok (.iconst 2, 1) := by decide +kernel
theorem dL_law_2298 : decode cL_law 2298 = .ok (.iadd, 1) := by decide +kernel
theorem dL_law_2299 : decode cL_law 2299 = .ok (.iaload, 1) := by decide +kernel
theorem dL_law_2300 : decode cL_law 2300 = .ok (.aload_n 0, 1) := by decide +kernel
theorem dL_law_2301 : decode cL_law 2301 = .ok (.iload 4, 2) := by decide +kernel
theorem dL_law_2303 : decode cL_law 2303 = .ok (.iconst 3, 1) := by decide +kernel
theorem dL_law_2304 : decode cL_law 2304 = .ok (.iadd, 1) := by decide +kernel
theorem dL_law_2305 : decode cL_law 2305 = .ok (.iaload, 1) := by decide +kernel
theorem dL_law_2306 : decode cL_law 2306 = .ok (.aload_n 0, 1) := by decide +kernel
theorem dL_law_2307 : decode cL_law 2307 = .ok (.iload 4, 2) := by decide +kernel
theorem dL_law_2309 : decode cL_law 2309 = .ok (.iconst 4, 1) := by decide +kernel
theorem dL_law_2310 : decode cL_law 2310 = .ok (.iadd, 1) := by decide +kernel
theorem dL_law_2311 : decode cL_law 2311 = .ok (.iaload, 1) := by decide +kernel
theorem dL_law_2312 : decode cL_law 2312 = .ok (.aload_n 3, 1) := by decide +kernel
theorem dL_law_2313 : decode cL_law 2313 = .ok (.invokestatic 294, 3) := by decide +kernel
theorem dL_law_2316 : decode cL_law 2316 = .ok (.istore 5, 2) := by decide +kernel
theorem dL_law_2318 : decode cL_law 2318 = .ok (.aload_n 2, 1) := by decide +kernel
theorem dL_law_2319 : decode cL_law 2319 = .ok (.aload_n 0, 1) := by decide +kernel
theorem dL_law_2320 : decode cL_law 2320 = .ok (.iload 4, 2) := by decide +kernel
theorem dL_law_2322 : decode cL_law 2322 = .ok (.iconst 1, 1) := by decide +kernel
theorem dL_law_2323 : decode cL_law 2323 = .ok (.iadd, 1) := by decide +kernel
theorem dL_law_2324 : decode cL_law 2324 = .ok (.iaload, 1) := by decide +kernel
theorem dL_law_2325 : decode cL_law 2325 = .ok (.aload_n 0, 1) := by decide +kernel
theorem dL_law_2326 : decode cL_law 2326 = .ok (.iload 4, 2) := by decide +kernel
theorem dL_law_2328 : decode cL_law 2328 = .ok (.iconst 2, 1) := by decide +kernel
theorem dL_law_2329 : decode cL_law 2329 = .ok (.iadd, 1) := by decide +kernel
theorem dL_law_2330 : decode cL_law 2330 = .ok (.iaload, 1) := by decide +kernel
theorem dL_law_2331 : decode cL_law 2331 = .ok (.aload_n 0, 1) := by decide +kernel
theorem dL_law_2332 : decode cL_law 2332 = .ok (.iload 4, 2) := by decide +kernel
theorem dL_law_2334 : decode cL_law 2334 = .ok (.iconst 3, 1) := by decide +kernel
theorem dL_law_2335 : decode cL_law 2335 = .ok (.iadd, 1) := by decide +kernel
theorem dL_law_2336 : decode cL_law 2336 = .ok (.iaload, 1) := by decide +kernel
theorem dL_law_2337 : decode cL_law 2337 = .ok (.aload_n 0, 1) := by decide +kernel
theorem dL_law_2338 : decode cL_law 2338 = .ok (.iload 4, 2) := by decide +kernel
theorem dL_law_2340 : decode cL_law 2340 = .ok (.iconst 4, 1) := by decide +kernel
theorem dL_law_2341 : decode cL_law 2341 = .ok (.iadd, 1) := by decide +kernel
theorem dL_law_2342 : decode cL_law 2342 = .ok (.iaload, 1) := by decide +kernel
theorem dL_law_2343 : decode cL_law 2343 = .ok (.invokevirtual 296, 3) := by decide +kernel
theorem dL_law_2346 : decode cL_law 2346 = .ok (.istore 6, 2) := by decide +kernel
theorem dL_law_2348 : decode cL_law 2348 = .ok (.aload_n 2, 1) := by decide +kernel
theorem dL_law_2349 : decode cL_law 2349 = .ok (.invokevirtual 177, 3) := by decide +kernel
theorem dL_law_2352 : decode cL_law 2352 = .ok (.iload 5, 2) := by decide +kernel
theorem dL_law_2354 : decode cL_law 2354 = .ok (.if_icmp .eq 5, 3) := by decide +kernel
theorem dL_law_2357 : decode cL_law 2357 = .ok (.iconst 0, 1) := by decide +kernel
theorem dL_law_2358 : decode cL_law 2358 = .ok (.ireturn, 1) := by decide +kernel
theorem dL_law_2359 : decode cL_law 2359 = .ok (.iload 5, 2) := by decide +kernel
theorem dL_law_2361 : decode cL_law 2361 = .ok (.ifCond .ne 22, 3) := by decide +kernel
theorem dL_law_2364 : decode cL_law 2364 = .ok (.aload_n 3, 1) := by decide +kernel
theorem dL_law_2365 : decode cL_law 2365 = .ok (.iconst 0, 1) := by decide +kernel
theorem dL_law_2366 : decode cL_law 2366 = .ok (.laload, 1) := by decide +kernel
theorem dL_law_2367 : decode cL_law 2367 = .ok (.iload 6, 2) := by decide +kernel
theorem dL_law_2369 : decode cL_law 2369 = .ok (.ifCond .eq 7, 3) := by decide +kernel
theorem dL_law_2372 : decode cL_law 2372 = .ok (.lconst 1, 1) := by decide +kernel
theorem dL_law_2373 : decode cL_law 2373 = .ok (.goto 4, 3) := by decide +kernel
theorem dL_law_2376 : decode cL_law 2376 = .ok (.lconst 0, 1) := by decide +kernel
theorem dL_law_2377 : decode cL_law 2377 = .ok (.lcmp, 1) := by decide +kernel
theorem dL_law_2378 : decode cL_law 2378 = .ok (.ifCond .eq 5, 3) := by decide +kernel
theorem dL_law_2381 : decode cL_law 2381 = .ok (.iconst 0, 1) := by decide +kernel
theorem dL_law_2382 : decode cL_law 2382 = .ok (.ireturn, 1) := by decide +kernel
theorem dL_law_2383 : decode cL_law 2383 = .ok (.goto 1222, 3) := by decide +kernel
theorem dL_law_2386 : decode cL_law 2386 = .ok (.aload_n 1, 1) := by decide +kernel
theorem dL_law_2387 : decode cL_law 2387 = .ok (.aload_n 0, 1) := by decide +kernel
theorem dL_law_2388 : decode cL_law 2388 = .ok (.iload 4, 2) := by decide +kernel
theorem dL_law_2390 : decode cL_law 2390 = .ok (.iconst 1, 1) := by decide +kernel
theorem dL_law_2391 : decode cL_law 2391 = .ok (.iadd, 1) := by decide +kernel
theorem dL_law_2392 : decode cL_law 2392 = .ok (.iaload, 1) := by decide +kernel
theorem dL_law_2393 : decode cL_law 2393 = .ok (.aload_n 0, 1) := by decide +kernel
theorem dL_law_2394 : decode cL_law 2394 = .ok (.iload 4, 2) := by decide +kernel
theorem dL_law_2396 : decode cL_law 2396 = .ok (.iconst 2, 1) := by decide +kernel
theorem dL_law_2397 : decode cL_law 2397 = .ok (.iadd, 1) := by decide +kernel
theorem dL_law_2398 : decode cL_law 2398 = .ok (.iaload, 1) := by decide +kernel
theorem dL_law_2399 : decode cL_law 2399 = .ok (.aload_n 0, 1) := by decide +kernel
theorem dL_law_2400 : decode cL_law 2400 = .ok (.iload 4, 2) := by decide +kernel
theorem dL_law_2402 : decode cL_law 2402 = .ok (.iconst 3, 1) := by decide +kernel
theorem dL_law_2403 : decode cL_law 2403 = .ok (.iadd, 1) := by decide +kernel
theorem dL_law_2404 : decode cL_law 2404 = .ok (.iaload, 1) := by decide +kernel
theorem dL_law_2405 : decode cL_law 2405 = .ok (.ifCond .eq 7, 3) := by decide +kernel
theorem dL_law_2408 : decode cL_law 2408 = .ok (.iconst 1, 1) := by decide +kernel
theorem dL_law_2409 : decode cL_law 2409 = .ok (.goto 4, 3) := by decide +kernel
theorem dL_law_2412 : decode cL_law 2412 = .ok (.iconst 0, 1) := by decide +kernel
theorem dL_law_2413 : decode cL_law 2413 = .ok (.aload_n 3, 1) := by decide +kernel
theorem dL_law_2414 : decode cL_law 2414 = .ok (.invokestatic 297, 3) := by decide +kernel
theorem dL_law_2417 : decode cL_law 2417 = .ok (.istore 5, 2) := by decide +kernel
theorem dL_law_2419 : decode cL_law 2419 = .ok (.aload_n 2, 1) := by decide +kernel
theorem dL_law_2420 : decode cL_law 2420 = .ok (.aload_n 0, 1) := by decide +kernel
theorem dL_law_2421 : decode cL_law 2421 = .ok (.iload 4, 2) := by decide +kernel
theorem dL_law_2423 : decode cL_law 2423 = .ok (.iconst 1, 1) := by decide +kernel
theorem dL_law_2424 : decode cL_law 2424 = .ok (.iadd, 1) := by decide +kernel
theorem dL_law_2425 : decode cL_law 2425 = .ok (.iaload, 1) := by decide +kernel
theorem dL_law_2426 : decode cL_law 2426 = .ok (.aload_n 0, 1) := by decide +kernel
theorem dL_law_2427 : decode cL_law 2427 = .ok (.iload 4, 2) := by decide +kernel
theorem dL_law_2429 : decode cL_law 2429 = .ok (.iconst 2, 1) := by decide +kernel
theorem dL_law_2430 : decode cL_law 2430 = .ok (.iadd, 1) := by decide +kernel
theorem dL_law_2431 : decode cL_law 2431 = .ok (.iaload, 1) := by decide +kernel
theorem dL_law_2432 : decode cL_law 2432 = .ok (.aload_n 0, 1) := by decide +kernel
theorem dL_law_2433 : decode cL_law 2433 = .ok (.iload 4, 2) := by decide +kernel
theorem dL_law_2435 : decode cL_law 2435 = .ok (.iconst 3, 1) := by decide +kernel
theorem dL_law_2436 : decode cL_law 2436 = .ok (.iadd, 1) := by decide +kernel
theorem dL_law_2437 : decode cL_law 2437 = .ok (.iaload, 1) := by decide +kernel
theorem dL_law_2438 : decode cL_law 2438 = .ok (.ifCond .eq 7, 3) := by decide +kernel
theorem dL_law_2441 : decode cL_law 2441 = .ok (.iconst 1, 1) := by decide +kernel
theorem dL_law_2442 : decode cL_law 2442 = .ok (.goto 4, 3) := by decide +kernel
theorem dL_law_2445 : decode cL_law 2445 = .ok (.iconst 0, 1) := by decide +kernel
theorem dL_law_2446 : decode cL_law 2446 = .ok (.invokevirtual 299, 3) := by decide +kernel
theorem dL_law_2449 : decode cL_law 2449 = .ok (.istore 6, 2) := by decide +kernel
theorem dL_law_2451 : decode cL_law 2451 = .ok (.aload_n 2, 1) := by decide +kernel
theorem dL_law_2452 : decode cL_law 2452 = .ok (.invokevirtual 177, 3) := by decide +kernel
theorem dL_law_2455 : decode cL_law 2455 = .ok (.iload 5, 2) := by decide +kernel
theorem dL_law_2457 : decode cL_law 2457 = .ok (.if_icmp .eq 5, 3) := by decide +kernel
theorem dL_law_2460 : decode cL_law 2460 = .ok (.iconst 0, 1) := by decide +kernel
theorem dL_law_2461 : decode cL_law 2461 = .ok (.ireturn, 1) := by decide +kernel
theorem dL_law_2462 : decode cL_law 2462 = .ok (.iload 5, 2) := by decide +kernel
theorem dL_law_2464 : decode cL_law 2464 = .ok (.ifCond .ne 22, 3) := by decide +kernel
theorem dL_law_2467 : decode cL_law 2467 = .ok (.aload_n 3, 1) := by decide +kernel
theorem dL_law_2468 : decode cL_law 2468 = .ok (.iconst 0, 1) := by decide +kernel
theorem dL_law_2469 : decode cL_law 2469 = .ok (.laload, 1) := by decide +kernel
theorem dL_law_2470 : decode cL_law 2470 = .ok (.iload 6, 2) := by decide +kernel
theorem dL_law_2472 : decode cL_law 2472 = .ok (.ifCond .eq 7, 3) := by decide +kernel
theorem dL_law_2475 : decode cL_law 2475 = .ok (.lconst 1, 1) := by decide +kernel
theorem dL_law_2476 : decode cL_law 2476 = .ok (.goto 4, 3) := by decide +kernel
theorem dL_law_2479 : decode cL_law 2479 = .ok (.lconst 0, 1) := by decide +kernel
theorem dL_law_2480 : decode cL_law 2480 = .ok (.lcmp, 1) := by decide +kernel
theorem dL_law_2481 : decode cL_law 2481 = .ok (.ifCond .eq 5, 3) := by decide +kernel
theorem dL_law_2484 : decode cL_law 2484 = .ok (.iconst 0, 1) := by decide +kernel
theorem dL_law_2485 : decode cL_law 2485 = .ok (.ireturn, 1) := by decide +kernel
theorem dL_law_2486 : decode cL_law 2486 = .ok (.goto 1119, 3) := by decide +kernel
theorem dL_law_2489 : decode cL_law 2489 = .ok (.aload_n 1, 1) := by decide +kernel
theorem dL_law_2490 : decode cL_law 2490 = .ok (.aload_n 0, 1) := by decide +kernel
theorem dL_law_2491 : decode cL_law 2491 = .ok (.iload 4, 2) := by decide +kernel
theorem dL_law_2493 : decode cL_law 2493 = .ok (.iconst 1, 1) := by decide +kernel
theorem dL_law_2494 : decode cL_law 2494 = .ok (.iadd, 1) := by decide +kernel
theorem dL_law_2495 : decode cL_law 2495 = .ok (.iaload, 1) := by decide +kernel
theorem dL_law_2496 : decode cL_law 2496 = .ok (.aload_n 0, 1) := by decide +kernel
theorem dL_law_2497 : decode cL_law 2497 = .ok (.iload 4, 2) := by decide +kernel
theorem dL_law_2499 : decode cL_law 2499 = .ok (.iconst 2, 1) := by decide +kernel
theorem dL_law_2500 : decode cL_law 2500 = .ok (.iadd, 1) := by decide +kernel
theorem dL_law_2501 : decode cL_law 2501 = .ok (.iaload, 1) := by decide +kernel
theorem dL_law_2502 : decode cL_law 2502 = .ok (.ifCond .eq 7, 3) := by decide +kernel
theorem dL_law_2505 : decode cL_law 2505 = .ok (.iconst 1, 1) := by decide +kernel
theorem dL_law_2506 : decode cL_law 2506 = .ok (.goto 4, 3) := by decide +kernel
theorem dL_law_2509 : decode cL_law 2509 = .ok (.iconst 0, 1) := by decide +kernel
theorem dL_law_2510 : decode cL_law 2510 = .ok (.aload_n 3, 1) := by decide +kernel
theorem dL_law_2511 : decode cL_law 2511 = .ok (.invokestatic 300, 3) := by decide +kernel
theorem dL_law_2514 : decode cL_law 2514 = .ok (.istore 5, 2) := by decide +kernel
theorem dL_law_2516 : decode cL_law 2516 = .ok (.aload_n 2, 1) := by decide +kernel
theorem dL_law_2517 : decode cL_law 2517 = .ok (.aload_n 0, 1) := by decide +kernel
theorem dL_law_2518 : decode cL_law 2518 = .ok (.iload 4, 2) := by decide +kernel
theorem dL_law_2520 : decode cL_law 2520 = .ok (.iconst 1, 1) := by decide +kernel
theorem dL_law_2521 : decode cL_law 2521 = .ok (.iadd, 1) := by decide +kernel
theorem dL_law_2522 : decode cL_law 2522 = .ok (.iaload, 1) := by decide +kernel
theorem dL_law_2523 : decode cL_law 2523 = .ok (.aload_n 0, 1) := by decide +kernel
theorem dL_law_2524 : decode cL_law 2524 = .ok (.iload 4, 2) := by decide +kernel
theorem dL_law_2526 : decode cL_law 2526 = .ok (.iconst 2, 1) := by decide +kernel
theorem dL_law_2527 : decode cL_law 2527 = .ok (.iadd, 1) := by decide +kernel
theorem dL_law_2528 : decode cL_law 2528 = .ok (.iaload, 1) := by decide +kernel
theorem dL_law_2529 : decode cL_law 2529 = .ok (.ifCond .eq 7, 3) := by decide +kernel
theorem dL_law_2532 : decode cL_law 2532 = .ok (.iconst 1, 1) := by decide +kernel
theorem dL_law_2533 : decode cL_law 2533 = .ok (.goto 4, 3) := by decide +kernel
theorem dL_law_2536 : decode cL_law 2536 = .ok (.iconst 0, 1) := by decide +kernel
theorem dL_law_2537 : decode cL_law 2537 = .ok (.invokevirtual 303, 3) := by decide +kernel
theorem dL_law_2540 : decode cL_law 2540 = .ok (.istore 6, 2) := by decide +kernel
theorem dL_law_2542 : decode cL_law 2542 = .ok (.aload_n 2, 1) := by decide +kernel
theorem dL_law_2543 : decode cL_law 2543 = .ok (.invokevirtual 177, 3) := by decide +kernel
theorem dL_law_2546 : decode cL_law 2546 = .ok (.iload 5, 2) := by decide +kernel
theorem dL_law_2548 : decode cL_law 2548 = .ok (.if_icmp .eq 5, 3) := by decide +kernel
theorem dL_law_2551 : decode cL_law 2551 = .ok (.iconst 0, 1) := by decide +kernel
theorem dL_law_2552 : decode cL_law 2552 = .ok (.ireturn, 1) := by decide +kernel
theorem dL_law_2553 : decode cL_law 2553 = .ok (.iload 5, 2) := by decide +kernel
theorem dL_law_2555 : decode cL_law 2555 = .ok (.ifCond .ne 22, 3) := by decide +kernel
theorem dL_law_2558 : decode cL_law 2558 = .ok (.aload_n 3, 1) := by decide +kernel
theorem dL_law_2559 : decode cL_law 2559 = .ok (.iconst 0, 1) := by decide +kernel
theorem dL_law_2560 : decode cL_law 2560 = .ok (.laload, 1) := by decide +kernel
theorem dL_law_2561 : decode cL_law 2561 = .ok (.iload 6, 2) := by decide +kernel
theorem dL_law_2563 : decode cL_law 2563 = .ok (.ifCond .eq 7, 3) := by decide +kernel
theorem dL_law_2566 : decode cL_law 2566 = .ok (.lconst 1, 1) := by decide +kernel
theorem dL_law_2567 : decode cL_law 2567 = .ok (.goto 4, 3) := by decide +kernel
theorem dL_law_2570 : decode cL_law 2570 = .ok (.lconst 0, 1) := by decide +kernel
theorem dL_law_2571 : decode cL_law 2571 = .ok (.lcmp, 1) := by decide +kernel
theorem dL_law_2572 : decode cL_law 2572 = .ok (.ifCond .eq 5, 3) := by decide +kernel
theorem dL_law_2575 : decode cL_law 2575 = .ok (.iconst 0, 1) := by decide +kernel
theorem dL_law_2576 : decode cL_law 2576 = .ok (.ireturn, 1) := by decide +kernel
theorem dL_law_2577 : decode cL_law 2577 = .ok (.goto 1028, 3) := by decide +kernel
theorem dL_law_2580 : decode cL_law 2580 = .ok (.aload_n 1, 1) := by decide +kernel
theorem dL_law_2581 : decode cL_law 2581 = .ok (.aload_n 0, 1) := by decide +kernel
theorem dL_law_2582 : decode cL_law 2582 = .ok (.iload 4, 2) := by decide +kernel
theorem dL_law_2584 : decode cL_law 2584 = .ok (.iconst 1, 1) := by decide +kernel
theorem dL_law_2585 : decode cL_law 2585 = .ok (.iadd, 1) := by decide +kernel
theorem dL_law_2586 : decode cL_law 2586 = .ok (.iaload, 1) := by decide +kernel
theorem dL_law_2587 : decode cL_law 2587 = .ok (.aload_n 0, 1) := by decide +kernel
theorem dL_law_2588 : decode cL_law 2588 = .ok (.iload 4, 2) := by decide +kernel
theorem dL_law_2590 : decode cL_law 2590 = .ok (.iconst 2, 1) := by decide +kernel
theorem dL_law_2591 : decode cL_law 2591 = .ok (.iadd, 1) := by decide +kernel
theorem dL_law_2592 : decode cL_law 2592 = .ok (.iaload, 1) := by decide +kernel
theorem dL_law_2593 : decode cL_law 2593 = .ok (.aload_n 0, 1) := by decide +kernel
theorem dL_law_2594 : decode cL_law 2594 = .ok (.iload 4, 2) := by decide +kernel
theorem dL_law_2596 : decode cL_law 2596 = .ok (.iconst 3, 1) := by decide +kernel
theorem dL_law_2597 : decode cL_law 2597 = .ok (.iadd, 1) := by decide +kernel
theorem dL_law_2598 : decode cL_law 2598 = .ok (.iaload, 1) := by decide +kernel
theorem dL_law_2599 : decode cL_law 2599 = .ok (.aload_n 3, 1) := by decide +kernel
theorem dL_law_2600 : decode cL_law 2600 = .ok (.invokestatic 304, 3) := by decide +kernel
theorem dL_law_2603 : decode cL_law 2603 = .ok (.istore 5, 2) := by decide +kernel
theorem dL_law_2605 : decode cL_law 2605 = .ok (.aload_n 2, 1) := by decide +kernel
theorem dL_law_2606 : decode cL_law 2606 = .ok (.aload_n 0, 1) := by decide +kernel
theorem dL_law_2607 : decode cL_law 2607 = .ok (.iload 4, 2) := by decide +kernel
theorem dL_law_2609 : decode cL_law 2609 = .ok (.iconst 1, 1) := by decide +kernel
theorem dL_law_2610 : decode cL_law 2610 = .ok (.iadd, 1) := by decide +kernel
theorem dL_law_2611 : decode cL_law 2611 = .ok (.iaload, 1) := by decide +kernel
theorem dL_law_2612 : decode cL_law 2612 = .ok (.aload_n 0, 1) := by decide +kernel
theorem dL_law_2613 : decode cL_law 2613 = .ok (.iload 4, 2) := by decide +kernel
theorem dL_law_2615 : decode cL_law 2615 = .ok (.iconst 2, 1) := by decide +kernel
theorem dL_law_2616 : decode cL_law 2616 = .ok (.iadd, 1) := by decide +kernel
theorem dL_law_2617 : decode cL_law 2617 = .ok (.iaload, 1) := by decide +kernel
theorem dL_law_2618 : decode cL_law 2618 = .ok (.aload_n 0, 1) := by decide +kernel
theorem dL_law_2619 : decode cL_law 2619 = .ok (.iload 4, 2) := by decide +kernel
theorem dL_law_2621 : decode cL_law 2621 = .ok (.iconst 3, 1) := by decide +kernel
theorem dL_law_2622 : decode cL_law 2622 = .ok (.iadd, 1) := by decide +kernel
theorem dL_law_2623 : decode cL_law 2623 = .ok (.iaload, 1) := by decide +kernel
theorem dL_law_2624 : decode cL_law 2624 = .ok (.invokevirtual 306, 3) := by decide +kernel
theorem dL_law_2627 : decode cL_law 2627 = .ok (.istore 6, 2) := by decide +kernel
theorem dL_law_2629 : decode cL_law 2629 = .ok (.aload_n 2, 1) := by decide +kernel
theorem dL_law_2630 : decode cL_law 2630 = .ok (.invokevirtual 177, 3) := by decide +kernel
theorem dL_law_2633 : decode cL_law 2633 = .ok (.iload 5, 2) := by decide +kernel
theorem dL_law_2635 : decode cL_law 2635 = .ok (.if_icmp .eq 5, 3) := by decide +kernel
theorem dL_law_2638 : decode cL_law 2638 = .ok (.iconst 0, 1) := by decide +kernel
theorem dL_law_2639 : decode cL_law 2639 = .ok (.ireturn, 1) := by decide +kernel
theorem dL_law_2640 : decode cL_law 2640 = .ok (.iload 5, 2) := by decide +kernel
theorem dL_law_2642 : decode cL_law 2642 = .ok (.ifCond .ne 15, 3) := by decide +kernel
theorem dL_law_2645 : decode cL_law 2645 = .ok (.aload_n 3, 1) := by decide +kernel
theorem dL_law_2646 : decode cL_law 2646 = .ok (.iconst 0, 1) := by decide +kernel
theorem dL_law_2647 : decode cL_law 2647 = .ok (.laload, 1) := by decide +kernel
theorem dL_law_2648 : decode cL_law 2648 = .ok (.iload 6, 2) := by decide +kernel
theorem dL_law_2650 : decode cL_law 2650 = .ok (.i2l, 1) := by decide +kernel
theorem dL_law_2651 : decode cL_law 2651 = .ok (.lcmp, 1) := by decide +kernel
theorem dL_law_2652 : decode cL_law 2652 = .ok (.ifCond .eq 5, 3) := by decide +kernel
theorem dL_law_2655 : decode cL_law 2655 = .ok (.iconst 0, 1) := by decide +kernel
theorem dL_law_2656 : decode cL_law 2656 = .ok (.ireturn, 1) := by decide +kernel
theorem dL_law_2657 : decode cL_law 2657 = .ok (.goto 948, 3) := by decide +kernel
theorem dL_law_2660 : decode cL_law 2660 = .ok (.aload_n 1, 1) := by decide +kernel
theorem dL_law_2661 : decode cL_law 2661 = .ok (.aload_n 0, 1) := by decide +kernel
theorem dL_law_2662 : decode cL_law 2662 = .ok (.iload 4, 2) := by decide +kernel
theorem dL_law_2664 : decode cL_law 2664 = .ok (.iconst 1, 1) := by decide +kernel
theorem dL_law_2665 : decode cL_law 2665 = .ok (.iadd, 1) := by decide +kernel
theorem dL_law_2666 : decode cL_law 2666 = .ok (.iaload, 1) := by decide +kernel
theorem dL_law_2667 : decode cL_law 2667 = .ok (.ifCond .eq 7, 3) := by decide +kernel
theorem dL_law_2670 : decode cL_law 2670 = .ok (.iconst 1, 1) := by decide +kernel
theorem dL_law_2671 : decode cL_law 2671 = .ok (.goto 4, 3) := by decide +kernel
theorem dL_law_2674 : decode cL_law 2674 = .ok (.iconst 0, 1) := by decide +kernel
theorem dL_law_2675 : decode cL_law 2675 = .ok (.aload_n 3, 1) := by decide +kernel
theorem dL_law_2676 : decode cL_law 2676 = .ok (.invokestatic 307, 3) := by decide +kernel
theorem dL_law_2679 : decode cL_law 2679 = .ok (.istore 5, 2) := by decide +kernel
theorem dL_law_2681 : decode cL_law 2681 = .ok (.aload_n 2, 1) := by decide +kernel
theorem dL_law_2682 : decode cL_law 2682 = .ok (.aload_n 0, 1) := by decide +kernel
theorem dL_law_2683 : decode cL_law 2683 = .ok (.iload 4, 2) := by decide +kernel
theorem dL_law_2685 : decode cL_law 2685 = .ok (.iconst 1, 1) := by decide +kernel
theorem dL_law_2686 : decode cL_law 2686 = .ok (.iadd, 1) := by decide +kernel
theorem dL_law_2687 : decode cL_law 2687 = .ok (.iaload, 1) := by decide +kernel
theorem dL_law_2688 : decode cL_law 2688 = .ok (.ifCond .eq 7, 3) := by decide +kernel
theorem dL_law_2691 : decode cL_law 2691 = .ok (.iconst 1, 1) := by decide +kernel
theorem dL_law_2692 : decode cL_law 2692 = .ok (.goto 4, 3) := by decide +kernel
theorem dL_law_2695 : decode cL_law 2695 = .ok (.iconst 0, 1) := by decide +kernel
theorem dL_law_2696 : decode cL_law 2696 = .ok (.invokevirtual 310, 3) := by decide +kernel
theorem dL_law_2699 : decode cL_law 2699 = .ok (.istore 6, 2) := by decide +kernel
theorem dL_law_2701 : decode cL_law 2701 = .ok (.aload_n 2, 1) := by decide +kernel
theorem dL_law_2702 : decode cL_law 2702 = .ok (.invokevirtual 177, 3) := by decide +kernel
theorem dL_law_2705 : decode cL_law 2705 = .ok (.iload 5, 2) := by decide +kernel
theorem dL_law_2707 : decode cL_law 2707 = .ok (.if_icmp .eq 5, 3) := by decide +kernel
theorem dL_law_2710 : decode cL_law 2710 = .ok (.iconst 0, 1) := by decide +kernel
theorem dL_law_2711 : decode cL_law 2711 = .ok (.ireturn, 1) := by decide +kernel
theorem dL_law_2712 : decode cL_law 2712 = .ok (.iload 5, 2) := by decide +kernel
theorem dL_law_2714 : decode cL_law 2714 = .ok (.ifCond .ne 22, 3) := by decide +kernel
theorem dL_law_2717 : decode cL_law 2717 = .ok (.aload_n 3, 1) := by decide +kernel
theorem dL_law_2718 : decode cL_law 2718 = .ok (.iconst 0, 1) := by decide +kernel
theorem dL_law_2719 : decode cL_law 2719 = .ok (.laload, 1) := by decide +kernel
theorem dL_law_2720 : decode cL_law 2720 = .ok (.iload 6, 2) := by decide +kernel
theorem dL_law_2722 : decode cL_law 2722 = .ok (.ifCond .eq 7, 3) := by decide +kernel
theorem dL_law_2725 : decode cL_law 2725 = .ok (.lconst 1, 1) := by decide +kernel
theorem dL_law_2726 : decode cL_law 2726 = .ok (.goto 4, 3) := by decide +kernel
theorem dL_law_2729 : decode cL_law 2729 = .ok (.lconst 0, 1) := by decide +kernel
theorem dL_law_2730 : decode cL_law 2730 = .ok (.lcmp, 1) := by decide +kernel
theorem dL_law_2731 : decode cL_law 2731 = .ok (.ifCond .eq 5, 3) := by decide +kernel
theorem dL_law_2734 : decode cL_law 2734 = .ok (.iconst 0, 1) := by decide +kernel
theorem dL_law_2735 : decode cL_law 2735 = .ok (.ireturn, 1) := by decide +kernel
theorem dL_law_2736 : decode cL_law 2736 = .ok (.goto 869, 3) := by decide +kernel
theorem dL_law_2739 : decode cL_law 2739 = .ok (.aload_n 1, 1) := by decide +kernel
theorem dL_law_2740 : decode cL_law 2740 = .ok (.invokevirtual 311, 3) := by decide +kernel
theorem dL_law_2743 : decode cL_law 2743 = .ok (.aload_n 2, 1) := by decide +kernel
theorem dL_law_2744 : decode cL_law 2744 = .ok (.invokevirtual 315, 3) := by decide +kernel
theorem dL_law_2747 : decode cL_law 2747 = .ok (.if_icmp .eq 858, 3) := by decide +kernel
theorem dL_law_2750 : decode cL_law 2750 = .ok (.iconst 0, 1) := by decide +kernel
theorem dL_law_2751 : decode cL_law 2751 = .ok (.ireturn, 1) := by decide +kernel
theorem dL_law_2752 : decode cL_law 2752 = .ok (.aload_n 1, 1) := by decide +kernel
theorem dL_law_2753 : decode cL_law 2753 = .ok (.aload_n 0, 1) := by decide +kernel
theorem dL_law_2754 : decode cL_law 2754 = .ok (.iload 4, 2) := by decide +kernel
theorem dL_law_2756 : decode cL_law 2756 = .ok (.iconst 1, 1) := by decide +kernel
theorem dL_law_2757 : decode cL_law 2757 = .ok (.iadd, 1) := by decide +kernel
theorem dL_law_2758 : decode cL_law 2758 = .ok (.iaload, 1) := by decide +kernel
theorem dL_law_2759 : decode cL_law 2759 = .ok (.aload_n 3, 1) := by decide +kernel
theorem dL_law_2760 : decode cL_law 2760 = .ok (.invokestatic 316, 3) := by decide +kernel
theorem dL_law_2763 : decode cL_law 2763 = .ok (.istore 5, 2) := by decide +kernel
theorem dL_law_2765 : decode cL_law 2765 = .ok (.aload_n 2, 1) := by decide +kernel
theorem dL_law_2766 : decode cL_law 2766 = .ok (.aload_n 0, 1) := by decide +kernel
theorem dL_law_2767 : decode cL_law 2767 = .ok (.iload 4, 2) := by decide +kernel
theorem dL_law_2769 : decode cL_law 2769 = .ok (.iconst 1, 1) := by decide +kernel
theorem dL_law_2770 : decode cL_law 2770 = .ok (.iadd, 1) := by decide +kernel
theorem dL_law_2771 : decode cL_law 2771 = .ok (.iaload, 1) := by decide +kernel
theorem dL_law_2772 : decode cL_law 2772 = .ok (.invokevirtual 318, 3) := by decide +kernel
theorem dL_law_2775 : decode cL_law 2775 = .ok (.istore 6, 2) := by decide +kernel
theorem dL_law_2777 : decode cL_law 2777 = .ok (.aload_n 2, 1) := by decide +kernel
theorem dL_law_2778 : decode cL_law 2778 = .ok (.invokevirtual 177, 3) := by decide +kernel
theorem dL_law_2781 : decode cL_law 2781 = .ok (.iload 5, 2) := by decide +kernel
theorem dL_law_2783 : decode cL_law 2783 = .ok (.if_icmp .eq 5, 3) := by decide +kernel
theorem dL_law_2786 : decode cL_law 2786 = .ok (.iconst 0, 1) := by decide +kernel
theorem dL_law_2787 : decode cL_law 2787 = .ok (.ireturn, 1) := by decide +kernel
theorem dL_law_2788 : decode cL_law 2788 = .ok (.iload 5, 2) := by decide +kernel
theorem dL_law_2790 : decode cL_law 2790 = .ok (.ifCond .ne 15, 3) := by decide +kernel
theorem dL_law_2793 : decode cL_law 2793 = .ok (.aload_n 3, 1) := by decide +kernel
theorem dL_law_2794 : decode cL_law 2794 = .ok (.iconst 0, 1) := by decide +kernel
theorem dL_law_2795 : decode cL_law 2795 = .ok (.laload, 1) := by decide +kernel
theorem dL_law_2796 : decode cL_law 2796 = .ok (.iload 6, 2) := by decide +kernel
theorem dL_law_2798 : decode cL_law 2798 = .ok (.i2l, 1) := by decide +kernel
theorem dL_law_2799 : decode cL_law 2799 = .ok (.lcmp, 1) := by decide +kernel
theorem dL_law_2800 : decode cL_law 2800 = .ok (.ifCond .eq 5, 3) := by decide +kernel
theorem dL_law_2803 : decode cL_law 2803 = .ok (.iconst 0, 1) := by decide +kernel
theorem dL_law_2804 : decode cL_law 2804 = .ok (.ireturn, 1) := by decide +kernel
theorem dL_law_2805 : decode cL_law 2805 = .ok (.goto 800, 3) := by decide +kernel
theorem dL_law_2808 : decode cL_law 2808 = .ok (.aload_n 1, 1) := by decide +kernel
theorem dL_law_2809 : decode cL_law 2809 = .ok (.aload_n 0, 1) := by decide +kernel
theorem dL_law_2810 : decode cL_law 2810 = .ok (.iload 4, 2) := by decide +kernel
theorem dL_law_2812 : decode cL_law 2812 = .ok (.iconst 1, 1) := by decide +kernel
theorem dL_law_2813 : decode cL_law 2813 = .ok (.iadd, 1) := by decide +kernel
theorem dL_law_2814 : decode cL_law 2814 = .ok (.iaload, 1) := by decide +kernel
theorem dL_law_2815 : decode cL_law 2815 = .ok (.aload_n 3, 1) := by decide +kernel
theorem dL_law_2816 : decode cL_law 2816 = .ok (.invokestatic 319, 3) := by decide +kernel
theorem dL_law_2819 : decode cL_law 2819 = .ok (.istore 5, 2) := by decide +kernel
theorem dL_law_2821 : decode cL_law 2821 = .ok (.aload_n 2, 1) := by decide +kernel
theorem dL_law_2822 : decode cL_law 2822 = .ok (.aload_n 0, 1) := by decide +kernel
theorem dL_law_2823 : decode cL_law 2823 = .ok (.iload 4, 2) := by decide +kernel
theorem dL_law_2825 : decode cL_law 2825 = .ok (.iconst 1, 1) := by decide +kernel
theorem dL_law_2826 : decode cL_law 2826 = .ok (.iadd, 1) := by decide +kernel
theorem dL_law_2827 : decode cL_law 2827 = .ok (.iaload, 1) := by decide +kernel
theorem dL_law_2828 : decode cL_law 2828 = .ok (.invokevirtual 321, 3) := by decide +kernel
theorem dL_law_2831 : decode cL_law 2831 = .ok (.istore 6, 2) := by decide +kernel
theorem dL_law_2833 : decode cL_law 2833 = .ok (.aload_n 2, 1) := by decide +kernel
theorem dL_law_2834 : decode cL_law 2834 = .ok (.invokevirtual 177, 3) := by decide +kernel
theorem dL_law_2837 : decode cL_law 2837 = .ok (.iload 5, 2) := by decide +kernel
theorem dL_law_2839 : decode cL_law 2839 = .ok (.if_icmp .eq 5, 3) := by decide +kernel
theorem dL_law_2842 : decode cL_law 2842 = .ok (.iconst 0, 1) := by decide +kernel
theorem dL_law_2843 : decode cL_law 2843 = .ok (.ireturn, 1) := by decide +kernel
theorem dL_law_2844 : decode cL_law 2844 = .ok (.iload 5, 2) := by decide +kernel
theorem dL_law_2846 : decode cL_law 2846 = .ok (.ifCond .ne 15, 3) := by decide +kernel
theorem dL_law_2849 : decode cL_law 2849 = .ok (.aload_n 3, 1) := by decide +kernel
theorem dL_law_2850 : decode cL_law 2850 = .ok (.iconst 0, 1) := by decide +kernel
theorem dL_law_2851 : decode cL_law 2851 = .ok (.laload, 1) := by decide +kernel
theorem dL_law_2852 : decode cL_law 2852 = .ok (.iload 6, 2) := by decide +kernel
theorem dL_law_2854 : decode cL_law 2854 = .ok (.i2l, 1) := by decide +kernel
theorem dL_law_2855 : decode cL_law 2855 = .ok (.lcmp, 1) := by decide +kernel
theorem dL_law_2856 : decode cL_law 2856 = .ok (.ifCond .eq 5, 3) := by decide +kernel
theorem dL_law_2859 : decode cL_law 2859 = .ok (.iconst 0, 1) := by decide +kernel
theorem dL_law_2860 : decode cL_law 2860 = .ok (.ireturn, 1) := by decide +kernel
theorem dL_law_2861 : decode cL_law 2861 = .ok (.goto 744, 3) := by decide +kernel
theorem dL_law_2864 : decode cL_law 2864 = .ok (.aload_n 1, 1) := by decide +kernel
theorem dL_law_2865 : decode cL_law 2865 = .ok (.aload_n 0, 1) := by decide +kernel
theorem dL_law_2866 : decode cL_law 2866 = .ok (.iload 4, 2) := by decide +kernel
theorem dL_law_2868 : decode cL_law 2868 = .ok (.iconst 1, 1) := by decide +kernel
theorem dL_law_2869 : decode cL_law 2869 = .ok (.iadd, 1) := by decide +kernel
theorem dL_law_2870 : decode cL_law 2870 = .ok (.iaload, 1) := by decide +kernel
theorem dL_law_2871 : decode cL_law 2871 = .ok (.aload_n 3, 1) := by decide +kernel
theorem dL_law_2872 : decode cL_law 2872 = .ok (.invokestatic 322, 3) := by decide +kernel
theorem dL_law_2875 : decode cL_law 2875 = .ok (.istore 5, 2) := by decide +kernel
theorem dL_law_2877 : decode cL_law 2877 = .ok (.aload_n 2, 1) := by decide +kernel
theorem dL_law_2878 : decode cL_law 2878 = .ok (.aload_n 0, 1) := by decide +kernel
theorem dL_law_2879 : decode cL_law 2879 = .ok (.iload 4, 2) := by decide +kernel
theorem dL_law_2881 : decode cL_law 2881 = .ok (.iconst 1, 1) := by decide +kernel
theorem dL_law_2882 : decode cL_law 2882 = .ok (.iadd, 1) := by decide +kernel
theorem dL_law_2883 : decode cL_law 2883 = .ok (.iaload, 1) := by decide +kernel
theorem dL_law_2884 : decode cL_law 2884 = .ok (.invokevirtual 324, 3) := by decide +kernel
theorem dL_law_2887 : decode cL_law 2887 = .ok (.istore 6, 2) := by decide +kernel
theorem dL_law_2889 : decode cL_law 2889 = .ok (.aload_n 2, 1) := by decide +kernel
theorem dL_law_2890 : decode cL_law 2890 = .ok (.invokevirtual 177, 3) := by decide +kernel
theorem dL_law_2893 : decode cL_law 2893 = .ok (.iload 5, 2) := by decide +kernel
theorem dL_law_2895 : decode cL_law 2895 = .ok (.if_icmp .eq 5, 3) := by decide +kernel
theorem dL_law_2898 : decode cL_law 2898 = .ok (.iconst 0, 1) := by decide +kernel
theorem dL_law_2899 : decode cL_law 2899 = .ok (.ireturn, 1) := by decide +kernel
theorem dL_law_2900 : decode cL_law 2900 = .ok (.iload 5, 2) := by decide +kernel
theorem dL_law_2902 : decode cL_law 2902 = .ok (.ifCond .ne 22, 3) := by decide +kernel
theorem dL_law_2905 : decode cL_law 2905 = .ok (.aload_n 3, 1) := by decide +kernel
theorem dL_law_2906 : decode cL_law 2906 = .ok (.iconst 0, 1) := by decide +kernel
theorem dL_law_2907 : decode cL_law 2907 = .ok (.laload, 1) := by decide +kernel
theorem dL_law_2908 : decode cL_law 2908 = .ok (.iload 6, 2) := by decide +kernel
theorem dL_law_2910 : decode cL_law 2910 = .ok (.ifCond .eq 7, 3) := by decide +kernel
theorem dL_law_2913 : decode cL_law 2913 = .ok (.lconst 1, 1) := by decide +kernel
theorem dL_law_2914 : decode cL_law 2914 = .ok (.goto 4, 3) := by decide +kernel
theorem dL_law_2917 : decode cL_law 2917 = .ok (.lconst 0, 1) := by decide +kernel
theorem dL_law_2918 : decode cL_law 2918 = .ok (.lcmp, 1) := by decide +kernel
theorem dL_law_2919 : decode cL_law 2919 = .ok (.ifCond .eq 5, 3) := by decide +kernel
theorem dL_law_2922 : decode cL_law 2922 = .ok (.iconst 0, 1) := by decide +kernel
theorem dL_law_2923 : decode cL_law 2923 = .ok (.ireturn, 1) := by decide +kernel
theorem dL_law_2924 : decode cL_law 2924 = .ok (.goto 681, 3) := by decide +kernel
theorem dL_law_2927 : decode cL_law 2927 = .ok (.aload_n 1, 1) := by decide +kernel
theorem dL_law_2928 : decode cL_law 2928 = .ok (.aload_n 0, 1) := by decide +kernel
theorem dL_law_2929 : decode cL_law 2929 = .ok (.iload 4, 2) := by decide +kernel
theorem dL_law_2931 : decode cL_law 2931 = .ok (.iconst 1, 1) := by decide +kernel
theorem dL_law_2932 : decode cL_law 2932 = .ok (.iadd, 1) := by decide +kernel
theorem dL_law_2933 : decode cL_law 2933 = .ok (.iaload, 1) := by decide +kernel
theorem dL_law_2934 : decode cL_law 2934 = .ok (.aload_n 3, 1) := by decide +kernel
theorem dL_law_2935 : decode cL_law 2935 = .ok (.invokestatic 325, 3) := by decide +kernel
theorem dL_law_2938 : decode cL_law 2938 = .ok (.istore 5, 2) := by decide +kernel
theorem dL_law_2940 : decode cL_law 2940 = .ok (.aload_n 2, 1) := by decide +kernel
theorem dL_law_2941 : decode cL_law 2941 = .ok (.aload_n 0, 1) := by decide +kernel
theorem dL_law_2942 : decode cL_law 2942 = .ok (.iload 4, 2) := by decide +kernel
theorem dL_law_2944 : decode cL_law 2944 = .ok (.iconst 1, 1) := by decide +kernel
theorem dL_law_2945 : decode cL_law 2945 = .ok (.iadd, 1) := by decide +kernel
theorem dL_law_2946 : decode cL_law 2946 = .ok (.iaload, 1) := by decide +kernel
theorem dL_law_2947 : decode cL_law 2947 = .ok (.invokevirtual 327, 3) := by decide +kernel
theorem dL_law_2950 : decode cL_law 2950 = .ok (.istore 6, 2) := by decide +kernel
theorem dL_law_2952 : decode cL_law 2952 = .ok (.aload_n 2, 1) := by decide +kernel
theorem dL_law_2953 : decode cL_law 2953 = .ok (.invokevirtual 177, 3) := by decide +kernel
theorem dL_law_2956 : decode cL_law 2956 = .ok (.iload 5, 2) := by decide +kernel
theorem dL_law_2958 : decode cL_law 2958 = .ok (.if_icmp .eq 5, 3) := by decide +kernel
theorem dL_law_2961 : decode cL_law 2961 = .ok (.iconst 0, 1) := by decide +kernel
theorem dL_law_2962 : decode cL_law 2962 = .ok (.ireturn, 1) := by decide +kernel
theorem dL_law_2963 : decode cL_law 2963 = .ok (.iload 5, 2) := by decide +kernel
theorem dL_law_2965 : decode cL_law 2965 = .ok (.ifCond .ne 15, 3) := by decide +kernel
theorem dL_law_2968 : decode cL_law 2968 = .ok (.aload_n 3, 1) := by decide +kernel
theorem dL_law_2969 : decode cL_law 2969 = .ok (.iconst 0, 1) := by decide +kernel
theorem dL_law_2970 : decode cL_law 2970 = .ok (.laload, 1) := by decide +kernel
theorem dL_law_2971 : decode cL_law 2971 = .ok (.iload 6, 2) := by decide +kernel
theorem dL_law_2973 : decode cL_law 2973 = .ok (.i2l, 1) := by decide +kernel
theorem dL_law_2974 : decode cL_law 2974 = .ok (.lcmp, 1) := by decide +kernel
theorem dL_law_2975 : decode cL_law 2975 = .ok (.ifCond .eq 5, 3) := by decide +kernel
theorem dL_law_2978 : decode cL_law 2978 = .ok (.iconst 0, 1) := by decide +kernel
theorem dL_law_2979 : decode cL_law 2979 = .ok (.ireturn, 1) := by decide +kernel
theorem dL_law_2980 : decode cL_law 2980 = .ok (.goto 625, 3) := by decide +kernel
theorem dL_law_2983 : decode cL_law 2983 = .ok (.aload_n 1, 1) := by decide +kernel
theorem dL_law_2984 : decode cL_law 2984 = .ok (.aload_n 0, 1) := by decide +kernel
theorem dL_law_2985 : decode cL_law 2985 = .ok (.iload 4, 2) := by decide +kernel
theorem dL_law_2987 : decode cL_law 2987 = .ok (.iconst 1, 1) := by decide +kernel
theorem dL_law_2988 : decode cL_law 2988 = .ok (.iadd, 1) := by decide +kernel
theorem dL_law_2989 : decode cL_law 2989 = .ok (.iaload, 1) := by decide +kernel
theorem dL_law_2990 : decode cL_law 2990 = .ok (.aload_n 3, 1) := by decide +kernel
theorem dL_law_2991 : decode cL_law 2991 = .ok (.invokestatic 328, 3) := by decide +kernel
theorem dL_law_2994 : decode cL_law 2994 = .ok (.istore 5, 2) := by decide +kernel
theorem dL_law_2996 : decode cL_law 2996 = .ok (.aload_n 2, 1) := by decide +kernel
theorem dL_law_2997 : decode cL_law 2997 = .ok (.aload_n 0, 1) := by decide +kernel
theorem dL_law_2998 : decode cL_law 2998 = .ok (.iload 4, 2) := by decide +kernel
theorem dL_law_3000 : decode cL_law 3000 = .ok (.iconst 1, 1) := by decide +kernel
theorem dL_law_3001 : decode cL_law 3001 = .ok (.iadd, 1) := by decide +kernel
theorem dL_law_3002 : decode cL_law 3002 = .ok (.iaload, 1) := by decide +kernel
theorem dL_law_3003 : decode cL_law 3003 = .ok (.invokevirtual 330, 3) := by decide +kernel
theorem dL_law_3006 : decode cL_law 3006 = .ok (.istore 6, 2) := by decide +kernel
theorem dL_law_3008 : decode cL_law 3008 = .ok (.aload_n 2, 1) := by decide +kernel
theorem dL_law_3009 : decode cL_law 3009 = .ok (.invokevirtual 177, 3) := by decide +kernel
theorem dL_law_3012 : decode cL_law 3012 = .ok (.iload 5, 2) := by decide +kernel
theorem dL_law_3014 : decode cL_law 3014 = .ok (.if_icmp .eq 5, 3) := by decide +kernel
theorem dL_law_3017 : decode cL_law 3017 = .ok (.iconst 0, 1) := by decide +kernel
theorem dL_law_3018 : decode cL_law 3018 = .ok (.ireturn, 1) := by decide +kernel
theorem dL_law_3019 : decode cL_law 3019 = .ok (.iload 5, 2) := by decide +kernel
theorem dL_law_3021 : decode cL_law 3021 = .ok (.ifCond .ne 15, 3) := by decide +kernel
theorem dL_law_3024 : decode cL_law 3024 = .ok (.aload_n 3, 1) := by decide +kernel
theorem dL_law_3025 : decode cL_law 3025 = .ok (.iconst 0, 1) := by decide +kernel
theorem dL_law_3026 : decode cL_law 3026 = .ok (.laload, 1) := by decide +kernel
theorem dL_law_3027 : decode cL_law 3027 = .ok (.iload 6, 2) := by decide +kernel
theorem dL_law_3029 : decode cL_law 3029 = .ok (.i2l, 1) := by decide +kernel
theorem dL_law_3030 : decode cL_law 3030 = .ok (.lcmp, 1) := by decide +kernel
theorem dL_law_3031 : decode cL_law 3031 = .ok (.ifCond .eq 5, 3) := by decide +kernel
theorem dL_law_3034 : decode cL_law 3034 = .ok (.iconst 0, 1) := by decide +kernel
theorem dL_law_3035 : decode cL_law 3035 = .ok (.ireturn, 1) := by decide +kernel
theorem dL_law_3036 : decode cL_law 3036 = .ok (.goto 569, 3) := by decide +kernel
theorem dL_law_3039 : decode cL_law 3039 = .ok (.aload_n 1, 1) := by decide +kernel
theorem dL_law_3040 : decode cL_law 3040 = .ok (.aload_n 0, 1) := by decide +kernel
theorem dL_law_3041 : decode cL_law 3041 = .ok (.iload 4, 2) := by decide +kernel
theorem dL_law_3043 : decode cL_law 3043 = .ok (.iconst 1, 1) := by decide +kernel
theorem dL_law_3044 : decode cL_law 3044 = .ok (.iadd, 1) := by decide +kernel
theorem dL_law_3045 : decode cL_law 3045 = .ok (.iaload, 1) := by decide +kernel
theorem dL_law_3046 : decode cL_law 3046 = .ok (.aload_n 0, 1) := by decide +kernel
theorem dL_law_3047 : decode cL_law 3047 = .ok (.iload 4, 2) := by decide +kernel
theorem dL_law_3049 : decode cL_law 3049 = .ok (.iconst 2, 1) := by decide +kernel
theorem dL_law_3050 : decode cL_law 3050 = .ok (.iadd, 1) := by decide +kernel
theorem dL_law_3051 : decode cL_law 3051 = .ok (.iaload, 1) := by decide +kernel
theorem dL_law_3052 : decode cL_law 3052 = .ok (.aload_n 3, 1) := by decide +kernel
theorem dL_law_3053 : decode cL_law 3053 = .ok (.invokestatic 331, 3) := by decide +kernel
theorem dL_law_3056 : decode cL_law 3056 = .ok (.istore 5, 2) := by decide +kernel
theorem dL_law_3058 : decode cL_law 3058 = .ok (.aload_n 2, 1) := by decide +kernel
theorem dL_law_3059 : decode cL_law 3059 = .ok (.aload_n 0, 1) := by decide +kernel
theorem dL_law_3060 : decode cL_law 3060 = .ok (.iload 4, 2) := by decide +kernel
theorem dL_law_3062 : decode cL_law 3062 = .ok (.iconst 1, 1) := by decide +kernel
theorem dL_law_3063 : decode cL_law 3063 = .ok (.iadd, 1) := by decide +kernel
theorem dL_law_3064 : decode cL_law 3064 = .ok (.iaload, 1) := by decide +kernel
theorem dL_law_3065 : decode cL_law 3065 = .ok (.aload_n 0, 1) := by decide +kernel
theorem dL_law_3066 : decode cL_law 3066 = .ok (.iload 4, 2) := by decide +kernel
theorem dL_law_3068 : decode cL_law 3068 = .ok (.iconst 2, 1) := by decide +kernel
theorem dL_law_3069 : decode cL_law 3069 = .ok (.iadd, 1) := by decide +kernel
theorem dL_law_3070 : decode cL_law 3070 = .ok (.iaload, 1) := by decide +kernel
theorem dL_law_3071 : decode cL_law 3071 = .ok (.invokevirtual 333, 3) := by decide +kernel
theorem dL_law_3074 : decode cL_law 3074 = .ok (.istore 6, 2) := by decide +kernel
theorem dL_law_3076 : decode cL_law 3076 = .ok (.aload_n 2, 1) := by decide +kernel
theorem dL_law_3077 : decode cL_law 3077 = .ok (.invokevirtual 177, 3) := by decide +kernel
theorem dL_law_3080 : decode cL_law 3080 = .ok (.iload 5, 2) := by decide +kernel
theorem dL_law_3082 : decode cL_law 3082 = .ok (.if_icmp .eq 5, 3) := by decide +kernel
theorem dL_law_3085 : decode cL_law 3085 = .ok (.iconst 0, 1) := by decide +kernel
theorem dL_law_3086 : decode cL_law 3086 = .ok (.ireturn, 1) := by decide +kernel
theorem dL_law_3087 : decode cL_law 3087 = .ok (.iload 5, 2) := by decide +kernel
theorem dL_law_3089 : decode cL_law 3089 = .ok (.ifCond .ne 15, 3) := by decide +kernel
theorem dL_law_3092 : decode cL_law 3092 = .ok (.aload_n 3, 1) := by decide +kernel
theorem dL_law_3093 : decode cL_law 3093 = .ok (.iconst 0, 1) := by decide +kernel
theorem dL_law_3094 : decode cL_law 3094 = .ok (.laload, 1) := by decide +kernel
theorem dL_law_3095 : decode cL_law 3095 = .ok (.iload 6, 2) := by decide +kernel
theorem dL_law_3097 : decode cL_law 3097 = .ok (.i2l, 1) := by decide +kernel
theorem dL_law_3098 : decode cL_law 3098 = .ok (.lcmp, 1) := by decide +kernel
theorem dL_law_3099 : decode cL_law 3099 = .ok (.ifCond .eq 5, 3) := by decide +kernel
theorem dL_law_3102 : decode cL_law 3102 = .ok (.iconst 0, 1) := by decide +kernel
theorem dL_law_3103 : decode cL_law 3103 = .ok (.ireturn, 1) := by decide +kernel
theorem dL_law_3104 : decode cL_law 3104 = .ok (.goto 501, 3) := by decide +kernel
theorem dL_law_3107 : decode cL_law 3107 = .ok (.aload_n 1, 1) := by decide +kernel
theorem dL_law_3108 : decode cL_law 3108 = .ok (.aload_n 0, 1) := by decide +kernel
theorem dL_law_3109 : decode cL_law 3109 = .ok (.iload 4, 2) := by decide +kernel
theorem dL_law_3111 : decode cL_law 3111 = .ok (.iconst 1, 1) := by decide +kernel
theorem dL_law_3112 : decode cL_law 3112 = .ok (.iadd, 1) := by decide +kernel
theorem dL_law_3113 : decode cL_law 3113 = .ok (.iaload, 1) := by decide +kernel
theorem dL_law_3114 : decode cL_law 3114 = .ok (.aload_n 3, 1) := by decide +kernel
theorem dL_law_3115 : decode cL_law 3115 = .ok (.invokestatic 334, 3) := by decide +kernel
theorem dL_law_3118 : decode cL_law 3118 = .ok (.istore 5, 2) := by decide +kernel
theorem dL_law_3120 : decode cL_law 3120 = .ok (.aload_n 2, 1) := by decide +kernel
theorem dL_law_3121 : decode cL_law 3121 = .ok (.aload_n 0, 1) := by decide +kernel
theorem dL_law_3122 : decode cL_law 3122 = .ok (.iload 4, 2) := by decide +kernel
theorem dL_law_3124 : decode cL_law 3124 = .ok (.iconst 1, 1) := by decide +kernel
theorem dL_law_3125 : decode cL_law 3125 = .ok (.iadd, 1) := by decide +kernel
theorem dL_law_3126 : decode cL_law 3126 = .ok (.iaload, 1) := by decide +kernel
theorem dL_law_3127 : decode cL_law 3127 = .ok (.invokevirtual 336, 3) := by decide +kernel
theorem dL_law_3130 : decode cL_law 3130 = .ok (.istore 6, 2) := by decide +kernel
theorem dL_law_3132 : decode cL_law 3132 = .ok (.aload_n 2, 1) := by decide +kernel
theorem dL_law_3133 : decode cL_law 3133 = .ok (.invokevirtual 177, 3) := by decide +kernel
theorem dL_law_3136 : decode cL_law 3136 = .ok (.iload 5, 2) := by decide +kernel
theorem dL_law_3138 : decode cL_law 3138 = .ok (.if_icmp .eq 5, 3) := by decide +kernel
theorem dL_law_3141 : decode cL_law 3141 = .ok (.iconst 0, 1) := by decide +kernel
theorem dL_law_3142 : decode cL_law 3142 = .ok (.ireturn, 1) := by decide +kernel
theorem dL_law_3143 : decode cL_law 3143 = .ok (.iload 5, 2) := by decide +kernel
theorem dL_law_3145 : decode cL_law 3145 = .ok (.ifCond .ne 15, 3) := by decide +kernel
theorem dL_law_3148 : decode cL_law 3148 = .ok (.aload_n 3, 1) := by decide +kernel
theorem dL_law_3149 : decode cL_law 3149 = .ok (.iconst 0, 1) := by decide +kernel
theorem dL_law_3150 : decode cL_law 3150 = .ok (.laload, 1) := by decide +kernel
theorem dL_law_3151 : decode cL_law 3151 = .ok (.iload 6, 2) := by decide +kernel
theorem dL_law_3153 : decode cL_law 3153 = .ok (.i2l, 1) := by decide +kernel
theorem dL_law_3154 : decode cL_law 3154 = .ok (.lcmp, 1) := by decide +kernel
theorem dL_law_3155 : decode cL_law 3155 = .ok (.ifCond .eq 5, 3) := by decide +kernel
theorem dL_law_3158 : decode cL_law 3158 = .ok (.iconst 0, 1) := by decide +kernel
theorem dL_law_3159 : decode cL_law 3159 = .ok (.ireturn, 1) := by decide +kernel
theorem dL_law_3160 : decode cL_law 3160 = .ok (.goto 445, 3) := by decide +kernel
theorem dL_law_3163 : decode cL_law 3163 = .ok (.aload_n 1, 1) := by decide +kernel
theorem dL_law_3164 : decode cL_law 3164 = .ok (.aload_n 0, 1) := by decide +kernel
theorem dL_law_3165 : decode cL_law 3165 = .ok (.iload 4, 2) := by decide +kernel
theorem dL_law_3167 : decode cL_law 3167 = .ok (.iconst 1, 1) := by decide +kernel
theorem dL_law_3168 : decode cL_law 3168 = .ok (.iadd, 1) := by decide +kernel
theorem dL_law_3169 : decode cL_law 3169 = .ok (.iaload, 1) := by decide +kernel
theorem dL_law_3170 : decode cL_law 3170 = .ok (.aload_n 0, 1) := by decide +kernel
theorem dL_law_3171 : decode cL_law 3171 = .ok (.iload 4, 2) := by decide +kernel
theorem dL_law_3173 : decode cL_law 3173 = .ok (.iconst 2, 1) := by decide +kernel
theorem dL_law_3174 : decode cL_law 3174 = .ok (.iadd, 1) := by decide +kernel
theorem dL_law_3175 : decode cL_law 3175 = .ok (.iaload, 1) := by decide +kernel
theorem dL_law_3176 : decode cL_law 3176 = .ok (.aload_n 3, 1) := by decide +kernel
theorem dL_law_3177 : decode cL_law 3177 = .ok (.invokestatic 337, 3) := by decide +kernel
theorem dL_law_3180 : decode cL_law 3180 = .ok (.istore 5, 2) := by decide +kernel
theorem dL_law_3182 : decode cL_law 3182 = .ok (.aload_n 2, 1) := by decide +kernel
theorem dL_law_3183 : decode cL_law 3183 = .ok (.aload_n 0, 1) := by decide +kernel
theorem dL_law_3184 : decode cL_law 3184 = .ok (.iload 4, 2) := by decide +kernel
theorem dL_law_3186 : decode cL_law 3186 = .ok (.iconst 1, 1) := by decide +kernel
theorem dL_law_3187 : decode cL_law 3187 = .ok (.iadd, 1) := by decide +kernel
theorem dL_law_3188 : decode cL_law 3188 = .ok (.iaload, 1) := by decide +kernel
theorem dL_law_3189 : decode cL_law 3189 = .ok (.aload_n 0, 1) := by decide +kernel
theorem dL_law_3190 : decode cL_law 3190 = .ok (.iload 4, 2) := by decide +kernel
theorem dL_law_3192 : decode cL_law 3192 = .ok (.iconst 2, 1) := by decide +kernel
theorem dL_law_3193 : decode cL_law 3193 = .ok (.iadd, 1) := by decide +kernel
theorem dL_law_3194 : decode cL_law 3194 = .ok (.iaload, 1) := by decide +kernel
theorem dL_law_3195 : decode cL_law 3195 = .ok (.invokevirtual 339, 3) := by decide +kernel
theorem dL_law_3198 : decode cL_law 3198 = .ok (.istore 6, 2) := by decide +kernel
theorem dL_law_3200 : decode cL_law 3200 = .ok (.aload_n 2, 1) := by decide +kernel
theorem dL_law_3201 : decode cL_law 3201 = .ok (.invokevirtual 177, 3) := by decide +kernel
theorem dL_law_3204 : decode cL_law 3204 = .ok (.iload 5, 2) := by decide +kernel
theorem dL_law_3206 : decode cL_law 3206 = .ok (.if_icmp .eq 5, 3) := by decide +kernel
theorem dL_law_3209 : decode cL_law 3209 = .ok (.iconst 0, 1) := by decide +kernel
theorem dL_law_3210 : decode cL_law 3210 = .ok (.ireturn, 1) := by decide +kernel
theorem dL_law_3211 : decode cL_law 3211 = .ok (.iload 5, 2) := by decide +kernel
theorem dL_law_3213 : decode cL_law 3213 = .ok (.ifCond .ne 15, 3) := by decide +kernel
theorem dL_law_3216 : decode cL_law 3216 = .ok (.aload_n 3, 1) := by decide +kernel
theorem dL_law_3217 : decode cL_law 3217 = .ok (.iconst 0, 1) := by decide +kernel
theorem dL_law_3218 : decode cL_law 3218 = .ok (.laload, 1) := by decide +kernel
theorem dL_law_3219 : decode cL_law 3219 = .ok (.iload 6, 2) := by decide +kernel
theorem dL_law_3221 : decode cL_law 3221 = .ok (.i2l, 1) := by decide +kernel
theorem dL_law_3222 : decode cL_law 3222 = .ok (.lcmp, 1) := by decide +kernel
theorem dL_law_3223 : decode cL_law 3223 = .ok (.ifCond .eq 5, 3) := by decide +kernel
theorem dL_law_3226 : decode cL_law 3226 = .ok (.iconst 0, 1) := by decide +kernel
theorem dL_law_3227 : decode cL_law 3227 = .ok (.ireturn, 1) := by decide +kernel
theorem dL_law_3228 : decode cL_law 3228 = .ok (.goto 377, 3) := by decide +kernel
theorem dL_law_3231 : decode cL_law 3231 = .ok (.aload_n 1, 1) := by decide +kernel
theorem dL_law_3232 : decode cL_law 3232 = .ok (.aload_n 3, 1) := by decide +kernel
theorem dL_law_3233 : decode cL_law 3233 = .ok (.invokestatic 340, 3) := by decide +kernel
theorem dL_law_3236 : decode cL_law 3236 = .ok (.istore 5, 2) := by decide +kernel
theorem dL_law_3238 : decode cL_law 3238 = .ok (.aload_n 2, 1) := by decide +kernel
theorem dL_law_3239 : decode cL_law 3239 = .ok (.invokevirtual 342, 3) := by decide +kernel
theorem dL_law_3242 : decode cL_law 3242 = .ok (.istore 6, 2) := by decide +kernel
theorem dL_law_3244 : decode cL_law 3244 = .ok (.aload_n 2, 1) := by decide +kernel
theorem dL_law_3245 : decode cL_law 3245 = .ok (.invokevirtual 177, 3) := by decide +kernel
theorem dL_law_3248 : decode cL_law 3248 = .ok (.iload 5, 2) := by decide +kernel
theorem dL_law_3250 : decode cL_law 3250 = .ok (.if_icmp .eq 5, 3) := by decide +kernel
theorem dL_law_3253 : decode cL_law 3253 = .ok (.iconst 0, 1) := by decide +kernel
theorem dL_law_3254 : decode cL_law 3254 = .ok (.ireturn, 1) := by decide +kernel
theorem dL_law_3255 : decode cL_law 3255 = .ok (.iload 5, 2) := by decide +kernel
theorem dL_law_3257 : decode cL_law 3257 = .ok (.ifCond .ne 15, 3) := by decide +kernel
theorem dL_law_3260 : decode cL_law 3260 = .ok (.aload_n 3, 1) := by decide +kernel
theorem dL_law_3261 : decode cL_law 3261 = .ok (.iconst 0, 1) := by decide +kernel
theorem dL_law_3262 : decode cL_law 3262 = .ok (.laload, 1) := by decide +kernel
theorem dL_law_3263 : decode cL_law 3263 = .ok (.iload 6, 2) := by decide +kernel
theorem dL_law_3265 : decode cL_law 3265 = .ok (.i2l, 1) := by decide +kernel
theorem dL_law_3266 : decode cL_law 3266 = .ok (.lcmp, 1) := by decide +kernel
theorem dL_law_3267 : decode cL_law 3267 = .ok (.ifCond .eq 5, 3) := by decide +kernel
theorem dL_law_3270 : decode cL_law 3270 = .ok (.iconst 0, 1) := by decide +kernel
theorem dL_law_3271 : decode cL_law 3271 = .ok (.ireturn, 1) := by decide +kernel
theorem dL_law_3272 : decode cL_law 3272 = .ok (.goto 333, 3) := by decide +kernel
theorem dL_law_3275 : decode cL_law 3275 = .ok (.aload_n 1, 1) := by decide +kernel
theorem dL_law_3276 : decode cL_law 3276 = .ok (.aload_n 0, 1) := by decide +kernel
theorem dL_law_3277 : decode cL_law 3277 = .ok (.iload 4, 2) := by decide +kernel
theorem dL_law_3279 : decode cL_law 3279 = .ok (.iconst 1, 1) := by decide +kernel
theorem dL_law_3280 : decode cL_law 3280 = .ok (.iadd, 1) := by decide +kernel
theorem dL_law_3281 : decode cL_law 3281 = .ok (.iaload, 1) := by decide +kernel
theorem dL_law_3282 : decode cL_law 3282 = .ok (.aload_n 3, 1) := by decide +kernel
theorem dL_law_3283 : decode cL_law 3283 = .ok (.invokestatic 343, 3) := by decide +kernel
theorem dL_law_3286 : decode cL_law 3286 = .ok (.istore 5, 2) := by decide +kernel
theorem dL_law_3288 : decode cL_law 3288 = .ok (.aload_n 2, 1) := by decide +kernel
theorem dL_law_3289 : decode cL_law 3289 = .ok (.aload_n 0, 1) := by decide +kernel
theorem dL_law_3290 : decode cL_law 3290 = .ok (.iload 4, 2) := by decide +kernel
theorem dL_law_3292 : decode cL_law 3292 = .ok (.iconst 1, 1) := by decide +kernel
theorem dL_law_3293 : decode cL_law 3293 = .ok (.iadd, 1) := by decide +kernel
theorem dL_law_3294 : decode cL_law 3294 = .ok (.iaload, 1) := by decide +kernel
theorem dL_law_3295 : decode cL_law 3295 = .ok (.invokevirtual 345, 3) := by decide +kernel
theorem dL_law_3298 : decode cL_law 3298 = .ok (.istore 6, 2) := by decide +kernel
theorem dL_law_3300 : decode cL_law 3300 = .ok (.aload_n 2, 1) := by decide +kernel
theorem dL_law_3301 : decode cL_law 3301 = .ok (.invokevirtual 177, 3) := by decide +kernel
theorem dL_law_3304 : decode cL_law 3304 = .ok (.iload 5, 2) := by decide +kernel
theorem dL_law_3306 : decode cL_law 3306 = .ok (.if_icmp .eq 5, 3) := by decide +kernel
theorem dL_law_3309 : decode cL_law 3309 = .ok (.iconst 0, 1) := by decide +kernel
theorem dL_law_3310 : decode cL_law 3310 = .ok (.ireturn, 1) := by decide +kernel
theorem dL_law_3311 : decode cL_law 3311 = .ok (.iload 5, 2) := by decide +kernel
theorem dL_law_3313 : decode cL_law 3313 = .ok (.ifCond .ne 15, 3) := by decide +kernel
theorem dL_law_3316 : decode cL_law 3316 = .ok (.aload_n 3, 1) := by decide +kernel
theorem dL_law_3317 : decode cL_law 3317 = .ok (.iconst 0, 1) := by decide +kernel
theorem dL_law_3318 : decode cL_law 3318 = .ok (.laload, 1) := by decide +kernel
theorem dL_law_3319 : decode cL_law 3319 = .ok (.iload 6, 2) := by decide +kernel
theorem dL_law_3321 : decode cL_law 3321 = .ok (.i2l, 1) := by decide +kernel
theorem dL_law_3322 : decode cL_law 3322 = .ok (.lcmp, 1) := by decide +kernel
theorem dL_law_3323 : decode cL_law 3323 = .ok (.ifCond .eq 5, 3) := by decide +kernel
theorem dL_law_3326 : decode cL_law 3326 = .ok (.iconst 0, 1) := by decide +kernel
theorem dL_law_3327 : decode cL_law 3327 = .ok (.ireturn, 1) := by decide +kernel
theorem dL_law_3328 : decode cL_law 3328 = .ok (.goto 277, 3) := by decide +kernel
theorem dL_law_3331 : decode cL_law 3331 = .ok (.aload_n 1, 1) := by decide +kernel
theorem dL_law_3332 : decode cL_law 3332 = .ok (.aload_n 0, 1) := by decide +kernel
theorem dL_law_3333 : decode cL_law 3333 = .ok (.iload 4, 2) := by decide +kernel
theorem dL_law_3335 : decode cL_law 3335 = .ok (.iconst 1, 1) := by decide +kernel
theorem dL_law_3336 : decode cL_law 3336 = .ok (.iadd, 1) := by decide +kernel
theorem dL_law_3337 : decode cL_law 3337 = .ok (.iaload, 1) := by decide +kernel
theorem dL_law_3338 : decode cL_law 3338 = .ok (.aload_n 0, 1) := by decide +kernel
theorem dL_law_3339 : decode cL_law 3339 = .ok (.iload 4, 2) := by decide +kernel
theorem dL_law_3341 : decode cL_law 3341 = .ok (.iconst 2, 1) := by decide +kernel
theorem dL_law_3342 : decode cL_law 3342 = .ok (.iadd, 1) := by decide +kernel
theorem dL_law_3343 : decode cL_law 3343 = .ok (.iaload, 1) := by decide +kernel
theorem dL_law_3344 : decode cL_law 3344 = .ok (.aload_n 3, 1) := by decide +kernel
theorem dL_law_3345 : decode cL_law 3345 = .ok (.invokestatic 346, 3) := by decide +kernel
theorem dL_law_3348 : decode cL_law 3348 = .ok (.istore 5, 2) := by decide +kernel
theorem dL_law_3350 : decode cL_law 3350 = .ok (.aload_n 2, 1) := by decide +kernel
theorem dL_law_3351 : decode cL_law 3351 = .ok (.aload_n 0, 1) := by decide +kernel
theorem dL_law_3352 : decode cL_law 3352 = .ok (.iload 4, 2) := by decide +kernel
theorem dL_law_3354 : decode cL_law 3354 = .ok (.iconst 1, 1) := by decide +kernel
theorem dL_law_3355 : decode cL_law 3355 = .ok (.iadd, 1) := by decide +kernel
theorem dL_law_3356 : decode cL_law 3356 = .ok (.iaload, 1) := by decide +kernel
theorem dL_law_3357 : decode cL_law 3357 = .ok (.aload_n 0, 1) := by decide +kernel
theorem dL_law_3358 : decode cL_law 3358 = .ok (.iload 4, 2) := by decide +kernel
theorem dL_law_3360 : decode cL_law 3360 = .ok (.iconst 2, 1) := by decide +kernel
theorem dL_law_3361 : decode cL_law 3361 = .ok (.iadd, 1) := by decide +kernel
theorem dL_law_3362 : decode cL_law 3362 = .ok (.iaload, 1) := by decide +kernel
theorem dL_law_3363 : decode cL_law 3363 = .ok (.invokevirtual 348, 3) := by decide +kernel
theorem dL_law_3366 : decode cL_law 3366 = .ok (.istore 6, 2) := by decide +kernel
theorem dL_law_3368 : decode cL_law 3368 = .ok (.aload_n 2, 1) := by decide +kernel
theorem dL_law_3369 : decode cL_law 3369 = .ok (.invokevirtual 177, 3) := by decide +kernel
theorem dL_law_3372 : decode cL_law 3372 = .ok (.iload 5, 2) := by decide +kernel
theorem dL_law_3374 : decode cL_law 3374 = .ok (.if_icmp .eq 5, 3) := by decide +kernel
theorem dL_law_3377 : decode cL_law 3377 = .ok (.iconst 0, 1) := by decide +kernel
theorem dL_law_3378 : decode cL_law 3378 = .ok (.ireturn, 1) := by decide +kernel
theorem dL_law_3379 : decode cL_law 3379 = .ok (.iload 5, 2) := by decide +kernel
theorem dL_law_3381 : decode cL_law 3381 = .ok (.ifCond .ne 15, 3) := by decide +kernel
theorem dL_law_3384 : decode cL_law 3384 = .ok (.aload_n 3, 1) := by decide +kernel
theorem dL_law_3385 : decode cL_law 3385 = .ok (.iconst 0, 1) := by decide +kernel
theorem dL_law_3386 : decode cL_law 3386 = .ok (.laload, 1) := by decide +kernel
theorem dL_law_3387 : decode cL_law 3387 = .ok (.iload 6, 2) := by decide +kernel
theorem dL_law_3389 : decode cL_law 3389 = .ok (.i2l, 1) := by decide +kernel
theorem dL_law_3390 : decode cL_law 3390 = .ok (.lcmp, 1) := by decide +kernel
theorem dL_law_3391 : decode cL_law 3391 = .ok (.ifCond .eq 5, 3) := by decide +kernel
theorem dL_law_3394 : decode cL_law 3394 = .ok (.iconst 0, 1) := by decide +kernel
theorem dL_law_3395 : decode cL_law 3395 = .ok (.ireturn, 1) := by decide +kernel
theorem dL_law_3396 : decode cL_law 3396 = .ok (.goto 209, 3) := by decide +kernel
theorem dL_law_3399 : decode cL_law 3399 = .ok (.aload_n 1, 1) := by decide +kernel
theorem dL_law_3400 : decode cL_law 3400 = .ok (.aload_n 0, 1) := by decide +kernel
theorem dL_law_3401 : decode cL_law 3401 = .ok (.iload 4, 2) := by decide +kernel
theorem dL_law_3403 : decode cL_law 3403 = .ok (.iconst 1, 1) := by decide +kernel
theorem dL_law_3404 : decode cL_law 3404 = .ok (.iadd, 1) := by decide +kernel
theorem dL_law_3405 : decode cL_law 3405 = .ok (.iaload, 1) := by decide +kernel
theorem dL_law_3406 : decode cL_law 3406 = .ok (.aload_n 0, 1) := by decide +kernel
theorem dL_law_3407 : decode cL_law 3407 = .ok (.iload 4, 2) := by decide +kernel
theorem dL_law_3409 : decode cL_law 3409 = .ok (.iconst 2, 1) := by decide +kernel
theorem dL_law_3410 : decode cL_law 3410 = .ok (.iadd, 1) := by decide +kernel
theorem dL_law_3411 : decode cL_law 3411 = .ok (.iaload, 1) := by decide +kernel
theorem dL_law_3412 : decode cL_law 3412 = .ok (.aload_n 0, 1) := by decide +kernel
theorem dL_law_3413 : decode cL_law 3413 = .ok (.iload 4, 2) := by decide +kernel
theorem dL_law_3415 : decode cL_law 3415 = .ok (.iconst 3, 1) := by decide +kernel
theorem dL_law_3416 : decode cL_law 3416 = .ok (.iadd, 1) := by decide +kernel
theorem dL_law_3417 : decode cL_law 3417 = .ok (.iaload, 1) := by decide +kernel
theorem dL_law_3418 : decode cL_law 3418 = .ok (.aload_n 3, 1) := by decide +kernel
theorem dL_law_3419 : decode cL_law 3419 = .ok (.invokestatic 349, 3) := by decide +kernel
theorem dL_law_3422 : decode cL_law 3422 = .ok (.istore 5, 2) := by decide +kernel
theorem dL_law_3424 : decode cL_law 3424 = .ok (.aload_n 2, 1) := by decide +kernel
theorem dL_law_3425 : decode cL_law 3425 = .ok (.aload_n 0, 1) := by decide +kernel
theorem dL_law_3426 : decode cL_law 3426 = .ok (.iload 4, 2) := by decide +kernel
theorem dL_law_3428 : decode cL_law 3428 = .ok (.iconst 1, 1) := by decide +kernel
theorem dL_law_3429 : decode cL_law 3429 = .ok (.iadd, 1) := by decide +kernel
theorem dL_law_3430 : decode cL_law 3430 = .ok (.iaload, 1) := by decide +kernel
theorem dL_law_3431 : decode cL_law 3431 = .ok (.aload_n 0, 1) := by decide +kernel
theorem dL_law_3432 : decode cL_law 3432 = .ok (.iload 4, 2) := by decide +kernel
theorem dL_law_3434 : decode cL_law 3434 = .ok (.iconst 2, 1) := by decide +kernel
theorem dL_law_3435 : decode cL_law 3435 = .ok (.iadd, 1) := by decide +kernel
theorem dL_law_3436 : decode cL_law 3436 = .ok (.iaload, 1) := by decide +kernel
theorem dL_law_3437 : decode cL_law 3437 = .ok (.aload_n 0, 1) := by decide +kernel
theorem dL_law_3438 : decode cL_law 3438 = .ok (.iload 4, 2) := by decide +kernel
theorem dL_law_3440 : decode cL_law 3440 = .ok (.iconst 3, 1) := by decide +kernel
theorem dL_law_3441 : decode cL_law 3441 = .ok (.iadd, 1) := by decide +kernel
theorem dL_law_3442 : decode cL_law 3442 = .ok (.iaload, 1) := by decide +kernel
theorem dL_law_3443 : decode cL_law 3443 = .ok (.invokevirtual 351, 3) := by decide +kernel
theorem dL_law_3446 : decode cL_law 3446 = .ok (.istore 6, 2) := by decide +kernel
theorem dL_law_3448 : decode cL_law 3448 = .ok (.aload_n 2, 1) := by decide +kernel
theorem dL_law_3449 : decode cL_law 3449 = .ok (.invokevirtual 177, 3) := by decide +kernel
theorem dL_law_3452 : decode cL_law 3452 = .ok (.iload 5, 2) := by decide +kernel
theorem dL_law_3454 : decode cL_law 3454 = .ok (.if_icmp .eq 5, 3) := by decide +kernel
theorem dL_law_3457 : decode cL_law 3457 = .ok (.iconst 0, 1) := by decide +kernel
theorem dL_law_3458 : decode cL_law 3458 = .ok (.ireturn, 1) := by decide +kernel
theorem dL_law_3459 : decode cL_law 3459 = .ok (.iload 5, 2) := by decide +kernel
theorem dL_law_3461 : decode cL_law 3461 = .ok (.ifCond .ne 15, 3) := by decide +kernel
theorem dL_law_3464 : decode cL_law 3464 = .ok (.aload_n 3, 1) := by decide +kernel
theorem dL_law_3465 : decode cL_law 3465 = .ok (.iconst 0, 1) := by decide +kernel
theorem dL_law_3466 : decode cL_law 3466 = .ok (.laload, 1) := by decide +kernel
theorem dL_law_3467 : decode cL_law 3467 = .ok (.iload 6, 2) := by decide +kernel
theorem dL_law_3469 : decode cL_law 3469 = .ok (.i2l, 1) := by decide +kernel
theorem dL_law_3470 : decode cL_law 3470 = .ok (.lcmp, 1) := by decide +kernel
theorem dL_law_3471 : decode cL_law 3471 = .ok (.ifCond .eq 5, 3) := by decide +kernel
theorem dL_law_3474 : decode cL_law 3474 = .ok (.iconst 0, 1) := by decide +kernel
theorem dL_law_3475 : decode cL_law 3475 = .ok (.ireturn, 1) := by decide +kernel
theorem dL_law_3476 : decode cL_law 3476 = .ok (.goto 129, 3) := by decide +kernel
theorem dL_law_3479 : decode cL_law 3479 = .ok (.aload_n 1, 1) := by decide +kernel
theorem dL_law_3480 : decode cL_law 3480 = .ok (.aload_n 0, 1) := by decide +kernel
theorem dL_law_3481 : decode cL_law 3481 = .ok (.iload 4, 2) := by decide +kernel
theorem dL_law_3483 : decode cL_law 3483 = .ok (.iconst 1, 1) := by decide +kernel
theorem dL_law_3484 : decode cL_law 3484 = .ok (.iadd, 1) := by decide +kernel
theorem dL_law_3485 : decode cL_law 3485 = .ok (.iaload, 1) := by decide +kernel
theorem dL_law_3486 : decode cL_law 3486 = .ok (.aload_n 3, 1) := by decide +kernel
theorem dL_law_3487 : decode cL_law 3487 = .ok (.invokestatic 352, 3) := by decide +kernel
theorem dL_law_3490 : decode cL_law 3490 = .ok (.istore 5, 2) := by decide +kernel
theorem dL_law_3492 : decode cL_law 3492 = .ok (.aload_n 2, 1) := by decide +kernel
theorem dL_law_3493 : decode cL_law 3493 = .ok (.aload_n 0, 1) := by decide +kernel
theorem dL_law_3494 : decode cL_law 3494 = .ok (.iload 4, 2) := by decide +kernel
theorem dL_law_3496 : decode cL_law 3496 = .ok (.iconst 1, 1) := by decide +kernel
theorem dL_law_3497 : decode cL_law 3497 = .ok (.iadd, 1) := by decide +kernel
theorem dL_law_3498 : decode cL_law 3498 = .ok (.iaload, 1) := by decide +kernel
theorem dL_law_3499 : decode cL_law 3499 = .ok (.invokevirtual 354, 3) := by decide +kernel
theorem dL_law_3502 : decode cL_law 3502 = .ok (.istore 6, 2) := by decide +kernel
theorem dL_law_3504 : decode cL_law 3504 = .ok (.aload_n 2, 1) := by decide +kernel
theorem dL_law_3505 : decode cL_law 3505 = .ok (.invokevirtual 177, 3) := by decide +kernel
theorem dL_law_3508 : decode cL_law 3508 = .ok (.iload 5, 2) := by decide +kernel
theorem dL_law_3510 : decode cL_law 3510 = .ok (.if_icmp .eq 5, 3) := by decide +kernel
theorem dL_law_3513 : decode cL_law 3513 = .ok (.iconst 0, 1) := by decide +kernel
theorem dL_law_3514 : decode cL_law 3514 = .ok (.ireturn, 1) := by decide +kernel
theorem dL_law_3515 : decode cL_law 3515 = .ok (.iload 5, 2) := by decide +kernel
theorem dL_law_3517 : decode cL_law 3517 = .ok (.ifCond .ne 22, 3) := by decide +kernel
theorem dL_law_3520 : decode cL_law 3520 = .ok (.aload_n 3, 1) := by decide +kernel
theorem dL_law_3521 : decode cL_law 3521 = .ok (.iconst 0, 1) := by decide +kernel
theorem dL_law_3522 : decode cL_law 3522 = .ok (.laload, 1) := by decide +kernel
theorem dL_law_3523 : decode cL_law 3523 = .ok (.iload 6, 2) := by decide +kernel
theorem dL_law_3525 : decode cL_law 3525 = .ok (.ifCond .eq 7, 3) := by decide +kernel
theorem dL_law_3528 : decode cL_law 3528 = .ok (.lconst 1, 1) := by decide +kernel
theorem dL_law_3529 : decode cL_law 3529 = .ok (.goto 4, 3) := by decide +kernel
theorem dL_law_3532 : decode cL_law 3532 = .ok (.lconst 0, 1) := by decide +kernel
theorem dL_law_3533 : decode cL_law 3533 = .ok (.lcmp, 1) := by decide +kernel
theorem dL_law_3534 : decode cL_law 3534 = .ok (.ifCond .eq 5, 3) := by decide +kernel
theorem dL_law_3537 : decode cL_law 3537 = .ok (.iconst 0, 1) := by decide +kernel
theorem dL_law_3538 : decode cL_law 3538 = .ok (.ireturn, 1) := by decide +kernel
theorem dL_law_3539 : decode cL_law 3539 = .ok (.goto 66, 3) := by decide +kernel
theorem dL_law_3542 : decode cL_law 3542 = .ok (.aload_n 1, 1) := by decide +kernel
theorem dL_law_3543 : decode cL_law 3543 = .ok (.aload_n 0, 1) := by decide +kernel
theorem dL_law_3544 : decode cL_law 3544 = .ok (.iload 4, 2) := by decide +kernel
theorem dL_law_3546 : decode cL_law 3546 = .ok (.iconst 1, 1) := by decide +kernel
theorem dL_law_3547 : decode cL_law 3547 = .ok (.iadd, 1) := by decide +kernel
theorem dL_law_3548 : decode cL_law 3548 = .ok (.iaload, 1) := by decide +kernel
theorem dL_law_3549 : decode cL_law 3549 = .ok (.aload_n 3, 1) := by decide +kernel
theorem dL_law_3550 : decode cL_law 3550 = .ok (.invokestatic 355, 3) := by decide +kernel
theorem dL_law_3553 : decode cL_law 3553 = .ok (.istore 5, 2) := by decide +kernel
theorem dL_law_3555 : decode cL_law 3555 = .ok (.aload_n 2, 1) := by decide +kernel
theorem dL_law_3556 : decode cL_law 3556 = .ok (.aload_n 0, 1) := by decide +kernel
theorem dL_law_3557 : decode cL_law 3557 = .ok (.iload 4, 2) := by decide +kernel
theorem dL_law_3559 : decode cL_law 3559 = .ok (.iconst 1, 1) := by decide +kernel
theorem dL_law_3560 : decode cL_law 3560 = .ok (.iadd, 1) := by decide +kernel
theorem dL_law_3561 : decode cL_law 3561 = .ok (.iaload, 1) := by decide +kernel
theorem dL_law_3562 : decode cL_law 3562 = .ok (.invokevirtual 357, 3) := by decide +kernel
theorem dL_law_3565 : decode cL_law 3565 = .ok (.istore 6, 2) := by decide +kernel
theorem dL_law_3567 : decode cL_law 3567 = .ok (.aload_n 2, 1) := by decide +kernel
theorem dL_law_3568 : decode cL_law 3568 = .ok (.invokevirtual 177, 3) := by decide +kernel
theorem dL_law_3571 : decode cL_law 3571 = .ok (.iload 5, 2) := by decide +kernel
theorem dL_law_3573 : decode cL_law 3573 = .ok (.if_icmp .eq 5, 3) := by decide +kernel
theorem dL_law_3576 : decode cL_law 3576 = .ok (.iconst 0, 1) := by decide +kernel
theorem dL_law_3577 : decode cL_law 3577 = .ok (.ireturn, 1) := by decide +kernel
theorem dL_law_3578 : decode cL_law 3578 = .ok (.iload 5, 2) := by decide +kernel
theorem dL_law_3580 : decode cL_law 3580 = .ok (.ifCond .ne 22, 3) := by decide +kernel
theorem dL_law_3583 : decode cL_law 3583 = .ok (.aload_n 3, 1) := by decide +kernel
theorem dL_law_3584 : decode cL_law 3584 = .ok (.iconst 0, 1) := by decide +kernel
theorem dL_law_3585 : decode cL_law 3585 = .ok (.laload, 1) := by decide +kernel
theorem dL_law_3586 : decode cL_law 3586 = .ok (.iload 6, 2) := by decide +kernel
theorem dL_law_3588 : decode cL_law 3588 = .ok (.ifCond .eq 7, 3) := by decide +kernel
theorem dL_law_3591 : decode cL_law 3591 = .ok (.lconst 1, 1) := by decide +kernel
theorem dL_law_3592 : decode cL_law 3592 = .ok (.goto 4, 3) := by decide +kernel
theorem dL_law_3595 : decode cL_law 3595 = .ok (.lconst 0, 1) := by decide +kernel
theorem dL_law_3596 : decode cL_law 3596 = .ok (.lcmp, 1) := by decide +kernel
theorem dL_law_3597 : decode cL_law 3597 = .ok (.ifCond .eq 5, 3) := by decide +kernel
theorem dL_law_3600 : decode cL_law 3600 = .ok (.iconst 0, 1) := by decide +kernel
theorem dL_law_3601 : decode cL_law 3601 = .ok (.ireturn, 1) := by decide +kernel
theorem dL_law_3602 : decode cL_law 3602 = .ok (.goto 3, 3) := by decide +kernel
theorem dL_law_3605 : decode cL_law 3605 = .ok (.iinc 4 5, 3) := by decide +kernel
theorem dL_law_3608 : decode cL_law 3608 = .ok (.goto (-3585), 3) := by decide +kernel
theorem dL_law_3611 : decode cL_law 3611 = .ok (.iconst 1, 1) := by decide +kernel
theorem dL_law_3612 : decode cL_law 3612 = .ok (.ireturn, 1) := by decide +kernel
theorem tk_RL_171 : Cond.methodLink RL 171 yL_insertElement ∈ tq_G := tq_g (i := 729) (by decide +kernel) rfl
theorem tk_RL_176 : Cond.methodLink RL 176 yX11_insertElement ∈ tq_G := tq_g (i := 1976) (by decide +kernel) rfl
theorem tk_RL_177 : Cond.methodLink RL 177 yX11_thrown ∈ tq_G := tq_g (i := 1972) (by decide +kernel) rfl
theorem tk_y_X11_thrown : tq_yok yX11_thrown cX11_thrown 1 (some .int) 0 := ⟨tq_g (i := 1975) (by decide +kernel) rfl, tq_g (i := 133) (by decide +kernel) rfl, ⟨by decide +kernel, by decide +kernel⟩, by decide +kernel, by decide⟩
theorem tk_v_X11_thrown : tq_vok yX11_thrown := ⟨tq_g (i := 1973) (by decide +kernel) rfl, tq_g (i := 1974) (by decide +kernel) rfl⟩
theorem tk_y_X11_insertElement : tq_yok yX11_insertElement cX11_insertElement 4 (some .int) 3 := ⟨tq_g (i := 1979) (by decide +kernel) rfl, tq_g (i := 133) (by decide +kernel) rfl, ⟨by decide +kernel, by decide +kernel⟩, by decide +kernel, by decide⟩
theorem tk_v_X11_insertElement : tq_vok yX11_insertElement := ⟨tq_g (i := 1977) (by decide +kernel) rfl, tq_g (i := 1978) (by decide +kernel) rfl⟩
theorem tk_w_L_insertElement : Cond.codeWith yL_insertElement cL_insertElement 6 (some .int) [(0, 12, 15, 13), (0, 12, 19, 15), (0, 12, 23, 17)] ∈ tq_G ∧ Cond.initialized yL_insertElement.cls ∈ tq_G ∧ (yL_insertElement.cls ≠ "java/lang/invoke/MethodHandle" ∧ yL_insertElement.cls ≠ "java/lang/invoke/VarHandle") ∧ (parseMethodDescriptor yL_insertElement.desc).map (fun q => q.parameters.length) = some 5 ∧ 6 ≤ 19 := ⟨tq_g (i := 731) (by decide +kernel) rfl, tq_g (i := 119) (by decide +kernel) rfl, ⟨by decide +kernel, by decide +kernel⟩, by decide +kernel, by decide⟩
theorem tk_s_L_insertElement : Cond.static yL_insertElement ∈ tq_G := tq_g (i := 730) (by decide +kernel) rfl
theorem tk_RL_180 : Cond.methodLink RL 180 yL_insertText ∈ tq_G := tq_g (i := 880) (by decide +kernel) rfl
theorem tk_RL_182 : Cond.methodLink RL 182 yX11_insertText ∈ tq_G := tq_g (i := 2003) (by decide +kernel) rfl
theorem tk_y_X11_insertText : tq_yok yX11_insertText cX11_insertText 4 (some .int) 3 := ⟨tq_g (i := 2006) (by decide +kernel) rfl, tq_g (i := 133) (by decide +kernel) rfl, ⟨by decide +kernel, by decide +kernel⟩, by decide +kernel, by decide⟩
theorem tk_v_X11_insertText : tq_vok yX11_insertText := ⟨tq_g (i := 2004) (by decide +kernel) rfl, tq_g (i := 2005) (by decide +kernel) rfl⟩
theorem tk_w_L_insertText : Cond.codeWith yL_insertText cL_insertText 6 (some .int) [(0, 12, 15, 13), (0, 12, 19, 15), (0, 12, 23, 17)] ∈ tq_G ∧ Cond.initialized yL_insertText.cls ∈ tq_G ∧ (yL_insertText.cls ≠ "java/lang/invoke/MethodHandle" ∧ yL_insertText.cls ≠ "java/lang/invoke/VarHandle") ∧ (parseMethodDescriptor yL_insertText.desc).map (fun q => q.parameters.length) = some 5 ∧ 6 ≤ 19 := ⟨tq_g (i := 882) (by decide +kernel) rfl, tq_g (i := 119) (by decide +kernel) rfl, ⟨by decide +kernel, by decide +kernel⟩, by decide +kernel, by decide⟩
theorem tk_s_L_insertText : Cond.static yL_insertText ∈ tq_G := tq_g (i := 881) (by decide +kernel) rfl
theorem tk_RL_183 : Cond.methodLink RL 183 yL_insertAttribute ∈ tq_G := tq_g (i := 887) (by decide +kernel) rfl
theorem tk_RL_185 : Cond.methodLink RL 185 yX11_insertAttribute ∈ tq_G := tq_g (i := 2007) (by decide +kernel) rfl
theorem tk_y_X11_insertAttribute : tq_yok yX11_insertAttribute cX11_insertAttribute 5 (some .int) 3 := ⟨tq_g (i := 2010) (by decide +kernel) rfl, tq_g (i := 133) (by decide +kernel) rfl, ⟨by decide +kernel, by decide +kernel⟩, by decide +kernel, by decide⟩
theorem tk_v_X11_insertAttribute : tq_vok yX11_insertAttribute := ⟨tq_g (i := 2008) (by decide +kernel) rfl, tq_g (i := 2009) (by decide +kernel) rfl⟩
theorem tk_w_L_insertAttribute : Cond.codeWith yL_insertAttribute cL_insertAttribute 6 (some .int) [(0, 12, 15, 13), (0, 12, 19, 15), (0, 12, 23, 17)] ∈ tq_G ∧ Cond.initialized yL_insertAttribute.cls ∈ tq_G ∧ (yL_insertAttribute.cls ≠ "java/lang/invoke/MethodHandle" ∧ yL_insertAttribute.cls ≠ "java/lang/invoke/VarHandle") ∧ (parseMethodDescriptor yL_insertAttribute.desc).map (fun q => q.parameters.length) = some 5 ∧ 6 ≤ 19 := ⟨tq_g (i := 889) (by decide +kernel) rfl, tq_g (i := 119) (by decide +kernel) rfl, ⟨by decide +kernel, by decide +kernel⟩, by decide +kernel, by decide⟩
theorem tk_s_L_insertAttribute : Cond.static yL_insertAttribute ∈ tq_G := tq_g (i := 888) (by decide +kernel) rfl
theorem tk_RL_186 : Cond.methodLink RL 186 yL_remove ∈ tq_G := tq_g (i := 894) (by decide +kernel) rfl
theorem tk_RL_189 : Cond.methodLink RL 189 yX11_remove ∈ tq_G := tq_g (i := 2011) (by decide +kernel) rfl
theorem tk_y_X11_remove : tq_yok yX11_remove cX11_remove 2 (some .int) 1 := ⟨tq_g (i := 2014) (by decide +kernel) rfl, tq_g (i := 133) (by decide +kernel) rfl, ⟨by decide +kernel, by decide +kernel⟩, by decide +kernel, by decide⟩
theorem tk_v_X11_remove : tq_vok yX11_remove := ⟨tq_g (i := 2012) (by decide +kernel) rfl, tq_g (i := 2013) (by decide +kernel) rfl⟩
theorem tk_w_L_remove : Cond.codeWith yL_remove cL_remove 4 (some .int) [(0, 9, 12, 13), (0, 9, 15, 17)] ∈ tq_G ∧ Cond.initialized yL_remove.cls ∈ tq_G ∧ (yL_remove.cls ≠ "java/lang/invoke/MethodHandle" ∧ yL_remove.cls ≠ "java/lang/invoke/VarHandle") ∧ (parseMethodDescriptor yL_remove.desc).map (fun q => q.parameters.length) = some 3 ∧ 4 ≤ 19 := ⟨tq_g (i := 896) (by decide +kernel) rfl, tq_g (i := 119) (by decide +kernel) rfl, ⟨by decide +kernel, by decide +kernel⟩, by decide +kernel, by decide⟩
theorem tk_s_L_remove : Cond.static yL_remove ∈ tq_G := tq_g (i := 895) (by decide +kernel) rfl
theorem tk_RL_190 : Cond.methodLink RL 190 yL_rename ∈ tq_G := tq_g (i := 906) (by decide +kernel) rfl
theorem tk_RL_193 : Cond.methodLink RL 193 yX11_rename ∈ tq_G := tq_g (i := 2015) (by decide +kernel) rfl
theorem tk_y_X11_rename : tq_yok yX11_rename cX11_rename 3 (some .int) 2 := ⟨tq_g (i := 2018) (by decide +kernel) rfl, tq_g (i := 133) (by decide +kernel) rfl, ⟨by decide +kernel, by decide +kernel⟩, by decide +kernel, by decide⟩
theorem tk_v_X11_rename : tq_vok yX11_rename := ⟨tq_g (i := 2016) (by decide +kernel) rfl, tq_g (i := 2017) (by decide +kernel) rfl⟩
theorem tk_w_L_rename : Cond.codeWith yL_rename cL_rename 5 (some .int) [(0, 10, 13, 13), (0, 10, 17, 15), (0, 10, 21, 17)] ∈ tq_G ∧ Cond.initialized yL_rename.cls ∈ tq_G ∧ (yL_rename.cls ≠ "java/lang/invoke/MethodHandle" ∧ yL_rename.cls ≠ "java/lang/invoke/VarHandle") ∧ (parseMethodDescriptor yL_rename.desc).map (fun q => q.parameters.length) = some 4 ∧ 5 ≤ 19 := ⟨tq_g (i := 908) (by decide +kernel) rfl, tq_g (i := 119) (by decide +kernel) rfl, ⟨by decide +kernel, by decide +kernel⟩, by decide +kernel, by decide⟩
theorem tk_s_L_rename : Cond.static yL_rename ∈ tq_G := tq_g (i := 907) (by decide +kernel) rfl
theorem tk_RL_194 : Cond.methodLink RL 194 yL_setValue ∈ tq_G := tq_g (i := 914) (by decide +kernel) rfl
theorem tk_RL_196 : Cond.methodLink RL 196 yX11_setValue ∈ tq_G := tq_g (i := 2019) (by decide +kernel) rfl
theorem tk_y_X11_setValue : tq_yok yX11_setValue cX11_setValue 3 (some .int) 2 := ⟨tq_g (i := 2022) (by decide +kernel) rfl, tq_g (i := 133) (by decide +kernel) rfl, ⟨by decide +kernel, by decide +kernel⟩, by decide +kernel, by decide⟩
theorem tk_v_X11_setValue : tq_vok yX11_setValue := ⟨tq_g (i := 2020) (by decide +kernel) rfl, tq_g (i := 2021) (by decide +kernel) rfl⟩
theorem tk_w_L_setValue : Cond.codeWith yL_setValue cL_setValue 5 (some .int) [(0, 10, 13, 13), (0, 10, 17, 15), (0, 10, 21, 17)] ∈ tq_G ∧ Cond.initialized yL_setValue.cls ∈ tq_G ∧ (yL_setValue.cls ≠ "java/lang/invoke/MethodHandle" ∧ yL_setValue.cls ≠ "java/lang/invoke/VarHandle") ∧ (parseMethodDescriptor yL_setValue.desc).map (fun q => q.parameters.length) = some 4 ∧ 5 ≤ 19 := ⟨tq_g (i := 916) (by decide +kernel) rfl, tq_g (i := 119) (by decide +kernel) rfl, ⟨by decide +kernel, by decide +kernel⟩, by decide +kernel, by decide⟩
theorem tk_s_L_setValue : Cond.static yL_setValue ∈ tq_G := tq_g (i := 915) (by decide +kernel) rfl
theorem tk_RL_197 : Cond.methodLink RL 197 yL_move ∈ tq_G := tq_g (i := 922) (by decide +kernel) rfl
theorem tk_RL_199 : Cond.methodLink RL 199 yX11_move ∈ tq_G := tq_g (i := 2023) (by decide +kernel) rfl
theorem tk_y_X11_move : tq_yok yX11_move cX11_move 5 (some .int) 3 := ⟨tq_g (i := 2026) (by decide +kernel) rfl, tq_g (i := 133) (by decide +kernel) rfl, ⟨by decide +kernel, by decide +kernel⟩, by decide +kernel, by decide⟩
theorem tk_v_X11_move : tq_vok yX11_move := ⟨tq_g (i := 2024) (by decide +kernel) rfl, tq_g (i := 2025) (by decide +kernel) rfl⟩
theorem tk_w_L_move : Cond.codeWith yL_move cL_move 6 (some .int) [(0, 12, 15, 13), (0, 12, 19, 17)] ∈ tq_G ∧ Cond.initialized yL_move.cls ∈ tq_G ∧ (yL_move.cls ≠ "java/lang/invoke/MethodHandle" ∧ yL_move.cls ≠ "java/lang/invoke/VarHandle") ∧ (parseMethodDescriptor yL_move.desc).map (fun q => q.parameters.length) = some 5 ∧ 6 ≤ 19 := ⟨tq_g (i := 924) (by decide +kernel) rfl, tq_g (i := 119) (by decide +kernel) rfl, ⟨by decide +kernel, by decide +kernel⟩, by decide +kernel, by decide⟩
theorem tk_s_L_move : Cond.static yL_move ∈ tq_G := tq_g (i := 923) (by decide +kernel) rfl
theorem tk_RL_200 : Cond.methodLink RL 200 yL_declare ∈ tq_G := tq_g (i := 934) (by decide +kernel) rfl
theorem tk_RL_202 : Cond.methodLink RL 202 yX11_declare ∈ tq_G := tq_g (i := 2027) (by decide +kernel) rfl
theorem tk_y_X11_declare : tq_yok yX11_declare cX11_declare 3 (some .int) 2 := ⟨tq_g (i := 2030) (by decide +kernel) rfl, tq_g (i := 133) (by decide +kernel) rfl, ⟨by decide +kernel, by decide +kernel⟩, by decide +kernel, by decide⟩
theorem tk_v_X11_declare : tq_vok yX11_declare := ⟨tq_g (i := 2028) (by decide +kernel) rfl, tq_g (i := 2029) (by decide +kernel) rfl⟩
theorem tk_w_L_declare : Cond.codeWith yL_declare cL_declare 5 (some .int) [(0, 10, 13, 13), (0, 10, 17, 15), (0, 10, 21, 17)] ∈ tq_G ∧ Cond.initialized yL_declare.cls ∈ tq_G ∧ (yL_declare.cls ≠ "java/lang/invoke/MethodHandle" ∧ yL_declare.cls ≠ "java/lang/invoke/VarHandle") ∧ (parseMethodDescriptor yL_declare.desc).map (fun q => q.parameters.length) = some 4 ∧ 5 ≤ 19 := ⟨tq_g (i := 936) (by decide +kernel) rfl, tq_g (i := 119) (by decide +kernel) rfl, ⟨by decide +kernel, by decide +kernel⟩, by decide +kernel, by decide⟩
theorem tk_s_L_declare : Cond.static yL_declare ∈ tq_G := tq_g (i := 935) (by decide +kernel) rfl
theorem tk_RL_203 : Cond.methodLink RL 203 yL_apply ∈ tq_G := tq_g (i := 941) (by decide +kernel) rfl
theorem tk_RL_206 : Cond.methodLink RL 206 yX11_apply ∈ tq_G := tq_g (i := 2031) (by decide +kernel) rfl
theorem tk_y_X11_apply : tq_yok yX11_apply cX11_apply 6 (some .int) 0 := ⟨tq_g (i := 2034) (by decide +kernel) rfl, tq_g (i := 133) (by decide +kernel) rfl, ⟨by decide +kernel, by decide +kernel⟩, by decide +kernel, by decide⟩
theorem tk_v_X11_apply : tq_vok yX11_apply := ⟨tq_g (i := 2032) (by decide +kernel) rfl, tq_g (i := 2033) (by decide +kernel) rfl⟩
theorem tk_w_L_apply : Cond.codeWith yL_apply cL_apply 3 (some .int) [(0, 8, 11, 17)] ∈ tq_G ∧ Cond.initialized yL_apply.cls ∈ tq_G ∧ (yL_apply.cls ≠ "java/lang/invoke/MethodHandle" ∧ yL_apply.cls ≠ "java/lang/invoke/VarHandle") ∧ (parseMethodDescriptor yL_apply.desc).map (fun q => q.parameters.length) = some 2 ∧ 3 ≤ 19 := ⟨tq_g (i := 943) (by decide +kernel) rfl, tq_g (i := 119) (by decide +kernel) rfl, ⟨by decide +kernel, by decide +kernel⟩, by decide +kernel, by decide⟩
theorem tk_s_L_apply : Cond.static yL_apply ∈ tq_G := tq_g (i := 942) (by decide +kernel) rfl
theorem tk_RL_207 : Cond.methodLink RL 207 yX10_forget ∈ tq_G := tq_g (i := 639) (by decide +kernel) rfl
theorem tk_RL_210 : Cond.methodLink RL 210 yX11_forget ∈ tq_G := tq_g (i := 2166) (by decide +kernel) rfl
theorem tk_y_X11_forget : tq_yok yX11_forget cX11_forget 2 (some .int) 0 := ⟨tq_g (i := 2169) (by decide +kernel) rfl, tq_g (i := 133) (by decide +kernel) rfl, ⟨by decide +kernel, by decide +kernel⟩, by decide +kernel, by decide⟩
theorem tk_v_X11_forget : tq_vok yX11_forget := ⟨tq_g (i := 2167) (by decide +kernel) rfl, tq_g (i := 2168) (by decide +kernel) rfl⟩
theorem tk_y_X10_forget : tq_yok yX10_forget cX10_forget 1 (some .int) 0 := ⟨tq_g (i := 642) (by decide +kernel) rfl, tq_g (i := 120) (by decide +kernel) rfl, ⟨by decide +kernel, by decide +kernel⟩, by decide +kernel, by decide⟩
theorem tk_v_X10_forget : tq_vok yX10_forget := ⟨tq_g (i := 640) (by decide +kernel) rfl, tq_g (i := 641) (by decide +kernel) rfl⟩
theorem tk_RL_211 : Cond.methodLink RL 211 yX10_made ∈ tq_G := tq_g (i := 647) (by decide +kernel) rfl
theorem tk_RL_214 : Cond.methodLink RL 214 yX11_made ∈ tq_G := tq_g (i := 2174) (by decide +kernel) rfl
theorem tk_y_X11_made : tq_yok yX11_made cX11_made 1 (some .int) 0 := ⟨tq_g (i := 2177) (by decide +kernel) rfl, tq_g (i := 133) (by decide +kernel) rfl, ⟨by decide +kernel, by decide +kernel⟩, by decide +kernel, by decide⟩
theorem tk_v_X11_made : tq_vok yX11_made := ⟨tq_g (i := 2175) (by decide +kernel) rfl, tq_g (i := 2176) (by decide +kernel) rfl⟩
theorem tk_y_X10_made : tq_yok yX10_made cX10_made 1 (some .int) 0 := ⟨tq_g (i := 650) (by decide +kernel) rfl, tq_g (i := 120) (by decide +kernel) rfl, ⟨by decide +kernel, by decide +kernel⟩, by decide +kernel, by decide⟩
theorem tk_v_X10_made : tq_vok yX10_made := ⟨tq_g (i := 648) (by decide +kernel) rfl, tq_g (i := 649) (by decide +kernel) rfl⟩
theorem tk_RL_215 : Cond.methodLink RL 215 yX10_nodes ∈ tq_G := tq_g (i := 655) (by decide +kernel) rfl
theorem tk_RL_218 : Cond.methodLink RL 218 yX11_nodes ∈ tq_G := tq_g (i := 2178) (by decide +kernel) rfl
theorem tk_y_X11_nodes : tq_yok yX11_nodes cX11_nodes 1 (some .int) 0 := ⟨tq_g (i := 2181) (by decide +kernel) rfl, tq_g (i := 133) (by decide +kernel) rfl, ⟨by decide +kernel, by decide +kernel⟩, by decide +kernel, by decide⟩
theorem tk_v_X11_nodes : tq_vok yX11_nodes := ⟨tq_g (i := 2179) (by decide +kernel) rfl, tq_g (i := 2180) (by decide +kernel) rfl⟩
theorem tk_y_X10_nodes : tq_yok yX10_nodes cX10_nodes 1 (some .int) 0 := ⟨tq_g (i := 658) (by decide +kernel) rfl, tq_g (i := 120) (by decide +kernel) rfl, ⟨by decide +kernel, by decide +kernel⟩, by decide +kernel, by decide⟩
theorem tk_v_X10_nodes : tq_vok yX10_nodes := ⟨tq_g (i := 656) (by decide +kernel) rfl, tq_g (i := 657) (by decide +kernel) rfl⟩
theorem tk_RL_219 : Cond.methodLink RL 219 yX10_isThere ∈ tq_G := tq_g (i := 660) (by decide +kernel) rfl
theorem tk_RL_222 : Cond.methodLink RL 222 yX11_isThere ∈ tq_G := tq_g (i := 2182) (by decide +kernel) rfl
theorem tk_y_X11_isThere : tq_yok yX11_isThere cX11_isThere 2 (some .boolean) 1 := ⟨tq_g (i := 2185) (by decide +kernel) rfl, tq_g (i := 133) (by decide +kernel) rfl, ⟨by decide +kernel, by decide +kernel⟩, by decide +kernel, by decide⟩
theorem tk_v_X11_isThere : tq_vok yX11_isThere := ⟨tq_g (i := 2183) (by decide +kernel) rfl, tq_g (i := 2184) (by decide +kernel) rfl⟩
theorem tk_y_X10_isThere : tq_yok yX10_isThere cX10_isThere 2 (some .boolean) 1 := ⟨tq_g (i := 663) (by decide +kernel) rfl, tq_g (i := 120) (by decide +kernel) rfl, ⟨by decide +kernel, by decide +kernel⟩, by decide +kernel, by decide⟩
theorem tk_v_X10_isThere : tq_vok yX10_isThere := ⟨tq_g (i := 661) (by decide +kernel) rfl, tq_g (i := 662) (by decide +kernel) rfl⟩
theorem tk_RL_223 : Cond.methodLink RL 223 yL_kind ∈ tq_G := tq_g (i := 1182) (by decide +kernel) rfl
theorem tk_RL_225 : Cond.methodLink RL 225 yX11_kind ∈ tq_G := tq_g (i := 2186) (by decide +kernel) rfl
theorem tk_y_X11_kind : tq_yok yX11_kind cX11_kind 2 (some .int) 1 := ⟨tq_g (i := 2189) (by decide +kernel) rfl, tq_g (i := 133) (by decide +kernel) rfl, ⟨by decide +kernel, by decide +kernel⟩, by decide +kernel, by decide⟩
theorem tk_v_X11_kind : tq_vok yX11_kind := ⟨tq_g (i := 2187) (by decide +kernel) rfl, tq_g (i := 2188) (by decide +kernel) rfl⟩
theorem tk_w_L_kind : Cond.codeWith yL_kind cL_kind 4 (some .int) [(0, 9, 12, 13)] ∈ tq_G ∧ Cond.initialized yL_kind.cls ∈ tq_G ∧ (yL_kind.cls ≠ "java/lang/invoke/MethodHandle" ∧ yL_kind.cls ≠ "java/lang/invoke/VarHandle") ∧ (parseMethodDescriptor yL_kind.desc).map (fun q => q.parameters.length) = some 3 ∧ 4 ≤ 19 := ⟨tq_g (i := 1184) (by decide +kernel) rfl, tq_g (i := 119) (by decide +kernel) rfl, ⟨by decide +kernel, by decide +kernel⟩, by decide +kernel, by decide⟩
theorem tk_s_L_kind : Cond.static yL_kind ∈ tq_G := tq_g (i := 1183) (by decide +kernel) rfl
theorem tk_RL_226 : Cond.methodLink RL 226 yL_name ∈ tq_G := tq_g (i := 1189) (by decide +kernel) rfl
theorem tk_RL_228 : Cond.methodLink RL 228 yX11_name ∈ tq_G := tq_g (i := 2194) (by decide +kernel) rfl
theorem tk_y_X11_name : tq_yok yX11_name cX11_name 2 (some .int) 1 := ⟨tq_g (i := 2197) (by decide +kernel) rfl, tq_g (i := 133) (by decide +kernel) rfl, ⟨by decide +kernel, by decide +kernel⟩, by decide +kernel, by decide⟩
theorem tk_v_X11_name : tq_vok yX11_name := ⟨tq_g (i := 2195) (by decide +kernel) rfl, tq_g (i := 2196) (by decide +kernel) rfl⟩
theorem tk_w_L_name : Cond.codeWith yL_name cL_name 4 (some .int) [(0, 9, 12, 13)] ∈ tq_G ∧ Cond.initialized yL_name.cls ∈ tq_G ∧ (yL_name.cls ≠ "java/lang/invoke/MethodHandle" ∧ yL_name.cls ≠ "java/lang/invoke/VarHandle") ∧ (parseMethodDescriptor yL_name.desc).map (fun q => q.parameters.length) = some 3 ∧ 4 ≤ 19 := ⟨tq_g (i := 1191) (by decide +kernel) rfl, tq_g (i := 119) (by decide +kernel) rfl, ⟨by decide +kernel, by decide +kernel⟩, by decide +kernel, by decide⟩
theorem tk_s_L_name : Cond.static yL_name ∈ tq_G := tq_g (i := 1190) (by decide +kernel) rfl
theorem tk_RL_229 : Cond.methodLink RL 229 yL_value ∈ tq_G := tq_g (i := 1196) (by decide +kernel) rfl
theorem tk_RL_231 : Cond.methodLink RL 231 yX11_value ∈ tq_G := tq_g (i := 2198) (by decide +kernel) rfl
theorem tk_y_X11_value : tq_yok yX11_value cX11_value 2 (some .int) 1 := ⟨tq_g (i := 2201) (by decide +kernel) rfl, tq_g (i := 133) (by decide +kernel) rfl, ⟨by decide +kernel, by decide +kernel⟩, by decide +kernel, by decide⟩
theorem tk_v_X11_value : tq_vok yX11_value := ⟨tq_g (i := 2199) (by decide +kernel) rfl, tq_g (i := 2200) (by decide +kernel) rfl⟩
theorem tk_w_L_value : Cond.codeWith yL_value cL_value 4 (some .int) [(0, 9, 12, 13)] ∈ tq_G ∧ Cond.initialized yL_value.cls ∈ tq_G ∧ (yL_value.cls ≠ "java/lang/invoke/MethodHandle" ∧ yL_value.cls ≠ "java/lang/invoke/VarHandle") ∧ (parseMethodDescriptor yL_value.desc).map (fun q => q.parameters.length) = some 3 ∧ 4 ≤ 19 := ⟨tq_g (i := 1198) (by decide +kernel) rfl, tq_g (i := 119) (by decide +kernel) rfl, ⟨by decide +kernel, by decide +kernel⟩, by decide +kernel, by decide⟩
theorem tk_s_L_value : Cond.static yL_value ∈ tq_G := tq_g (i := 1197) (by decide +kernel) rfl
theorem tk_RL_232 : Cond.methodLink RL 232 yL_parent ∈ tq_G := tq_g (i := 1205) (by decide +kernel) rfl
theorem tk_RL_234 : Cond.methodLink RL 234 yX11_parent ∈ tq_G := tq_g (i := 2202) (by decide +kernel) rfl
theorem tk_y_X11_parent : tq_yok yX11_parent cX11_parent 2 (some .int) 1 := ⟨tq_g (i := 2205) (by decide +kernel) rfl, tq_g (i := 133) (by decide +kernel) rfl, ⟨by decide +kernel, by decide +kernel⟩, by decide +kernel, by decide⟩
theorem tk_v_X11_parent : tq_vok yX11_parent := ⟨tq_g (i := 2203) (by decide +kernel) rfl, tq_g (i := 2204) (by decide +kernel) rfl⟩
theorem tk_w_L_parent : Cond.codeWith yL_parent cL_parent 4 (some .int) [(0, 9, 12, 13)] ∈ tq_G ∧ Cond.initialized yL_parent.cls ∈ tq_G ∧ (yL_parent.cls ≠ "java/lang/invoke/MethodHandle" ∧ yL_parent.cls ≠ "java/lang/invoke/VarHandle") ∧ (parseMethodDescriptor yL_parent.desc).map (fun q => q.parameters.length) = some 3 ∧ 4 ≤ 19 := ⟨tq_g (i := 1207) (by decide +kernel) rfl, tq_g (i := 119) (by decide +kernel) rfl, ⟨by decide +kernel, by decide +kernel⟩, by decide +kernel, by decide⟩
theorem tk_s_L_parent : Cond.static yL_parent ∈ tq_G := tq_g (i := 1206) (by decide +kernel) rfl
theorem tk_RL_235 : Cond.methodLink RL 235 yL_child ∈ tq_G := tq_g (i := 1212) (by decide +kernel) rfl
theorem tk_RL_237 : Cond.methodLink RL 237 yX11_child ∈ tq_G := tq_g (i := 2206) (by decide +kernel) rfl
theorem tk_y_X11_child : tq_yok yX11_child cX11_child 3 (some .int) 2 := ⟨tq_g (i := 2209) (by decide +kernel) rfl, tq_g (i := 133) (by decide +kernel) rfl, ⟨by decide +kernel, by decide +kernel⟩, by decide +kernel, by decide⟩
theorem tk_v_X11_child : tq_vok yX11_child := ⟨tq_g (i := 2207) (by decide +kernel) rfl, tq_g (i := 2208) (by decide +kernel) rfl⟩
theorem tk_w_L_child : Cond.codeWith yL_child cL_child 5 (some .int) [(0, 10, 13, 13)] ∈ tq_G ∧ Cond.initialized yL_child.cls ∈ tq_G ∧ (yL_child.cls ≠ "java/lang/invoke/MethodHandle" ∧ yL_child.cls ≠ "java/lang/invoke/VarHandle") ∧ (parseMethodDescriptor yL_child.desc).map (fun q => q.parameters.length) = some 4 ∧ 5 ≤ 19 := ⟨tq_g (i := 1214) (by decide +kernel) rfl, tq_g (i := 119) (by decide +kernel) rfl, ⟨by decide +kernel, by decide +kernel⟩, by decide +kernel, by decide⟩
theorem tk_s_L_child : Cond.static yL_child ∈ tq_G := tq_g (i := 1213) (by decide +kernel) rfl
theorem tk_RL_238 : Cond.methodLink RL 238 yL_space ∈ tq_G := tq_g (i := 1226) (by decide +kernel) rfl
theorem tk_RL_240 : Cond.methodLink RL 240 yX11_space ∈ tq_G := tq_g (i := 2210) (by decide +kernel) rfl
theorem tk_y_X11_space : tq_yok yX11_space cX11_space 2 (some .int) 1 := ⟨tq_g (i := 2213) (by decide +kernel) rfl, tq_g (i := 133) (by decide +kernel) rfl, ⟨by decide +kernel, by decide +kernel⟩, by decide +kernel, by decide⟩
theorem tk_v_X11_space : tq_vok yX11_space := ⟨tq_g (i := 2211) (by decide +kernel) rfl, tq_g (i := 2212) (by decide +kernel) rfl⟩
theorem tk_w_L_space : Cond.codeWith yL_space cL_space 4 (some .int) [(0, 9, 12, 13)] ∈ tq_G ∧ Cond.initialized yL_space.cls ∈ tq_G ∧ (yL_space.cls ≠ "java/lang/invoke/MethodHandle" ∧ yL_space.cls ≠ "java/lang/invoke/VarHandle") ∧ (parseMethodDescriptor yL_space.desc).map (fun q => q.parameters.length) = some 3 ∧ 4 ≤ 19 := ⟨tq_g (i := 1228) (by decide +kernel) rfl, tq_g (i := 119) (by decide +kernel) rfl, ⟨by decide +kernel, by decide +kernel⟩, by decide +kernel, by decide⟩
theorem tk_s_L_space : Cond.static yL_space ∈ tq_G := tq_g (i := 1227) (by decide +kernel) rfl
theorem tk_RL_241 : Cond.methodLink RL 241 yL_number ∈ tq_G := tq_g (i := 1237) (by decide +kernel) rfl
theorem tk_RL_243 : Cond.methodLink RL 243 yX11_number_ ∈ tq_G := tq_g (i := 2214) (by decide +kernel) rfl
theorem tk_y_X11_number_ : tq_yok yX11_number_ cX11_number_ 2 (some .int) 1 := ⟨tq_g (i := 2217) (by decide +kernel) rfl, tq_g (i := 133) (by decide +kernel) rfl, ⟨by decide +kernel, by decide +kernel⟩, by decide +kernel, by decide⟩
theorem tk_v_X11_number_ : tq_vok yX11_number_ := ⟨tq_g (i := 2215) (by decide +kernel) rfl, tq_g (i := 2216) (by decide +kernel) rfl⟩
theorem tk_w_L_number : Cond.codeWith yL_number cL_number 4 (some .int) [(0, 9, 12, 13)] ∈ tq_G ∧ Cond.initialized yL_number.cls ∈ tq_G ∧ (yL_number.cls ≠ "java/lang/invoke/MethodHandle" ∧ yL_number.cls ≠ "java/lang/invoke/VarHandle") ∧ (parseMethodDescriptor yL_number.desc).map (fun q => q.parameters.length) = some 3 ∧ 4 ≤ 19 := ⟨tq_g (i := 1239) (by decide +kernel) rfl, tq_g (i := 119) (by decide +kernel) rfl, ⟨by decide +kernel, by decide +kernel⟩, by decide +kernel, by decide⟩
theorem tk_s_L_number : Cond.static yL_number ∈ tq_G := tq_g (i := 1238) (by decide +kernel) rfl
theorem tk_RL_244 : Cond.methodLink RL 244 yX10_numbered ∈ tq_G := tq_g (i := 668) (by decide +kernel) rfl
theorem tk_RL_247 : Cond.methodLink RL 247 yX11_numbered ∈ tq_G := tq_g (i := 2218) (by decide +kernel) rfl
theorem tk_y_X11_numbered : tq_yok yX11_numbered cX11_numbered 1 (some .int) 0 := ⟨tq_g (i := 2221) (by decide +kernel) rfl, tq_g (i := 133) (by decide +kernel) rfl, ⟨by decide +kernel, by decide +kernel⟩, by decide +kernel, by decide⟩
theorem tk_v_X11_numbered : tq_vok yX11_numbered := ⟨tq_g (i := 2219) (by decide +kernel) rfl, tq_g (i := 2220) (by decide +kernel) rfl⟩
theorem tk_y_X10_numbered : tq_yok yX10_numbered cX10_numbered 1 (some .int) 0 := ⟨tq_g (i := 671) (by decide +kernel) rfl, tq_g (i := 120) (by decide +kernel) rfl, ⟨by decide +kernel, by decide +kernel⟩, by decide +kernel, by decide⟩
theorem tk_v_X10_numbered : tq_vok yX10_numbered := ⟨tq_g (i := 669) (by decide +kernel) rfl, tq_g (i := 670) (by decide +kernel) rfl⟩
theorem tk_RL_248 : Cond.methodLink RL 248 yL_path ∈ tq_G := tq_g (i := 1244) (by decide +kernel) rfl
theorem tk_RL_250 : Cond.methodLink RL 250 yX11_path ∈ tq_G := tq_g (i := 2222) (by decide +kernel) rfl
theorem tk_y_X11_path : tq_yok yX11_path cX11_path 1 (some .int) 0 := ⟨tq_g (i := 2225) (by decide +kernel) rfl, tq_g (i := 133) (by decide +kernel) rfl, ⟨by decide +kernel, by decide +kernel⟩, by decide +kernel, by decide⟩
theorem tk_v_X11_path : tq_vok yX11_path := ⟨tq_g (i := 2223) (by decide +kernel) rfl, tq_g (i := 2224) (by decide +kernel) rfl⟩
theorem tk_w_L_path : Cond.codeWith yL_path cL_path 3 (some .int) [(0, 8, 11, 17)] ∈ tq_G ∧ Cond.initialized yL_path.cls ∈ tq_G ∧ (yL_path.cls ≠ "java/lang/invoke/MethodHandle" ∧ yL_path.cls ≠ "java/lang/invoke/VarHandle") ∧ (parseMethodDescriptor yL_path.desc).map (fun q => q.parameters.length) = some 2 ∧ 3 ≤ 19 := ⟨tq_g (i := 1246) (by decide +kernel) rfl, tq_g (i := 119) (by decide +kernel) rfl, ⟨by decide +kernel, by decide +kernel⟩, by decide +kernel, by decide⟩
theorem tk_s_L_path : Cond.static yL_path ∈ tq_G := tq_g (i := 1245) (by decide +kernel) rfl
theorem tk_RL_251 : Cond.methodLink RL 251 yL_step ∈ tq_G := tq_g (i := 1256) (by decide +kernel) rfl
theorem tk_RL_254 : Cond.methodLink RL 254 yX11_step ∈ tq_G := tq_g (i := 2226) (by decide +kernel) rfl
theorem tk_y_X11_step : tq_yok yX11_step cX11_step 8 (some .int) 4 := ⟨tq_g (i := 2229) (by decide +kernel) rfl, tq_g (i := 133) (by decide +kernel) rfl, ⟨by decide +kernel, by decide +kernel⟩, by decide +kernel, by decide⟩
theorem tk_v_X11_step : tq_vok yX11_step := ⟨tq_g (i := 2227) (by decide +kernel) rfl, tq_g (i := 2228) (by decide +kernel) rfl⟩
theorem tk_w_L_step : Cond.codeWith yL_step cL_step 7 (some .int) [(0, 14, 17, 13), (0, 14, 21, 15), (0, 14, 25, 17)] ∈ tq_G ∧ Cond.initialized yL_step.cls ∈ tq_G ∧ (yL_step.cls ≠ "java/lang/invoke/MethodHandle" ∧ yL_step.cls ≠ "java/lang/invoke/VarHandle") ∧ (parseMethodDescriptor yL_step.desc).map (fun q => q.parameters.length) = some 6 ∧ 7 ≤ 19 := ⟨tq_g (i := 1258) (by decide +kernel) rfl, tq_g (i := 119) (by decide +kernel) rfl, ⟨by decide +kernel, by decide +kernel⟩, by decide +kernel, by decide⟩
theorem tk_s_L_step : Cond.static yL_step ∈ tq_G := tq_g (i := 1257) (by decide +kernel) rfl
theorem tk_RL_255 : Cond.methodLink RL 255 yL_place ∈ tq_G := tq_g (i := 1298) (by decide +kernel) rfl
theorem tk_RL_257 : Cond.methodLink RL 257 yX11_place ∈ tq_G := tq_g (i := 2242) (by decide +kernel) rfl
theorem tk_y_X11_place : tq_yok yX11_place cX11_place 5 (some .int) 3 := ⟨tq_g (i := 2245) (by decide +kernel) rfl, tq_g (i := 133) (by decide +kernel) rfl, ⟨by decide +kernel, by decide +kernel⟩, by decide +kernel, by decide⟩
theorem tk_v_X11_place : tq_vok yX11_place := ⟨tq_g (i := 2243) (by decide +kernel) rfl, tq_g (i := 2244) (by decide +kernel) rfl⟩
theorem tk_w_L_place : Cond.codeWith yL_place cL_place 6 (some .int) [(0, 12, 15, 13), (0, 12, 19, 15), (0, 12, 23, 17)] ∈ tq_G ∧ Cond.initialized yL_place.cls ∈ tq_G ∧ (yL_place.cls ≠ "java/lang/invoke/MethodHandle" ∧ yL_place.cls ≠ "java/lang/invoke/VarHandle") ∧ (parseMethodDescriptor yL_place.desc).map (fun q => q.parameters.length) = some 5 ∧ 6 ≤ 19 := ⟨tq_g (i := 1300) (by decide +kernel) rfl, tq_g (i := 119) (by decide +kernel) rfl, ⟨by decide +kernel, by decide +kernel⟩, by decide +kernel, by decide⟩
theorem tk_s_L_place : Cond.static yL_place ∈ tq_G := tq_g (i := 1299) (by decide +kernel) rfl
theorem tk_RL_258 : Cond.methodLink RL 258 yL_last ∈ tq_G := tq_g (i := 1320) (by decide +kernel) rfl
theorem tk_RL_260 : Cond.methodLink RL 260 yX11_last ∈ tq_G := tq_g (i := 2254) (by decide +kernel) rfl
theorem tk_y_X11_last : tq_yok yX11_last cX11_last 2 (some .int) 1 := ⟨tq_g (i := 2257) (by decide +kernel) rfl, tq_g (i := 133) (by decide +kernel) rfl, ⟨by decide +kernel, by decide +kernel⟩, by decide +kernel, by decide⟩
theorem tk_v_X11_last : tq_vok yX11_last := ⟨tq_g (i := 2255) (by decide +kernel) rfl, tq_g (i := 2256) (by decide +kernel) rfl⟩
theorem tk_w_L_last : Cond.codeWith yL_last cL_last 4 (some .int) [(0, 9, 12, 13), (0, 9, 15, 17)] ∈ tq_G ∧ Cond.initialized yL_last.cls ∈ tq_G ∧ (yL_last.cls ≠ "java/lang/invoke/MethodHandle" ∧ yL_last.cls ≠ "java/lang/invoke/VarHandle") ∧ (parseMethodDescriptor yL_last.desc).map (fun q => q.parameters.length) = some 3 ∧ 4 ≤ 19 := ⟨tq_g (i := 1322) (by decide +kernel) rfl, tq_g (i := 119) (by decide +kernel) rfl, ⟨by decide +kernel, by decide +kernel⟩, by decide +kernel, by decide⟩
theorem tk_s_L_last : Cond.static yL_last ∈ tq_G := tq_g (i := 1321) (by decide +kernel) rfl
theorem tk_RL_261 : Cond.methodLink RL 261 yL_has ∈ tq_G := tq_g (i := 1327) (by decide +kernel) rfl
theorem tk_RL_264 : Cond.methodLink RL 264 yX11_has ∈ tq_G := tq_g (i := 2258) (by decide +kernel) rfl
theorem tk_y_X11_has : tq_yok yX11_has cX11_has 5 (some .int) 3 := ⟨tq_g (i := 2261) (by decide +kernel) rfl, tq_g (i := 133) (by decide +kernel) rfl, ⟨by decide +kernel, by decide +kernel⟩, by decide +kernel, by decide⟩
theorem tk_v_X11_has : tq_vok yX11_has := ⟨tq_g (i := 2259) (by decide +kernel) rfl, tq_g (i := 2260) (by decide +kernel) rfl⟩
theorem tk_w_L_has : Cond.codeWith yL_has cL_has 6 (some .int) [(0, 12, 15, 13), (0, 12, 19, 17)] ∈ tq_G ∧ Cond.initialized yL_has.cls ∈ tq_G ∧ (yL_has.cls ≠ "java/lang/invoke/MethodHandle" ∧ yL_has.cls ≠ "java/lang/invoke/VarHandle") ∧ (parseMethodDescriptor yL_has.desc).map (fun q => q.parameters.length) = some 5 ∧ 6 ≤ 19 := ⟨tq_g (i := 1329) (by decide +kernel) rfl, tq_g (i := 119) (by decide +kernel) rfl, ⟨by decide +kernel, by decide +kernel⟩, by decide +kernel, by decide⟩
theorem tk_s_L_has : Cond.static yL_has ∈ tq_G := tq_g (i := 1328) (by decide +kernel) rfl
theorem tk_RL_265 : Cond.methodLink RL 265 yL_worth ∈ tq_G := tq_g (i := 1334) (by decide +kernel) rfl
theorem tk_RL_267 : Cond.methodLink RL 267 yX11_worth ∈ tq_G := tq_g (i := 2262) (by decide +kernel) rfl
theorem tk_y_X11_worth : tq_yok yX11_worth cX11_worth 7 (some .int) 4 := ⟨tq_g (i := 2265) (by decide +kernel) rfl, tq_g (i := 133) (by decide +kernel) rfl, ⟨by decide +kernel, by decide +kernel⟩, by decide +kernel, by decide⟩
theorem tk_v_X11_worth : tq_vok yX11_worth := ⟨tq_g (i := 2263) (by decide +kernel) rfl, tq_g (i := 2264) (by decide +kernel) rfl⟩
theorem tk_w_L_worth : Cond.codeWith yL_worth cL_worth 7 (some .int) [(0, 14, 17, 13), (0, 14, 21, 15), (0, 14, 25, 17)] ∈ tq_G ∧ Cond.initialized yL_worth.cls ∈ tq_G ∧ (yL_worth.cls ≠ "java/lang/invoke/MethodHandle" ∧ yL_worth.cls ≠ "java/lang/invoke/VarHandle") ∧ (parseMethodDescriptor yL_worth.desc).map (fun q => q.parameters.length) = some 6 ∧ 7 ≤ 19 := ⟨tq_g (i := 1336) (by decide +kernel) rfl, tq_g (i := 119) (by decide +kernel) rfl, ⟨by decide +kernel, by decide +kernel⟩, by decide +kernel, by decide⟩
theorem tk_s_L_worth : Cond.static yL_worth ∈ tq_G := tq_g (i := 1335) (by decide +kernel) rfl
theorem tk_RL_268 : Cond.methodLink RL 268 yX10_paths ∈ tq_G := tq_g (i := 672) (by decide +kernel) rfl
theorem tk_RL_271 : Cond.methodLink RL 271 yX11_paths ∈ tq_G := tq_g (i := 2266) (by decide +kernel) rfl
theorem tk_y_X11_paths : tq_yok yX11_paths cX11_paths 1 (some .int) 0 := ⟨tq_g (i := 2269) (by decide +kernel) rfl, tq_g (i := 133) (by decide +kernel) rfl, ⟨by decide +kernel, by decide +kernel⟩, by decide +kernel, by decide⟩
theorem tk_v_X11_paths : tq_vok yX11_paths := ⟨tq_g (i := 2267) (by decide +kernel) rfl, tq_g (i := 2268) (by decide +kernel) rfl⟩
theorem tk_y_X10_paths : tq_yok yX10_paths cX10_paths 1 (some .int) 0 := ⟨tq_g (i := 675) (by decide +kernel) rfl, tq_g (i := 120) (by decide +kernel) rfl, ⟨by decide +kernel, by decide +kernel⟩, by decide +kernel, by decide⟩
theorem tk_v_X10_paths : tq_vok yX10_paths := ⟨tq_g (i := 673) (by decide +kernel) rfl, tq_g (i := 674) (by decide +kernel) rfl⟩
theorem tk_RL_272 : Cond.methodLink RL 272 yX10_readAsReader ∈ tq_G := tq_g (i := 680) (by decide +kernel) rfl
theorem tk_RL_275 : Cond.methodLink RL 275 yX11_readAsReader ∈ tq_G := tq_g (i := 2270) (by decide +kernel) rfl
theorem tk_y_X11_readAsReader : tq_yok yX11_readAsReader cX11_readAsReader 3 (some .boolean) 1 := ⟨tq_g (i := 2273) (by decide +kernel) rfl, tq_g (i := 133) (by decide +kernel) rfl, ⟨by decide +kernel, by decide +kernel⟩, by decide +kernel, by decide⟩
theorem tk_v_X11_readAsReader : tq_vok yX11_readAsReader := ⟨tq_g (i := 2271) (by decide +kernel) rfl, tq_g (i := 2272) (by decide +kernel) rfl⟩
theorem tk_y_X10_readAsReader : tq_yok yX10_readAsReader cX10_readAsReader 3 (some .boolean) 1 := ⟨tq_g (i := 683) (by decide +kernel) rfl, tq_g (i := 120) (by decide +kernel) rfl, ⟨by decide +kernel, by decide +kernel⟩, by decide +kernel, by decide⟩
theorem tk_v_X10_readAsReader : tq_vok yX10_readAsReader := ⟨tq_g (i := 681) (by decide +kernel) rfl, tq_g (i := 682) (by decide +kernel) rfl⟩
theorem tk_RL_276 : Cond.methodLink RL 276 yL_found ∈ tq_G := tq_g (i := 1341) (by decide +kernel) rfl
theorem tk_RL_278 : Cond.methodLink RL 278 yX11_found ∈ tq_G := tq_g (i := 2274) (by decide +kernel) rfl
theorem tk_w_L_found : Cond.codeWith yL_found cL_found 5 (some .int) [(0, 10, 13, 13)] ∈ tq_G ∧ Cond.initialized yL_found.cls ∈ tq_G ∧ (yL_found.cls ≠ "java/lang/invoke/MethodHandle" ∧ yL_found.cls ≠ "java/lang/invoke/VarHandle") ∧ (parseMethodDescriptor yL_found.desc).map (fun q => q.parameters.length) = some 4 ∧ 5 ≤ 19 := ⟨tq_g (i := 1343) (by decide +kernel) rfl, tq_g (i := 119) (by decide +kernel) rfl, ⟨by decide +kernel, by decide +kernel⟩, by decide +kernel, by decide⟩
theorem tk_s_L_found : Cond.static yL_found ∈ tq_G := tq_g (i := 1342) (by decide +kernel) rfl
theorem tk_RL_279 : Cond.methodLink RL 279 yL_foundAnew ∈ tq_G := tq_g (i := 1365) (by decide +kernel) rfl
theorem tk_RL_281 : Cond.methodLink RL 281 yX11_foundAnew ∈ tq_G := tq_g (i := 2286) (by decide +kernel) rfl
theorem tk_y_X11_foundAnew : tq_yok yX11_foundAnew cX11_foundAnew 3 (some .int) 2 := ⟨tq_g (i := 2289) (by decide +kernel) rfl, tq_g (i := 133) (by decide +kernel) rfl, ⟨by decide +kernel, by decide +kernel⟩, by decide +kernel, by decide⟩
theorem tk_v_X11_foundAnew : tq_vok yX11_foundAnew := ⟨tq_g (i := 2287) (by decide +kernel) rfl, tq_g (i := 2288) (by decide +kernel) rfl⟩
theorem tk_w_L_foundAnew : Cond.codeWith yL_foundAnew cL_foundAnew 5 (some .int) [(0, 10, 13, 13)] ∈ tq_G ∧ Cond.initialized yL_foundAnew.cls ∈ tq_G ∧ (yL_foundAnew.cls ≠ "java/lang/invoke/MethodHandle" ∧ yL_foundAnew.cls ≠ "java/lang/invoke/VarHandle") ∧ (parseMethodDescriptor yL_foundAnew.desc).map (fun q => q.parameters.length) = some 4 ∧ 5 ≤ 19 := ⟨tq_g (i := 1367) (by decide +kernel) rfl, tq_g (i := 119) (by decide +kernel) rfl, ⟨by decide +kernel, by decide +kernel⟩, by decide +kernel, by decide⟩
theorem tk_s_L_foundAnew : Cond.static yL_foundAnew ∈ tq_G := tq_g (i := 1366) (by decide +kernel) rfl
theorem tk_RL_282 : Cond.methodLink RL 282 yL_foundAt ∈ tq_G := tq_g (i := 1372) (by decide +kernel) rfl
theorem tk_RL_284 : Cond.methodLink RL 284 yX11_foundAt ∈ tq_G := tq_g (i := 2291) (by decide +kernel) rfl
theorem tk_y_X11_foundAt : tq_yok yX11_foundAt cX11_foundAt 5 (some .int) 2 := ⟨tq_g (i := 2294) (by decide +kernel) rfl, tq_g (i := 133) (by decide +kernel) rfl, ⟨by decide +kernel, by decide +kernel⟩, by decide +kernel, by decide⟩
theorem tk_v_X11_foundAt : tq_vok yX11_foundAt := ⟨tq_g (i := 2292) (by decide +kernel) rfl, tq_g (i := 2293) (by decide +kernel) rfl⟩
theorem tk_w_L_foundAt : Cond.codeWith yL_foundAt cL_foundAt 5 (some .int) [(0, 10, 13, 13)] ∈ tq_G ∧ Cond.initialized yL_foundAt.cls ∈ tq_G ∧ (yL_foundAt.cls ≠ "java/lang/invoke/MethodHandle" ∧ yL_foundAt.cls ≠ "java/lang/invoke/VarHandle") ∧ (parseMethodDescriptor yL_foundAt.desc).map (fun q => q.parameters.length) = some 4 ∧ 5 ≤ 19 := ⟨tq_g (i := 1374) (by decide +kernel) rfl, tq_g (i := 119) (by decide +kernel) rfl, ⟨by decide +kernel, by decide +kernel⟩, by decide +kernel, by decide⟩
theorem tk_s_L_foundAt : Cond.static yL_foundAt ∈ tq_G := tq_g (i := 1373) (by decide +kernel) rfl
theorem tk_RL_285 : Cond.methodLink RL 285 yL_ordered ∈ tq_G := tq_g (i := 1384) (by decide +kernel) rfl
theorem tk_RL_287 : Cond.methodLink RL 287 yX11_ordered ∈ tq_G := tq_g (i := 2303) (by decide +kernel) rfl
theorem tk_y_X11_ordered : tq_yok yX11_ordered cX11_ordered 11 (some .int) 2 := ⟨tq_g (i := 2306) (by decide +kernel) rfl, tq_g (i := 133) (by decide +kernel) rfl, ⟨by decide +kernel, by decide +kernel⟩, by decide +kernel, by decide⟩
theorem tk_v_X11_ordered : tq_vok yX11_ordered := ⟨tq_g (i := 2304) (by decide +kernel) rfl, tq_g (i := 2305) (by decide +kernel) rfl⟩
theorem tk_w_L_ordered : Cond.codeWith yL_ordered cL_ordered 5 (some .int) [(0, 10, 13, 13)] ∈ tq_G ∧ Cond.initialized yL_ordered.cls ∈ tq_G ∧ (yL_ordered.cls ≠ "java/lang/invoke/MethodHandle" ∧ yL_ordered.cls ≠ "java/lang/invoke/VarHandle") ∧ (parseMethodDescriptor yL_ordered.desc).map (fun q => q.parameters.length) = some 4 ∧ 5 ≤ 19 := ⟨tq_g (i := 1386) (by decide +kernel) rfl, tq_g (i := 119) (by decide +kernel) rfl, ⟨by decide +kernel, by decide +kernel⟩, by decide +kernel, by decide⟩
theorem tk_s_L_ordered : Cond.static yL_ordered ∈ tq_G := tq_g (i := 1385) (by decide +kernel) rfl
theorem tk_RL_288 : Cond.methodLink RL 288 yL_groups ∈ tq_G := tq_g (i := 1402) (by decide +kernel) rfl
theorem tk_RL_290 : Cond.methodLink RL 290 yX11_groups ∈ tq_G := tq_g (i := 2307) (by decide +kernel) rfl
theorem tk_y_X11_groups : tq_yok yX11_groups cX11_groups 8 (some .int) 1 := ⟨tq_g (i := 2310) (by decide +kernel) rfl, tq_g (i := 133) (by decide +kernel) rfl, ⟨by decide +kernel, by decide +kernel⟩, by decide +kernel, by decide⟩
theorem tk_v_X11_groups : tq_vok yX11_groups := ⟨tq_g (i := 2308) (by decide +kernel) rfl, tq_g (i := 2309) (by decide +kernel) rfl⟩
theorem tk_w_L_groups : Cond.codeWith yL_groups cL_groups 4 (some .int) [(0, 9, 12, 13)] ∈ tq_G ∧ Cond.initialized yL_groups.cls ∈ tq_G ∧ (yL_groups.cls ≠ "java/lang/invoke/MethodHandle" ∧ yL_groups.cls ≠ "java/lang/invoke/VarHandle") ∧ (parseMethodDescriptor yL_groups.desc).map (fun q => q.parameters.length) = some 3 ∧ 4 ≤ 19 := ⟨tq_g (i := 1404) (by decide +kernel) rfl, tq_g (i := 119) (by decide +kernel) rfl, ⟨by decide +kernel, by decide +kernel⟩, by decide +kernel, by decide⟩
theorem tk_s_L_groups : Cond.static yL_groups ∈ tq_G := tq_g (i := 1403) (by decide +kernel) rfl
theorem tk_RL_291 : Cond.methodLink RL 291 yL_nameType ∈ tq_G := tq_g (i := 1417) (by decide +kernel) rfl
theorem tk_RL_293 : Cond.methodLink RL 293 yX11_nameType ∈ tq_G := tq_g (i := 2311) (by decide +kernel) rfl
theorem tk_y_X11_nameType : tq_yok yX11_nameType cX11_nameType 4 (some .int) 2 := ⟨tq_g (i := 2314) (by decide +kernel) rfl, tq_g (i := 133) (by decide +kernel) rfl, ⟨by decide +kernel, by decide +kernel⟩, by decide +kernel, by decide⟩
theorem tk_v_X11_nameType : tq_vok yX11_nameType := ⟨tq_g (i := 2312) (by decide +kernel) rfl, tq_g (i := 2313) (by decide +kernel) rfl⟩
theorem tk_w_L_nameType : Cond.codeWith yL_nameType cL_nameType 5 (some .int) [(0, 10, 13, 13), (0, 10, 17, 15), (0, 10, 21, 17)] ∈ tq_G ∧ Cond.initialized yL_nameType.cls ∈ tq_G ∧ (yL_nameType.cls ≠ "java/lang/invoke/MethodHandle" ∧ yL_nameType.cls ≠ "java/lang/invoke/VarHandle") ∧ (parseMethodDescriptor yL_nameType.desc).map (fun q => q.parameters.length) = some 4 ∧ 5 ≤ 19 := ⟨tq_g (i := 1419) (by decide +kernel) rfl, tq_g (i := 119) (by decide +kernel) rfl, ⟨by decide +kernel, by decide +kernel⟩, by decide +kernel, by decide⟩
theorem tk_s_L_nameType : Cond.static yL_nameType ∈ tq_G := tq_g (i := 1418) (by decide +kernel) rfl
theorem tk_RL_294 : Cond.methodLink RL 294 yL_arc ∈ tq_G := tq_g (i := 1438) (by decide +kernel) rfl
theorem tk_RL_296 : Cond.methodLink RL 296 yX11_arc ∈ tq_G := tq_g (i := 2318) (by decide +kernel) rfl
theorem tk_y_X11_arc : tq_yok yX11_arc cX11_arc 7 (some .boolean) 4 := ⟨tq_g (i := 2321) (by decide +kernel) rfl, tq_g (i := 133) (by decide +kernel) rfl, ⟨by decide +kernel, by decide +kernel⟩, by decide +kernel, by decide⟩
theorem tk_v_X11_arc : tq_vok yX11_arc := ⟨tq_g (i := 2319) (by decide +kernel) rfl, tq_g (i := 2320) (by decide +kernel) rfl⟩
theorem tk_w_L_arc : Cond.codeWith yL_arc cL_arc 7 (some .int) [(0, 21, 24, 13), (0, 21, 28, 17)] ∈ tq_G ∧ Cond.initialized yL_arc.cls ∈ tq_G ∧ (yL_arc.cls ≠ "java/lang/invoke/MethodHandle" ∧ yL_arc.cls ≠ "java/lang/invoke/VarHandle") ∧ (parseMethodDescriptor yL_arc.desc).map (fun q => q.parameters.length) = some 6 ∧ 7 ≤ 19 := ⟨tq_g (i := 1440) (by decide +kernel) rfl, tq_g (i := 119) (by decide +kernel) rfl, ⟨by decide +kernel, by decide +kernel⟩, by decide +kernel, by decide⟩
theorem tk_s_L_arc : Cond.static yL_arc ∈ tq_G := tq_g (i := 1439) (by decide +kernel) rfl
theorem tk_RL_297 : Cond.methodLink RL 297 yL_setFinal ∈ tq_G := tq_g (i := 1449) (by decide +kernel) rfl
theorem tk_RL_299 : Cond.methodLink RL 299 yX11_setFinal ∈ tq_G := tq_g (i := 2325) (by decide +kernel) rfl
theorem tk_y_X11_setFinal : tq_yok yX11_setFinal cX11_setFinal 5 (some .boolean) 3 := ⟨tq_g (i := 2328) (by decide +kernel) rfl, tq_g (i := 133) (by decide +kernel) rfl, ⟨by decide +kernel, by decide +kernel⟩, by decide +kernel, by decide⟩
theorem tk_v_X11_setFinal : tq_vok yX11_setFinal := ⟨tq_g (i := 2326) (by decide +kernel) rfl, tq_g (i := 2327) (by decide +kernel) rfl⟩
theorem tk_w_L_setFinal : Cond.codeWith yL_setFinal cL_setFinal 6 (some .int) [(0, 19, 22, 13), (0, 19, 26, 17)] ∈ tq_G ∧ Cond.initialized yL_setFinal.cls ∈ tq_G ∧ (yL_setFinal.cls ≠ "java/lang/invoke/MethodHandle" ∧ yL_setFinal.cls ≠ "java/lang/invoke/VarHandle") ∧ (parseMethodDescriptor yL_setFinal.desc).map (fun q => q.parameters.length) = some 5 ∧ 6 ≤ 19 := ⟨tq_g (i := 1451) (by decide +kernel) rfl, tq_g (i := 119) (by decide +kernel) rfl, ⟨by decide +kernel, by decide +kernel⟩, by decide +kernel, by decide⟩
theorem tk_s_L_setFinal : Cond.static yL_setFinal ∈ tq_G := tq_g (i := 1450) (by decide +kernel) rfl
theorem tk_RL_300 : Cond.methodLink RL 300 yL_allowTexts ∈ tq_G := tq_g (i := 1460) (by decide +kernel) rfl
theorem tk_RL_303 : Cond.methodLink RL 303 yX11_allowTexts ∈ tq_G := tq_g (i := 2329) (by decide +kernel) rfl
theorem tk_y_X11_allowTexts : tq_yok yX11_allowTexts cX11_allowTexts 4 (some .boolean) 2 := ⟨tq_g (i := 2332) (by decide +kernel) rfl, tq_g (i := 133) (by decide +kernel) rfl, ⟨by decide +kernel, by decide +kernel⟩, by decide +kernel, by decide⟩
theorem tk_v_X11_allowTexts : tq_vok yX11_allowTexts := ⟨tq_g (i := 2330) (by decide +kernel) rfl, tq_g (i := 2331) (by decide +kernel) rfl⟩
theorem tk_w_L_allowTexts : Cond.codeWith yL_allowTexts cL_allowTexts 5 (some .int) [(0, 17, 20, 13), (0, 17, 24, 17)] ∈ tq_G ∧ Cond.initialized yL_allowTexts.cls ∈ tq_G ∧ (yL_allowTexts.cls ≠ "java/lang/invoke/MethodHandle" ∧ yL_allowTexts.cls ≠ "java/lang/invoke/VarHandle") ∧ (parseMethodDescriptor yL_allowTexts.desc).map (fun q => q.parameters.length) = some 4 ∧ 5 ≤ 19 := ⟨tq_g (i := 1462) (by decide +kernel) rfl, tq_g (i := 119) (by decide +kernel) rfl, ⟨by decide +kernel, by decide +kernel⟩, by decide +kernel, by decide⟩
theorem tk_s_L_allowTexts : Cond.static yL_allowTexts ∈ tq_G := tq_g (i := 1461) (by decide +kernel) rfl
theorem tk_RL_304 : Cond.methodLink RL 304 yL_attribute ∈ tq_G := tq_g (i := 1471) (by decide +kernel) rfl
theorem tk_RL_306 : Cond.methodLink RL 306 yX11_attribute ∈ tq_G := tq_g (i := 2333) (by decide +kernel) rfl
theorem tk_y_X11_attribute : tq_yok yX11_attribute cX11_attribute 6 (some .int) 3 := ⟨tq_g (i := 2336) (by decide +kernel) rfl, tq_g (i := 133) (by decide +kernel) rfl, ⟨by decide +kernel, by decide +kernel⟩, by decide +kernel, by decide⟩
theorem tk_v_X11_attribute : tq_vok yX11_attribute := ⟨tq_g (i := 2334) (by decide +kernel) rfl, tq_g (i := 2335) (by decide +kernel) rfl⟩
theorem tk_w_L_attribute : Cond.codeWith yL_attribute cL_attribute 6 (some .int) [(0, 12, 15, 13), (0, 12, 19, 15), (0, 12, 23, 17)] ∈ tq_G ∧ Cond.initialized yL_attribute.cls ∈ tq_G ∧ (yL_attribute.cls ≠ "java/lang/invoke/MethodHandle" ∧ yL_attribute.cls ≠ "java/lang/invoke/VarHandle") ∧ (parseMethodDescriptor yL_attribute.desc).map (fun q => q.parameters.length) = some 5 ∧ 6 ≤ 19 := ⟨tq_g (i := 1473) (by decide +kernel) rfl, tq_g (i := 119) (by decide +kernel) rfl, ⟨by decide +kernel, by decide +kernel⟩, by decide +kernel, by decide⟩
theorem tk_s_L_attribute : Cond.static yL_attribute ∈ tq_G := tq_g (i := 1472) (by decide +kernel) rfl
theorem tk_RL_307 : Cond.methodLink RL 307 yL_setStrict ∈ tq_G := tq_g (i := 1482) (by decide +kernel) rfl
theorem tk_RL_310 : Cond.methodLink RL 310 yX11_setStrict ∈ tq_G := tq_g (i := 2337) (by decide +kernel) rfl
theorem tk_y_X11_setStrict : tq_yok yX11_setStrict cX11_setStrict 3 (some .boolean) 1 := ⟨tq_g (i := 2340) (by decide +kernel) rfl, tq_g (i := 133) (by decide +kernel) rfl, ⟨by decide +kernel, by decide +kernel⟩, by decide +kernel, by decide⟩
theorem tk_v_X11_setStrict : tq_vok yX11_setStrict := ⟨tq_g (i := 2338) (by decide +kernel) rfl, tq_g (i := 2339) (by decide +kernel) rfl⟩
theorem tk_w_L_setStrict : Cond.codeWith yL_setStrict cL_setStrict 4 (some .int) [(0, 16, 19, 17)] ∈ tq_G ∧ Cond.initialized yL_setStrict.cls ∈ tq_G ∧ (yL_setStrict.cls ≠ "java/lang/invoke/MethodHandle" ∧ yL_setStrict.cls ≠ "java/lang/invoke/VarHandle") ∧ (parseMethodDescriptor yL_setStrict.desc).map (fun q => q.parameters.length) = some 3 ∧ 4 ≤ 19 := ⟨tq_g (i := 1484) (by decide +kernel) rfl, tq_g (i := 119) (by decide +kernel) rfl, ⟨by decide +kernel, by decide +kernel⟩, by decide +kernel, by decide⟩
theorem tk_s_L_setStrict : Cond.static yL_setStrict ∈ tq_G := tq_g (i := 1483) (by decide +kernel) rfl
theorem tk_RL_311 : Cond.methodLink RL 311 yX10_isValid ∈ tq_G := tq_g (i := 684) (by decide +kernel) rfl
theorem tk_RL_315 : Cond.methodLink RL 315 yX11_isValid ∈ tq_G := tq_g (i := 2341) (by decide +kernel) rfl
theorem tk_y_X11_isValid : tq_yok yX11_isValid cX11_isValid 1 (some .boolean) 0 := ⟨tq_g (i := 2344) (by decide +kernel) rfl, tq_g (i := 133) (by decide +kernel) rfl, ⟨by decide +kernel, by decide +kernel⟩, by decide +kernel, by decide⟩
theorem tk_v_X11_isValid : tq_vok yX11_isValid := ⟨tq_g (i := 2342) (by decide +kernel) rfl, tq_g (i := 2343) (by decide +kernel) rfl⟩
theorem tk_y_X10_isValid : tq_yok yX10_isValid cX10_isValid 1 (some .boolean) 0 := ⟨tq_g (i := 687) (by decide +kernel) rfl, tq_g (i := 120) (by decide +kernel) rfl, ⟨by decide +kernel, by decide +kernel⟩, by decide +kernel, by decide⟩
theorem tk_v_X10_isValid : tq_vok yX10_isValid := ⟨tq_g (i := 685) (by decide +kernel) rfl, tq_g (i := 686) (by decide +kernel) rfl⟩
theorem tk_RL_316 : Cond.methodLink RL 316 yL_types ∈ tq_G := tq_g (i := 1494) (by decide +kernel) rfl
theorem tk_RL_318 : Cond.methodLink RL 318 yX11_types ∈ tq_G := tq_g (i := 2345) (by decide +kernel) rfl
theorem tk_y_X11_types : tq_yok yX11_types cX11_types 2 (some .int) 1 := ⟨tq_g (i := 2348) (by decide +kernel) rfl, tq_g (i := 133) (by decide +kernel) rfl, ⟨by decide +kernel, by decide +kernel⟩, by decide +kernel, by decide⟩
theorem tk_v_X11_types : tq_vok yX11_types := ⟨tq_g (i := 2346) (by decide +kernel) rfl, tq_g (i := 2347) (by decide +kernel) rfl⟩
theorem tk_w_L_types : Cond.codeWith yL_types cL_types 4 (some .int) [(0, 9, 12, 13)] ∈ tq_G ∧ Cond.initialized yL_types.cls ∈ tq_G ∧ (yL_types.cls ≠ "java/lang/invoke/MethodHandle" ∧ yL_types.cls ≠ "java/lang/invoke/VarHandle") ∧ (parseMethodDescriptor yL_types.desc).map (fun q => q.parameters.length) = some 3 ∧ 4 ≤ 19 := ⟨tq_g (i := 1496) (by decide +kernel) rfl, tq_g (i := 119) (by decide +kernel) rfl, ⟨by decide +kernel, by decide +kernel⟩, by decide +kernel, by decide⟩
theorem tk_s_L_types : Cond.static yL_types ∈ tq_G := tq_g (i := 1495) (by decide +kernel) rfl
theorem tk_RL_319 : Cond.methodLink RL 319 yL_infer ∈ tq_G := tq_g (i := 1502) (by decide +kernel) rfl
theorem tk_RL_321 : Cond.methodLink RL 321 yX11_infer ∈ tq_G := tq_g (i := 2349) (by decide +kernel) rfl
theorem tk_y_X11_infer : tq_yok yX11_infer cX11_infer 7 (some .int) 1 := ⟨tq_g (i := 2352) (by decide +kernel) rfl, tq_g (i := 133) (by decide +kernel) rfl, ⟨by decide +kernel, by decide +kernel⟩, by decide +kernel, by decide⟩
theorem tk_v_X11_infer : tq_vok yX11_infer := ⟨tq_g (i := 2350) (by decide +kernel) rfl, tq_g (i := 2351) (by decide +kernel) rfl⟩
theorem tk_w_L_infer : Cond.codeWith yL_infer cL_infer 4 (some .int) [(0, 9, 12, 13)] ∈ tq_G ∧ Cond.initialized yL_infer.cls ∈ tq_G ∧ (yL_infer.cls ≠ "java/lang/invoke/MethodHandle" ∧ yL_infer.cls ≠ "java/lang/invoke/VarHandle") ∧ (parseMethodDescriptor yL_infer.desc).map (fun q => q.parameters.length) = some 3 ∧ 4 ≤ 19 := ⟨tq_g (i := 1504) (by decide +kernel) rfl, tq_g (i := 119) (by decide +kernel) rfl, ⟨by decide +kernel, by decide +kernel⟩, by decide +kernel, by decide⟩
theorem tk_s_L_infer : Cond.static yL_infer ∈ tq_G := tq_g (i := 1503) (by decide +kernel) rfl
theorem tk_RL_322 : Cond.methodLink RL 322 yL_index ∈ tq_G := tq_g (i := 1544) (by decide +kernel) rfl
theorem tk_RL_324 : Cond.methodLink RL 324 yX11_index ∈ tq_G := tq_g (i := 2377) (by decide +kernel) rfl
theorem tk_y_X11_index : tq_yok yX11_index cX11_index 2 (some .boolean) 1 := ⟨tq_g (i := 2380) (by decide +kernel) rfl, tq_g (i := 133) (by decide +kernel) rfl, ⟨by decide +kernel, by decide +kernel⟩, by decide +kernel, by decide⟩
theorem tk_v_X11_index : tq_vok yX11_index := ⟨tq_g (i := 2378) (by decide +kernel) rfl, tq_g (i := 2379) (by decide +kernel) rfl⟩
theorem tk_w_L_index : Cond.codeWith yL_index cL_index 4 (some .int) [(0, 16, 19, 15)] ∈ tq_G ∧ Cond.initialized yL_index.cls ∈ tq_G ∧ (yL_index.cls ≠ "java/lang/invoke/MethodHandle" ∧ yL_index.cls ≠ "java/lang/invoke/VarHandle") ∧ (parseMethodDescriptor yL_index.desc).map (fun q => q.parameters.length) = some 3 ∧ 4 ≤ 19 := ⟨tq_g (i := 1546) (by decide +kernel) rfl, tq_g (i := 119) (by decide +kernel) rfl, ⟨by decide +kernel, by decide +kernel⟩, by decide +kernel, by decide⟩
theorem tk_s_L_index : Cond.static yL_index ∈ tq_G := tq_g (i := 1545) (by decide +kernel) rfl
theorem tk_RL_325 : Cond.methodLink RL 325 yL_plan ∈ tq_G := tq_g (i := 1551) (by decide +kernel) rfl
theorem tk_RL_327 : Cond.methodLink RL 327 yX11_plan ∈ tq_G := tq_g (i := 2381) (by decide +kernel) rfl
theorem tk_y_X11_plan : tq_yok yX11_plan cX11_plan 6 (some .int) 1 := ⟨tq_g (i := 2384) (by decide +kernel) rfl, tq_g (i := 133) (by decide +kernel) rfl, ⟨by decide +kernel, by decide +kernel⟩, by decide +kernel, by decide⟩
theorem tk_v_X11_plan : tq_vok yX11_plan := ⟨tq_g (i := 2382) (by decide +kernel) rfl, tq_g (i := 2383) (by decide +kernel) rfl⟩
theorem tk_w_L_plan : Cond.codeWith yL_plan cL_plan 4 (some .int) [(0, 9, 12, 13)] ∈ tq_G ∧ Cond.initialized yL_plan.cls ∈ tq_G ∧ (yL_plan.cls ≠ "java/lang/invoke/MethodHandle" ∧ yL_plan.cls ≠ "java/lang/invoke/VarHandle") ∧ (parseMethodDescriptor yL_plan.desc).map (fun q => q.parameters.length) = some 3 ∧ 4 ≤ 19 := ⟨tq_g (i := 1553) (by decide +kernel) rfl, tq_g (i := 119) (by decide +kernel) rfl, ⟨by decide +kernel, by decide +kernel⟩, by decide +kernel, by decide⟩
theorem tk_s_L_plan : Cond.static yL_plan ∈ tq_G := tq_g (i := 1552) (by decide +kernel) rfl
theorem tk_RL_328 : Cond.methodLink RL 328 yL_view ∈ tq_G := tq_g (i := 1580) (by decide +kernel) rfl
theorem tk_RL_330 : Cond.methodLink RL 330 yX11_view ∈ tq_G := tq_g (i := 2393) (by decide +kernel) rfl
theorem tk_y_X11_view : tq_yok yX11_view cX11_view 2 (some .int) 1 := ⟨tq_g (i := 2396) (by decide +kernel) rfl, tq_g (i := 133) (by decide +kernel) rfl, ⟨by decide +kernel, by decide +kernel⟩, by decide +kernel, by decide⟩
theorem tk_v_X11_view : tq_vok yX11_view := ⟨tq_g (i := 2394) (by decide +kernel) rfl, tq_g (i := 2395) (by decide +kernel) rfl⟩
theorem tk_w_L_view : Cond.codeWith yL_view cL_view 4 (some .int) [(0, 9, 12, 13), (0, 9, 15, 17)] ∈ tq_G ∧ Cond.initialized yL_view.cls ∈ tq_G ∧ (yL_view.cls ≠ "java/lang/invoke/MethodHandle" ∧ yL_view.cls ≠ "java/lang/invoke/VarHandle") ∧ (parseMethodDescriptor yL_view.desc).map (fun q => q.parameters.length) = some 3 ∧ 4 ≤ 19 := ⟨tq_g (i := 1582) (by decide +kernel) rfl, tq_g (i := 119) (by decide +kernel) rfl, ⟨by decide +kernel, by decide +kernel⟩, by decide +kernel, by decide⟩
theorem tk_s_L_view : Cond.static yL_view ∈ tq_G := tq_g (i := 1581) (by decide +kernel) rfl
theorem tk_RL_331 : Cond.methodLink RL 331 yL_viewed ∈ tq_G := tq_g (i := 1588) (by decide +kernel) rfl
theorem tk_RL_333 : Cond.methodLink RL 333 yX11_viewed ∈ tq_G := tq_g (i := 2397) (by decide +kernel) rfl
theorem tk_y_X11_viewed : tq_yok yX11_viewed cX11_viewed 4 (some .int) 2 := ⟨tq_g (i := 2400) (by decide +kernel) rfl, tq_g (i := 133) (by decide +kernel) rfl, ⟨by decide +kernel, by decide +kernel⟩, by decide +kernel, by decide⟩
theorem tk_v_X11_viewed : tq_vok yX11_viewed := ⟨tq_g (i := 2398) (by decide +kernel) rfl, tq_g (i := 2399) (by decide +kernel) rfl⟩
theorem tk_w_L_viewed : Cond.codeWith yL_viewed cL_viewed 5 (some .int) [(0, 10, 13, 13)] ∈ tq_G ∧ Cond.initialized yL_viewed.cls ∈ tq_G ∧ (yL_viewed.cls ≠ "java/lang/invoke/MethodHandle" ∧ yL_viewed.cls ≠ "java/lang/invoke/VarHandle") ∧ (parseMethodDescriptor yL_viewed.desc).map (fun q => q.parameters.length) = some 4 ∧ 5 ≤ 19 := ⟨tq_g (i := 1590) (by decide +kernel) rfl, tq_g (i := 119) (by decide +kernel) rfl, ⟨by decide +kernel, by decide +kernel⟩, by decide +kernel, by decide⟩
theorem tk_s_L_viewed : Cond.static yL_viewed ∈ tq_G := tq_g (i := 1589) (by decide +kernel) rfl
theorem tk_RL_334 : Cond.methodLink RL 334 yL_changed ∈ tq_G := tq_g (i := 1595) (by decide +kernel) rfl
theorem tk_RL_336 : Cond.methodLink RL 336 yX11_changed ∈ tq_G := tq_g (i := 2401) (by decide +kernel) rfl
theorem tk_y_X11_changed : tq_yok yX11_changed cX11_changed 2 (some .int) 1 := ⟨tq_g (i := 2404) (by decide +kernel) rfl, tq_g (i := 133) (by decide +kernel) rfl, ⟨by decide +kernel, by decide +kernel⟩, by decide +kernel, by decide⟩
theorem tk_v_X11_changed : tq_vok yX11_changed := ⟨tq_g (i := 2402) (by decide +kernel) rfl, tq_g (i := 2403) (by decide +kernel) rfl⟩
theorem tk_w_L_changed : Cond.codeWith yL_changed cL_changed 4 (some .int) [(0, 9, 12, 13)] ∈ tq_G ∧ Cond.initialized yL_changed.cls ∈ tq_G ∧ (yL_changed.cls ≠ "java/lang/invoke/MethodHandle" ∧ yL_changed.cls ≠ "java/lang/invoke/VarHandle") ∧ (parseMethodDescriptor yL_changed.desc).map (fun q => q.parameters.length) = some 3 ∧ 4 ≤ 19 := ⟨tq_g (i := 1597) (by decide +kernel) rfl, tq_g (i := 119) (by decide +kernel) rfl, ⟨by decide +kernel, by decide +kernel⟩, by decide +kernel, by decide⟩
theorem tk_s_L_changed : Cond.static yL_changed ∈ tq_G := tq_g (i := 1596) (by decide +kernel) rfl
theorem tk_RL_337 : Cond.methodLink RL 337 yL_ranked ∈ tq_G := tq_g (i := 1602) (by decide +kernel) rfl
theorem tk_RL_339 : Cond.methodLink RL 339 yX11_ranked ∈ tq_G := tq_g (i := 2405) (by decide +kernel) rfl
theorem tk_y_X11_ranked : tq_yok yX11_ranked cX11_ranked 11 (some .int) 2 := ⟨tq_g (i := 2408) (by decide +kernel) rfl, tq_g (i := 133) (by decide +kernel) rfl, ⟨by decide +kernel, by decide +kernel⟩, by decide +kernel, by decide⟩
theorem tk_v_X11_ranked : tq_vok yX11_ranked := ⟨tq_g (i := 2406) (by decide +kernel) rfl, tq_g (i := 2407) (by decide +kernel) rfl⟩
theorem tk_w_L_ranked : Cond.codeWith yL_ranked cL_ranked 5 (some .int) [(0, 10, 13, 13), (0, 10, 17, 15)] ∈ tq_G ∧ Cond.initialized yL_ranked.cls ∈ tq_G ∧ (yL_ranked.cls ≠ "java/lang/invoke/MethodHandle" ∧ yL_ranked.cls ≠ "java/lang/invoke/VarHandle") ∧ (parseMethodDescriptor yL_ranked.desc).map (fun q => q.parameters.length) = some 4 ∧ 5 ≤ 19 := ⟨tq_g (i := 1604) (by decide +kernel) rfl, tq_g (i := 119) (by decide +kernel) rfl, ⟨by decide +kernel, by decide +kernel⟩, by decide +kernel, by decide⟩
theorem tk_s_L_ranked : Cond.static yL_ranked ∈ tq_G := tq_g (i := 1603) (by decide +kernel) rfl
theorem tk_RL_340 : Cond.methodLink RL 340 yL_keep ∈ tq_G := tq_g (i := 1630) (by decide +kernel) rfl
theorem tk_RL_342 : Cond.methodLink RL 342 yX11_keep ∈ tq_G := tq_g (i := 2413) (by decide +kernel) rfl
theorem tk_y_X11_keep : tq_yok yX11_keep cX11_keep 3 (some .int) 0 := ⟨tq_g (i := 2416) (by decide +kernel) rfl, tq_g (i := 133) (by decide +kernel) rfl, ⟨by decide +kernel, by decide +kernel⟩, by decide +kernel, by decide⟩
theorem tk_v_X11_keep : tq_vok yX11_keep := ⟨tq_g (i := 2414) (by decide +kernel) rfl, tq_g (i := 2415) (by decide +kernel) rfl⟩
theorem tk_w_L_keep : Cond.codeWith yL_keep cL_keep 3 (some .int) [(0, 8, 11, 17)] ∈ tq_G ∧ Cond.initialized yL_keep.cls ∈ tq_G ∧ (yL_keep.cls ≠ "java/lang/invoke/MethodHandle" ∧ yL_keep.cls ≠ "java/lang/invoke/VarHandle") ∧ (parseMethodDescriptor yL_keep.desc).map (fun q => q.parameters.length) = some 2 ∧ 3 ≤ 19 := ⟨tq_g (i := 1632) (by decide +kernel) rfl, tq_g (i := 119) (by decide +kernel) rfl, ⟨by decide +kernel, by decide +kernel⟩, by decide +kernel, by decide⟩
theorem tk_s_L_keep : Cond.static yL_keep ∈ tq_G := tq_g (i := 1631) (by decide +kernel) rfl
theorem tk_RL_343 : Cond.methodLink RL 343 yL_take ∈ tq_G := tq_g (i := 1638) (by decide +kernel) rfl
theorem tk_RL_345 : Cond.methodLink RL 345 yX11_take ∈ tq_G := tq_g (i := 2417) (by decide +kernel) rfl
theorem tk_y_X11_take : tq_yok yX11_take cX11_take 2 (some .int) 1 := ⟨tq_g (i := 2420) (by decide +kernel) rfl, tq_g (i := 133) (by decide +kernel) rfl, ⟨by decide +kernel, by decide +kernel⟩, by decide +kernel, by decide⟩
theorem tk_v_X11_take : tq_vok yX11_take := ⟨tq_g (i := 2418) (by decide +kernel) rfl, tq_g (i := 2419) (by decide +kernel) rfl⟩
theorem tk_w_L_take : Cond.codeWith yL_take cL_take 4 (some .int) [(0, 9, 12, 13), (0, 9, 15, 17)] ∈ tq_G ∧ Cond.initialized yL_take.cls ∈ tq_G ∧ (yL_take.cls ≠ "java/lang/invoke/MethodHandle" ∧ yL_take.cls ≠ "java/lang/invoke/VarHandle") ∧ (parseMethodDescriptor yL_take.desc).map (fun q => q.parameters.length) = some 3 ∧ 4 ≤ 19 := ⟨tq_g (i := 1640) (by decide +kernel) rfl, tq_g (i := 119) (by decide +kernel) rfl, ⟨by decide +kernel, by decide +kernel⟩, by decide +kernel, by decide⟩
theorem tk_s_L_take : Cond.static yL_take ∈ tq_G := tq_g (i := 1639) (by decide +kernel) rfl
theorem tk_RL_346 : Cond.methodLink RL 346 yL_distance ∈ tq_G := tq_g (i := 1656) (by decide +kernel) rfl
theorem tk_RL_348 : Cond.methodLink RL 348 yX11_distance ∈ tq_G := tq_g (i := 2429) (by decide +kernel) rfl
theorem tk_y_X11_distance : tq_yok yX11_distance cX11_distance 5 (some .int) 2 := ⟨tq_g (i := 2432) (by decide +kernel) rfl, tq_g (i := 133) (by decide +kernel) rfl, ⟨by decide +kernel, by decide +kernel⟩, by decide +kernel, by decide⟩
theorem tk_v_X11_distance : tq_vok yX11_distance := ⟨tq_g (i := 2430) (by decide +kernel) rfl, tq_g (i := 2431) (by decide +kernel) rfl⟩
theorem tk_w_L_distance : Cond.codeWith yL_distance cL_distance 5 (some .int) [(0, 10, 13, 13)] ∈ tq_G ∧ Cond.initialized yL_distance.cls ∈ tq_G ∧ (yL_distance.cls ≠ "java/lang/invoke/MethodHandle" ∧ yL_distance.cls ≠ "java/lang/invoke/VarHandle") ∧ (parseMethodDescriptor yL_distance.desc).map (fun q => q.parameters.length) = some 4 ∧ 5 ≤ 19 := ⟨tq_g (i := 1658) (by decide +kernel) rfl, tq_g (i := 119) (by decide +kernel) rfl, ⟨by decide +kernel, by decide +kernel⟩, by decide +kernel, by decide⟩
theorem tk_s_L_distance : Cond.static yL_distance ∈ tq_G := tq_g (i := 1657) (by decide +kernel) rfl
theorem tk_RL_349 : Cond.methodLink RL 349 yL_odds ∈ tq_G := tq_g (i := 1738) (by decide +kernel) rfl
theorem tk_RL_351 : Cond.methodLink RL 351 yX11_odds ∈ tq_G := tq_g (i := 2452) (by decide +kernel) rfl
theorem tk_y_X11_odds : tq_yok yX11_odds cX11_odds 10 (some .int) 3 := ⟨tq_g (i := 2455) (by decide +kernel) rfl, tq_g (i := 133) (by decide +kernel) rfl, ⟨by decide +kernel, by decide +kernel⟩, by decide +kernel, by decide⟩
theorem tk_v_X11_odds : tq_vok yX11_odds := ⟨tq_g (i := 2453) (by decide +kernel) rfl, tq_g (i := 2454) (by decide +kernel) rfl⟩
theorem tk_w_L_odds : Cond.codeWith yL_odds cL_odds 6 (some .int) [(0, 12, 15, 13)] ∈ tq_G ∧ Cond.initialized yL_odds.cls ∈ tq_G ∧ (yL_odds.cls ≠ "java/lang/invoke/MethodHandle" ∧ yL_odds.cls ≠ "java/lang/invoke/VarHandle") ∧ (parseMethodDescriptor yL_odds.desc).map (fun q => q.parameters.length) = some 5 ∧ 6 ≤ 19 := ⟨tq_g (i := 1740) (by decide +kernel) rfl, tq_g (i := 119) (by decide +kernel) rfl, ⟨by decide +kernel, by decide +kernel⟩, by decide +kernel, by decide⟩
theorem tk_s_L_odds : Cond.static yL_odds ∈ tq_G := tq_g (i := 1739) (by decide +kernel) rfl
theorem tk_RL_352 : Cond.methodLink RL 352 yL_hide ∈ tq_G := tq_g (i := 1750) (by decide +kernel) rfl
theorem tk_RL_354 : Cond.methodLink RL 354 yX11_hide ∈ tq_G := tq_g (i := 2460) (by decide +kernel) rfl
theorem tk_y_X11_hide : tq_yok yX11_hide cX11_hide 4 (some .boolean) 1 := ⟨tq_g (i := 2463) (by decide +kernel) rfl, tq_g (i := 133) (by decide +kernel) rfl, ⟨by decide +kernel, by decide +kernel⟩, by decide +kernel, by decide⟩
theorem tk_v_X11_hide : tq_vok yX11_hide := ⟨tq_g (i := 2461) (by decide +kernel) rfl, tq_g (i := 2462) (by decide +kernel) rfl⟩
theorem tk_w_L_hide : Cond.codeWith yL_hide cL_hide 4 (some .int) [(0, 16, 19, 13), (0, 16, 22, 17)] ∈ tq_G ∧ Cond.initialized yL_hide.cls ∈ tq_G ∧ (yL_hide.cls ≠ "java/lang/invoke/MethodHandle" ∧ yL_hide.cls ≠ "java/lang/invoke/VarHandle") ∧ (parseMethodDescriptor yL_hide.desc).map (fun q => q.parameters.length) = some 3 ∧ 4 ≤ 19 := ⟨tq_g (i := 1752) (by decide +kernel) rfl, tq_g (i := 119) (by decide +kernel) rfl, ⟨by decide +kernel, by decide +kernel⟩, by decide +kernel, by decide⟩
theorem tk_s_L_hide : Cond.static yL_hide ∈ tq_G := tq_g (i := 1751) (by decide +kernel) rfl
theorem tk_RL_355 : Cond.methodLink RL 355 yL_isSeen ∈ tq_G := tq_g (i := 1758) (by decide +kernel) rfl
theorem tk_RL_357 : Cond.methodLink RL 357 yX11_isSeen ∈ tq_G := tq_g (i := 2464) (by decide +kernel) rfl
theorem tk_y_X11_isSeen : tq_yok yX11_isSeen cX11_isSeen 2 (some .boolean) 1 := ⟨tq_g (i := 2467) (by decide +kernel) rfl, tq_g (i := 133) (by decide +kernel) rfl, ⟨by decide +kernel, by decide +kernel⟩, by decide +kernel, by decide⟩
theorem tk_v_X11_isSeen : tq_vok yX11_isSeen := ⟨tq_g (i := 2465) (by decide +kernel) rfl, tq_g (i := 2466) (by decide +kernel) rfl⟩
theorem tk_w_L_isSeen : Cond.codeWith yL_isSeen cL_isSeen 4 (some .int) [(0, 16, 19, 13)] ∈ tq_G ∧ Cond.initialized yL_isSeen.cls ∈ tq_G ∧ (yL_isSeen.cls ≠ "java/lang/invoke/MethodHandle" ∧ yL_isSeen.cls ≠ "java/lang/invoke/VarHandle") ∧ (parseMethodDescriptor yL_isSeen.desc).map (fun q => q.parameters.length) = some 3 ∧ 4 ≤ 19 := ⟨tq_g (i := 1760) (by decide +kernel) rfl, tq_g (i := 119) (by decide +kernel) rfl, ⟨by decide +kernel, by decide +kernel⟩, by decide +kernel, by decide⟩
theorem tk_s_L_isSeen : Cond.static yL_isSeen ∈ tq_G := tq_g (i := 1759) (by decide +kernel) rfl
theorem tk_RL_8 : Cond.classLink RL 8 RX10 ∈ tq_G := tq_g (i := 142) (by decide +kernel) rfl
theorem tk_in10 : Cond.instantiable RX10 19 ∈ tq_G := tq_g (i := 143) (by decide +kernel) rfl
theorem tk_ini10 : Cond.initialized RX10 ∈ tq_G := tq_g (i := 120) (by decide +kernel) rfl
theorem tk_RL_167 : Cond.methodLink RL 167 yX10_init ∈ tq_G := tq_g (i := 144) (by decide +kernel) rfl
theorem tk_RL_168 : Cond.classLink RL 168 RX11 ∈ tq_G := tq_g (i := 1765) (by decide +kernel) rfl
theorem tk_in11 : Cond.instantiable RX11 61 ∈ tq_G := tq_g (i := 1766) (by decide +kernel) rfl
theorem tk_ini11 : Cond.initialized RX11 ∈ tq_G := tq_g (i := 133) (by decide +kernel) rfl
theorem tk_RL_170 : Cond.methodLink RL 170 yX11_init ∈ tq_G := tq_g (i := 1767) (by decide +kernel) rfl
theorem tk_y_X11_init : tq_yok yX11_init cX11_init 2 none 0 := ⟨tq_g (i := 1769) (by decide +kernel) rfl, tq_g (i := 133) (by decide +kernel) rfl, ⟨by decide +kernel, by decide +kernel⟩, by decide +kernel, by decide⟩
theorem tk_v_X11_init : Cond.instanceMethod yX11_init ∈ tq_G := tq_g (i := 1768) (by decide +kernel) rfl
theorem tk_y_X10_init : tq_yok yX10_init cX10_init 1 none 0 := ⟨tq_g (i := 146) (by decide +kernel) rfl, tq_g (i := 120) (by decide +kernel) rfl, ⟨by decide +kernel, by decide +kernel⟩, by decide +kernel, by decide⟩
theorem tk_v_X10_init : Cond.instanceMethod yX10_init ∈ tq_G := tq_g (i := 145) (by decide +kernel) rfl
def f_L_law_c272 (n : Nat) (xs : Nat → Int32) (i1 i2 i3 : Nat) (y4 : Int32) (hh : tq_H) : Option ((Int32 × tq_H) ⊕ (Int32 × tq_H)) :=
  (tq_sx n xs (y4 + (1 : Int32))).bind fun x1 =>
  (tq_sx n xs (y4 + (2 : Int32))).bind fun x2 =>
  (tq_sx n xs (y4 + (3 : Int32))).bind fun x3 =>
  (f_L_insertElement i1 x1 x2 x3 i3 hh).bind fun v4 =>
  (tq_sx n xs (y4 + (1 : Int32))).bind fun x5 =>
  (tq_sx n xs (y4 + (2 : Int32))).bind fun x6 =>
  (tq_sx n xs (y4 + (3 : Int32))).bind fun x7 =>
  (tq_is v4.2 i2 11).bind fun _ =>
  (f_X11_insertElement i2 x5 x6 x7 v4.2).bind fun v8 =>
  (tq_is v8.2 i2 11).bind fun _ =>
  (f_X11_thrown i2 v8.2).bind fun v10 =>
  if v10 = v4.1 then
    if v4.1 = 0 then
      (tq_aj v8.2 i3 (0 : Int32)).bind fun x13 =>
      if (lg_cmp x13 (v8.1).toInt64) = 0 then
        tq_let (y4 + (5 : Int32)) fun x14 =>
        some (.inl (x14, v8.2))
      else
        some (.inr ((0 : Int32), v8.2))
    else
      tq_let (y4 + (5 : Int32)) fun x12 =>
      some (.inl (x12, v8.2))
  else
    some (.inr ((0 : Int32), v8.2))
set_option maxHeartbeats 4000000 in
set_option maxRecDepth 20000 in
theorem c_L_law_272 {l : Launch} {d : Nat} (hd9 : 10 ≤ d) {b n : Nat} {xs : Nat → Int32} {i1 i2 i3 : Nat} {y4 : Int32} {hh : tq_H} {Q : tq_R → tq_H → Prop} {bc bs : Nat} {oo : (Int32 × tq_H) ⊕ (Int32 × tq_H)} (hf : f_L_law_c272 n xs i1 i2 i3 y4 hh = some oo) (hc : ∀ s9, oo = .inl s9 → tq_W l (mL_law b n xs) d bc bs Q 23 [(0, .retAddr b), (1, .ref i1), (2, .ref i2), (3, .ref i3), (4, .int s9.1)] [] s9.2) (hx : ∀ e9, oo = .inr e9 → Q (.inl (some (.int e9.1))) e9.2) : tq_W l (mL_law b n xs) d (5 + bc) (30 + bs) Q 272 [(0, .retAddr b), (1, .ref i1), (2, .ref i2), (3, .ref i3), (4, .int y4)] [] hh := by
  refine tq_aload_n (M := mL_law b n xs) (pc := 272) dL_law_272 rfl ?_
  refine tq_xload (M := mL_law b n xs) (pc := 273) dL_law_273 rfl ?_
  refine tq_iload (M := mL_law b n xs) (pc := 274) dL_law_274 rfl ?_
  refine tq_iconst (M := mL_law b n xs) (pc := 276) dL_law_276 tk_ki_1 ?_
  refine tq_iadd (M := mL_law b n xs) (pc := 277) dL_law_277 ?_
  obtain ⟨x1, ex1, hf⟩ := tq_be hf
  refine tq_xld (M := mL_law b n xs) (pc := 278) dL_law_278 (n := n) (xs := xs) rfl ex1 ?_
  refine tq_xload (M := mL_law b n xs) (pc := 279) dL_law_279 rfl ?_
  refine tq_iload (M := mL_law b n xs) (pc := 280) dL_law_280 rfl ?_
  refine tq_iconst (M := mL_law b n xs) (pc := 282) dL_law_282 tk_ki_2 ?_
  refine tq_iadd (M := mL_law b n xs) (pc := 283) dL_law_283 ?_
  obtain ⟨x2, ex2, hf⟩ := tq_be hf
  refine tq_xld (M := mL_law b n xs) (pc := 284) dL_law_284 (n := n) (xs := xs) rfl ex2 ?_
  refine tq_xload (M := mL_law b n xs) (pc := 285) dL_law_285 rfl ?_
  refine tq_iload (M := mL_law b n xs) (pc := 286) dL_law_286 rfl ?_
  refine tq_iconst (M := mL_law b n xs) (pc := 288) dL_law_288 tk_ki_3 ?_
  refine tq_iadd (M := mL_law b n xs) (pc := 289) dL_law_289 ?_
  obtain ⟨x3, ex3, hf⟩ := tq_be hf
  refine tq_xld (M := mL_law b n xs) (pc := 290) dL_law_290 (n := n) (xs := xs) rfl ex3 ?_
  refine tq_aload_n (M := mL_law b n xs) (pc := 291) dL_law_291 rfl ?_
  obtain ⟨v4, ev4, hf⟩ := tq_be hf
  refine tq_calSW (M := mL_law b n xs) (pc := 292) (S := []) tk_w_L_insertElement.1 tk_w_L_insertElement.2.1 tk_w_L_insertElement.2.2.1 tk_w_L_insertElement.2.2.2.1 tk_w_L_insertElement.2.2.2.2 tk_s_L_insertElement tk_RL_171 dL_law_292 [.ref i1, .int x1, .int x2, .int x3, .ref i3] rfl (Nat.le_of_ble_eq_true rfl) (d1 := d - 1) (b1 := 5) (s1 := 30) (bc' := (0 + bc)) (bs' := (0 + bs)) (Q1 := fun r h9 => r = .inl (some (.int v4.1)) ∧ v4.2 = h9) (by omega) (by omega) (by omega) (w_L_insertElement (by omega) ev4 (fun _ _ q => q)) (fun E h9 q => nomatch (show (Sum.inr E : tq_R) = Sum.inl _ from q.1)) (fun r9 h9 q => ?_)
  obtain ⟨q1, rfl⟩ := q
  cases (show (Sum.inl r9 : tq_R) = Sum.inl (some (.int v4.1)) from q1)
  refine tq_istore (M := mL_law b n xs) (pc := 295) dL_law_295 (L2 := [(5, .int v4.1), (0, .retAddr b), (1, .ref i1), (2, .ref i2), (3, .ref i3), (4, .int y4)]) (Nat.le_of_ble_eq_true rfl) rfl ?_
  refine tq_aload_n (M := mL_law b n xs) (pc := 297) dL_law_297 rfl ?_
  refine tq_xload (M := mL_law b n xs) (pc := 298) dL_law_298 rfl ?_
  refine tq_iload (M := mL_law b n xs) (pc := 299) dL_law_299 rfl ?_
  refine tq_iconst (M := mL_law b n xs) (pc := 301) dL_law_301 tk_ki_1 ?_
  refine tq_iadd (M := mL_law b n xs) (pc := 302) dL_law_302 ?_
  obtain ⟨x5, ex5, hf⟩ := tq_be hf
  refine tq_xld (M := mL_law b n xs) (pc := 303) dL_law_303 (n := n) (xs := xs) rfl ex5 ?_
  refine tq_xload (M := mL_law b n xs) (pc := 304) dL_law_304 rfl ?_
  refine tq_iload (M := mL_law b n xs) (pc := 305) dL_law_305 rfl ?_
  refine tq_iconst (M := mL_law b n xs) (pc := 307) dL_law_307 tk_ki_2 ?_
  refine tq_iadd (M := mL_law b n xs) (pc := 308) dL_law_308 ?_
  obtain ⟨x6, ex6, hf⟩ := tq_be hf
  refine tq_xld (M := mL_law b n xs) (pc := 309) dL_law_309 (n := n) (xs := xs) rfl ex6 ?_
  refine tq_xload (M := mL_law b n xs) (pc := 310) dL_law_310 rfl ?_
  refine tq_iload (M := mL_law b n xs) (pc := 311) dL_law_311 rfl ?_
  refine tq_iconst (M := mL_law b n xs) (pc := 313) dL_law_313 tk_ki_3 ?_
  refine tq_iadd (M := mL_law b n xs) (pc := 314) dL_law_314 ?_
  obtain ⟨x7, ex7, hf⟩ := tq_be hf
  refine tq_xld (M := mL_law b n xs) (pc := 315) dL_law_315 (n := n) (xs := xs) rfl ex7 ?_
  obtain ⟨⟨⟩, eu9, hf⟩ := tq_be hf
  obtain ⟨fsu9, eu9⟩ := tq_is_s eu9
  obtain ⟨v8, ev8, hf⟩ := tq_be hf
  refine tq_calV (M := mL_law b n xs) (pc := 316) (S := []) tk_y_X11_insertElement tk_v_X11_insertElement tk_RL_176 dL_law_316 [.int x5, .int x6, .int x7] rfl (S0 := _) rfl eu9 rfl (Nat.le_of_ble_eq_true rfl) (d1 := d - 1) (b1 := 0) (s1 := 0) (bc' := (0 + bc)) (bs' := (0 + bs)) (Q1 := fun r h9 => r = .inl (some (.int v8.1)) ∧ v8.2 = h9) (by omega) (by omega) (by omega) (w_X11_insertElement (by omega) ev8 (fun _ _ q => q)) (fun E h9 q => nomatch (show (Sum.inr E : tq_R) = Sum.inl _ from q.1)) (fun r9 h9 q => ?_)
  obtain ⟨q1, rfl⟩ := q
  cases (show (Sum.inl r9 : tq_R) = Sum.inl (some (.int v8.1)) from q1)
  refine tq_istore (M := mL_law b n xs) (pc := 319) dL_law_319 (L2 := [(6, .int v8.1), (5, .int v4.1), (0, .retAddr b), (1, .ref i1), (2, .ref i2), (3, .ref i3), (4, .int y4)]) (Nat.le_of_ble_eq_true rfl) rfl ?_
  refine tq_aload_n (M := mL_law b n xs) (pc := 321) dL_law_321 rfl ?_
  obtain ⟨⟨⟩, eu11, hf⟩ := tq_be hf
  obtain ⟨fsu11, eu11⟩ := tq_is_s eu11
  obtain ⟨v10, ev10, hf⟩ := tq_be hf
  refine tq_calV (M := mL_law b n xs) (pc := 322) (S := []) tk_y_X11_thrown tk_v_X11_thrown tk_RL_177 dL_law_322 [] rfl (S0 := _) rfl eu11 rfl (Nat.le_of_ble_eq_true rfl) (d1 := d - 1) (b1 := 0) (s1 := 0) (bc' := (0 + bc)) (bs' := (0 + bs)) (Q1 := fun r h9 => r = .inl (some (.int v10)) ∧ v8.2 = h9) (by omega) (by omega) (by omega) (w_X11_thrown (by omega) ev10 (fun _ _ q => q)) (fun E h9 q => nomatch (show (Sum.inr E : tq_R) = Sum.inl _ from q.1)) (fun r9 h9 q => ?_)
  obtain ⟨q1, rfl⟩ := q
  cases (show (Sum.inl r9 : tq_R) = Sum.inl (some (.int v10)) from q1)
  refine tq_iload (M := mL_law b n xs) (pc := 325) dL_law_325 rfl ?_
  refine tq_icmp_eq (M := mL_law b n xs) (pc := 327) (tgt := 332) dL_law_327 (by decide) (fun cc => ?_) (fun cc => ?_)
  · have hf := tq_ifp hf cc
    refine tq_iload (M := mL_law b n xs) (pc := 332) dL_law_332 rfl ?_
    refine tq_if_ne (M := mL_law b n xs) (pc := 334) (tgt := 349) dL_law_334 (by decide) (fun cc => ?_) (fun cc => ?_)
    · have hf := tq_ifn hf cc
      refine tq_goto (M := mL_law b n xs) (pc := 349) (tgt := 3605) dL_law_349 (by decide) ?_
      obtain ⟨x12, ex12, hf⟩ := tq_le hf
      refine tq_iinc (M := mL_law b n xs) (pc := 3605) (v := x12) (L2 := [(4, .int x12), (6, .int v8.1), (5, .int v4.1), (0, .retAddr b), (1, .ref i1), (2, .ref i2), (3, .ref i3)]) dL_law_3605 rfl (by rw [ex12, tk_ki_5]) (Nat.le_of_ble_eq_true rfl) rfl ?_
      refine tq_goto (M := mL_law b n xs) (pc := 3608) (tgt := 23) dL_law_3608 (by decide) ?_
      refine tq_pick (L2 := [(0, .retAddr b), (1, .ref i1), (2, .ref i2), (3, .ref i3), (4, .int x12)]) [3, 4, 5, 6, 0] rfl ?_
      cases (Option.some.inj hf)
      exact tq_more (by omega) (by omega) (hc _ rfl)
    · have hf := tq_ifp hf cc
      refine tq_aload_n (M := mL_law b n xs) (pc := 337) dL_law_337 rfl ?_
      refine tq_iconst (M := mL_law b n xs) (pc := 338) dL_law_338 tk_ki_0 ?_
      obtain ⟨x13, ex13, hf⟩ := tq_be hf
      refine tq_laldF (M := mL_law b n xs) (pc := 339) dL_law_339 ex13 ?_
      refine tq_iload (M := mL_law b n xs) (pc := 340) dL_law_340 rfl ?_
      refine tq_i2l (M := mL_law b n xs) (pc := 342) dL_law_342 ?_
      refine tq_lcmp (M := mL_law b n xs) (pc := 343) dL_law_343 ?_
      refine tq_if_eq (M := mL_law b n xs) (pc := 344) (tgt := 349) dL_law_344 (by decide) (fun cc => ?_) (fun cc => ?_)
      · have hf := tq_ifp hf cc
        refine tq_goto (M := mL_law b n xs) (pc := 349) (tgt := 3605) dL_law_349 (by decide) ?_
        obtain ⟨x14, ex14, hf⟩ := tq_le hf
        refine tq_iinc (M := mL_law b n xs) (pc := 3605) (v := x14) (L2 := [(4, .int x14), (6, .int v8.1), (5, .int v4.1), (0, .retAddr b), (1, .ref i1), (2, .ref i2), (3, .ref i3)]) dL_law_3605 rfl (by rw [ex14, tk_ki_5]) (Nat.le_of_ble_eq_true rfl) rfl ?_
        refine tq_goto (M := mL_law b n xs) (pc := 3608) (tgt := 23) dL_law_3608 (by decide) ?_
        refine tq_pick (L2 := [(0, .retAddr b), (1, .ref i1), (2, .ref i2), (3, .ref i3), (4, .int x14)]) [3, 4, 5, 6, 0] rfl ?_
        cases (Option.some.inj hf)
        exact tq_more (by omega) (by omega) (hc _ rfl)
      · have hf := tq_ifn hf cc
        refine tq_iconst (M := mL_law b n xs) (pc := 347) dL_law_347 tk_ki_0 ?_
        refine tq_zret (M := mL_law b n xs) (pc := 348) dL_law_348 rfl (Or.inl rfl) ?_
        cases (Option.some.inj hf)
        exact hx _ rfl
  · have hf := tq_ifn hf cc
    refine tq_iconst (M := mL_law b n xs) (pc := 330) dL_law_330 tk_ki_0 ?_
    refine tq_zret (M := mL_law b n xs) (pc := 331) dL_law_331 rfl (Or.inl rfl) ?_
    cases (Option.some.inj hf)
    exact hx _ rfl
def f_L_law_c352 (n : Nat) (xs : Nat → Int32) (i1 i2 i3 : Nat) (y4 : Int32) (hh : tq_H) : Option ((Int32 × tq_H) ⊕ (Int32 × tq_H)) :=
  (tq_sx n xs (y4 + (1 : Int32))).bind fun x1 =>
  (tq_sx n xs (y4 + (2 : Int32))).bind fun x2 =>
  (tq_sx n xs (y4 + (3 : Int32))).bind fun x3 =>
  (f_L_insertText i1 x1 x2 x3 i3 hh).bind fun v4 =>
  (tq_sx n xs (y4 + (1 : Int32))).bind fun x5 =>
  (tq_sx n xs (y4 + (2 : Int32))).bind fun x6 =>
  (tq_sx n xs (y4 + (3 : Int32))).bind fun x7 =>
  (tq_is v4.2 i2 11).bind fun _ =>
  (f_X11_insertText i2 x5 x6 x7 v4.2).bind fun v8 =>
  (tq_is v8.2 i2 11).bind fun _ =>
  (f_X11_thrown i2 v8.2).bind fun v10 =>
  if v10 = v4.1 then
    if v4.1 = 0 then
      (tq_aj v8.2 i3 (0 : Int32)).bind fun x13 =>
      if (lg_cmp x13 (v8.1).toInt64) = 0 then
        tq_let (y4 + (5 : Int32)) fun x14 =>
        some (.inl (x14, v8.2))
      else
        some (.inr ((0 : Int32), v8.2))
    else
      tq_let (y4 + (5 : Int32)) fun x12 =>
      some (.inl (x12, v8.2))
  else
    some (.inr ((0 : Int32), v8.2))
set_option maxHeartbeats 4000000 in
set_option maxRecDepth 20000 in
theorem c_L_law_352 {l : Launch} {d : Nat} (hd9 : 10 ≤ d) {b n : Nat} {xs : Nat → Int32} {i1 i2 i3 : Nat} {y4 : Int32} {hh : tq_H} {Q : tq_R → tq_H → Prop} {bc bs : Nat} {oo : (Int32 × tq_H) ⊕ (Int32 × tq_H)} (hf : f_L_law_c352 n xs i1 i2 i3 y4 hh = some oo) (hc : ∀ s9, oo = .inl s9 → tq_W l (mL_law b n xs) d bc bs Q 23 [(0, .retAddr b), (1, .ref i1), (2, .ref i2), (3, .ref i3), (4, .int s9.1)] [] s9.2) (hx : ∀ e9, oo = .inr e9 → Q (.inl (some (.int e9.1))) e9.2) : tq_W l (mL_law b n xs) d (5 + bc) (30 + bs) Q 352 [(0, .retAddr b), (1, .ref i1), (2, .ref i2), (3, .ref i3), (4, .int y4)] [] hh := by
  refine tq_aload_n (M := mL_law b n xs) (pc := 352) dL_law_352 rfl ?_
  refine tq_xload (M := mL_law b n xs) (pc := 353) dL_law_353 rfl ?_
  refine tq_iload (M := mL_law b n xs) (pc := 354) dL_law_354 rfl ?_
  refine tq_iconst (M := mL_law b n xs) (pc := 356) dL_law_356 tk_ki_1 ?_
  refine tq_iadd (M := mL_law b n xs) (pc := 357) dL_law_357 ?_
  obtain ⟨x1, ex1, hf⟩ := tq_be hf
  refine tq_xld (M := mL_law b n xs) (pc := 358) dL_law_358 (n := n) (xs := xs) rfl ex1 ?_
  refine tq_xload (M := mL_law b n xs) (pc := 359) dL_law_359 rfl ?_
  refine tq_iload (M := mL_law b n xs) (pc := 360) dL_law_360 rfl ?_
  refine tq_iconst (M := mL_law b n xs) (pc := 362) dL_law_362 tk_ki_2 ?_
  refine tq_iadd (M := mL_law b n xs) (pc := 363) dL_law_363 ?_
  obtain ⟨x2, ex2, hf⟩ := tq_be hf
  refine tq_xld (M := mL_law b n xs) (pc := 364) dL_law_364 (n := n) (xs := xs) rfl ex2 ?_
  refine tq_xload (M := mL_law b n xs) (pc := 365) dL_law_365 rfl ?_
  refine tq_iload (M := mL_law b n xs) (pc := 366) dL_law_366 rfl ?_
  refine tq_iconst (M := mL_law b n xs) (pc := 368) dL_law_368 tk_ki_3 ?_
  refine tq_iadd (M := mL_law b n xs) (pc := 369) dL_law_369 ?_
  obtain ⟨x3, ex3, hf⟩ := tq_be hf
  refine tq_xld (M := mL_law b n xs) (pc := 370) dL_law_370 (n := n) (xs := xs) rfl ex3 ?_
  refine tq_aload_n (M := mL_law b n xs) (pc := 371) dL_law_371 rfl ?_
  obtain ⟨v4, ev4, hf⟩ := tq_be hf
  refine tq_calSW (M := mL_law b n xs) (pc := 372) (S := []) tk_w_L_insertText.1 tk_w_L_insertText.2.1 tk_w_L_insertText.2.2.1 tk_w_L_insertText.2.2.2.1 tk_w_L_insertText.2.2.2.2 tk_s_L_insertText tk_RL_180 dL_law_372 [.ref i1, .int x1, .int x2, .int x3, .ref i3] rfl (Nat.le_of_ble_eq_true rfl) (d1 := d - 1) (b1 := 5) (s1 := 30) (bc' := (0 + bc)) (bs' := (0 + bs)) (Q1 := fun r h9 => r = .inl (some (.int v4.1)) ∧ v4.2 = h9) (by omega) (by omega) (by omega) (w_L_insertText (by omega) ev4 (fun _ _ q => q)) (fun E h9 q => nomatch (show (Sum.inr E : tq_R) = Sum.inl _ from q.1)) (fun r9 h9 q => ?_)
  obtain ⟨q1, rfl⟩ := q
  cases (show (Sum.inl r9 : tq_R) = Sum.inl (some (.int v4.1)) from q1)
  refine tq_istore (M := mL_law b n xs) (pc := 375) dL_law_375 (L2 := [(5, .int v4.1), (0, .retAddr b), (1, .ref i1), (2, .ref i2), (3, .ref i3), (4, .int y4)]) (Nat.le_of_ble_eq_true rfl) rfl ?_
  refine tq_aload_n (M := mL_law b n xs) (pc := 377) dL_law_377 rfl ?_
  refine tq_xload (M := mL_law b n xs) (pc := 378) dL_law_378 rfl ?_
  refine tq_iload (M := mL_law b n xs) (pc := 379) dL_law_379 rfl ?_
  refine tq_iconst (M := mL_law b n xs) (pc := 381) dL_law_381 tk_ki_1 ?_
  refine tq_iadd (M := mL_law b n xs) (pc := 382) dL_law_382 ?_
  obtain ⟨x5, ex5, hf⟩ := tq_be hf
  refine tq_xld (M := mL_law b n xs) (pc := 383) dL_law_383 (n := n) (xs := xs) rfl ex5 ?_
  refine tq_xload (M := mL_law b n xs) (pc := 384) dL_law_384 rfl ?_
  refine tq_iload (M := mL_law b n xs) (pc := 385) dL_law_385 rfl ?_
  refine tq_iconst (M := mL_law b n xs) (pc := 387) dL_law_387 tk_ki_2 ?_
  refine tq_iadd (M := mL_law b n xs) (pc := 388) dL_law_388 ?_
  obtain ⟨x6, ex6, hf⟩ := tq_be hf
  refine tq_xld (M := mL_law b n xs) (pc := 389) dL_law_389 (n := n) (xs := xs) rfl ex6 ?_
  refine tq_xload (M := mL_law b n xs) (pc := 390) dL_law_390 rfl ?_
  refine tq_iload (M := mL_law b n xs) (pc := 391) dL_law_391 rfl ?_
  refine tq_iconst (M := mL_law b n xs) (pc := 393) dL_law_393 tk_ki_3 ?_
  refine tq_iadd (M := mL_law b n xs) (pc := 394) dL_law_394 ?_
  obtain ⟨x7, ex7, hf⟩ := tq_be hf
  refine tq_xld (M := mL_law b n xs) (pc := 395) dL_law_395 (n := n) (xs := xs) rfl ex7 ?_
  obtain ⟨⟨⟩, eu9, hf⟩ := tq_be hf
  obtain ⟨fsu9, eu9⟩ := tq_is_s eu9
  obtain ⟨v8, ev8, hf⟩ := tq_be hf
  refine tq_calV (M := mL_law b n xs) (pc := 396) (S := []) tk_y_X11_insertText tk_v_X11_insertText tk_RL_182 dL_law_396 [.int x5, .int x6, .int x7] rfl (S0 := _) rfl eu9 rfl (Nat.le_of_ble_eq_true rfl) (d1 := d - 1) (b1 := 0) (s1 := 0) (bc' := (0 + bc)) (bs' := (0 + bs)) (Q1 := fun r h9 => r = .inl (some (.int v8.1)) ∧ v8.2 = h9) (by omega) (by omega) (by omega) (w_X11_insertText (by omega) ev8 (fun _ _ q => q)) (fun E h9 q => nomatch (show (Sum.inr E : tq_R) = Sum.inl _ from q.1)) (fun r9 h9 q => ?_)
  obtain ⟨q1, rfl⟩ := q
  cases (show (Sum.inl r9 : tq_R) = Sum.inl (some (.int v8.1)) from q1)
  refine tq_istore (M := mL_law b n xs) (pc := 399) dL_law_399 (L2 := [(6, .int v8.1), (5, .int v4.1), (0, .retAddr b), (1, .ref i1), (2, .ref i2), (3, .ref i3), (4, .int y4)]) (Nat.le_of_ble_eq_true rfl) rfl ?_
  refine tq_aload_n (M := mL_law b n xs) (pc := 401) dL_law_401 rfl ?_
  obtain ⟨⟨⟩, eu11, hf⟩ := tq_be hf
  obtain ⟨fsu11, eu11⟩ := tq_is_s eu11
  obtain ⟨v10, ev10, hf⟩ := tq_be hf
  refine tq_calV (M := mL_law b n xs) (pc := 402) (S := []) tk_y_X11_thrown tk_v_X11_thrown tk_RL_177 dL_law_402 [] rfl (S0 := _) rfl eu11 rfl (Nat.le_of_ble_eq_true rfl) (d1 := d - 1) (b1 := 0) (s1 := 0) (bc' := (0 + bc)) (bs' := (0 + bs)) (Q1 := fun r h9 => r = .inl (some (.int v10)) ∧ v8.2 = h9) (by omega) (by omega) (by omega) (w_X11_thrown (by omega) ev10 (fun _ _ q => q)) (fun E h9 q => nomatch (show (Sum.inr E : tq_R) = Sum.inl _ from q.1)) (fun r9 h9 q => ?_)
  obtain ⟨q1, rfl⟩ := q
  cases (show (Sum.inl r9 : tq_R) = Sum.inl (some (.int v10)) from q1)
  refine tq_iload (M := mL_law b n xs) (pc := 405) dL_law_405 rfl ?_
  refine tq_icmp_eq (M := mL_law b n xs) (pc := 407) (tgt := 412) dL_law_407 (by decide) (fun cc => ?_) (fun cc => ?_)
  · have hf := tq_ifp hf cc
    refine tq_iload (M := mL_law b n xs) (pc := 412) dL_law_412 rfl ?_
    refine tq_if_ne (M := mL_law b n xs) (pc := 414) (tgt := 429) dL_law_414 (by decide) (fun cc => ?_) (fun cc => ?_)
    · have hf := tq_ifn hf cc
      refine tq_goto (M := mL_law b n xs) (pc := 429) (tgt := 3605) dL_law_429 (by decide) ?_
      obtain ⟨x12, ex12, hf⟩ := tq_le hf
      refine tq_iinc (M := mL_law b n xs) (pc := 3605) (v := x12) (L2 := [(4, .int x12), (6, .int v8.1), (5, .int v4.1), (0, .retAddr b), (1, .ref i1), (2, .ref i2), (3, .ref i3)]) dL_law_3605 rfl (by rw [ex12, tk_ki_5]) (Nat.le_of_ble_eq_true rfl) rfl ?_
      refine tq_goto (M := mL_law b n xs) (pc := 3608) (tgt := 23) dL_law_3608 (by decide) ?_
      refine tq_pick (L2 := [(0, .retAddr b), (1, .ref i1), (2, .ref i2), (3, .ref i3), (4, .int x12)]) [3, 4, 5, 6, 0] rfl ?_
      cases (Option.some.inj hf)
      exact tq_more (by omega) (by omega) (hc _ rfl)
    · have hf := tq_ifp hf cc
      refine tq_aload_n (M := mL_law b n xs) (pc := 417) dL_law_417 rfl ?_
      refine tq_iconst (M := mL_law b n xs) (pc := 418) dL_law_418 tk_ki_0 ?_
      obtain ⟨x13, ex13, hf⟩ := tq_be hf
      refine tq_laldF (M := mL_law b n xs) (pc := 419) dL_law_419 ex13 ?_
      refine tq_iload (M := mL_law b n xs) (pc := 420) dL_law_420 rfl ?_
      refine tq_i2l (M := mL_law b n xs) (pc := 422) dL_law_422 ?_
      refine tq_lcmp (M := mL_law b n xs) (pc := 423) dL_law_423 ?_
      refine tq_if_eq (M := mL_law b n xs) (pc := 424) (tgt := 429) dL_law_424 (by decide) (fun cc => ?_) (fun cc => ?_)
      · have hf := tq_ifp hf cc
        refine tq_goto (M := mL_law b n xs) (pc := 429) (tgt := 3605) dL_law_429 (by decide) ?_
        obtain ⟨x14, ex14, hf⟩ := tq_le hf
        refine tq_iinc (M := mL_law b n xs) (pc := 3605) (v := x14) (L2 := [(4, .int x14), (6, .int v8.1), (5, .int v4.1), (0, .retAddr b), (1, .ref i1), (2, .ref i2), (3, .ref i3)]) dL_law_3605 rfl (by rw [ex14, tk_ki_5]) (Nat.le_of_ble_eq_true rfl) rfl ?_
        refine tq_goto (M := mL_law b n xs) (pc := 3608) (tgt := 23) dL_law_3608 (by decide) ?_
        refine tq_pick (L2 := [(0, .retAddr b), (1, .ref i1), (2, .ref i2), (3, .ref i3), (4, .int x14)]) [3, 4, 5, 6, 0] rfl ?_
        cases (Option.some.inj hf)
        exact tq_more (by omega) (by omega) (hc _ rfl)
      · have hf := tq_ifn hf cc
        refine tq_iconst (M := mL_law b n xs) (pc := 427) dL_law_427 tk_ki_0 ?_
        refine tq_zret (M := mL_law b n xs) (pc := 428) dL_law_428 rfl (Or.inl rfl) ?_
        cases (Option.some.inj hf)
        exact hx _ rfl
  · have hf := tq_ifn hf cc
    refine tq_iconst (M := mL_law b n xs) (pc := 410) dL_law_410 tk_ki_0 ?_
    refine tq_zret (M := mL_law b n xs) (pc := 411) dL_law_411 rfl (Or.inl rfl) ?_
    cases (Option.some.inj hf)
    exact hx _ rfl
def f_L_law_c432 (n : Nat) (xs : Nat → Int32) (i1 i2 i3 : Nat) (y4 : Int32) (hh : tq_H) : Option ((Int32 × tq_H) ⊕ (Int32 × tq_H)) :=
  (tq_sx n xs (y4 + (1 : Int32))).bind fun x1 =>
  (tq_sx n xs (y4 + (2 : Int32))).bind fun x2 =>
  (tq_sx n xs (y4 + (3 : Int32))).bind fun x3 =>
  (f_L_insertAttribute i1 x1 x2 x3 i3 hh).bind fun v4 =>
  (tq_sx n xs (y4 + (1 : Int32))).bind fun x5 =>
  (tq_sx n xs (y4 + (2 : Int32))).bind fun x6 =>
  (tq_sx n xs (y4 + (3 : Int32))).bind fun x7 =>
  (tq_is v4.2 i2 11).bind fun _ =>
  (f_X11_insertAttribute i2 x5 x6 x7 v4.2).bind fun v8 =>
  (tq_is v8.2 i2 11).bind fun _ =>
  (f_X11_thrown i2 v8.2).bind fun v10 =>
  if v10 = v4.1 then
    if v4.1 = 0 then
      (tq_aj v8.2 i3 (0 : Int32)).bind fun x13 =>
      if (lg_cmp x13 (v8.1).toInt64) = 0 then
        tq_let (y4 + (5 : Int32)) fun x14 =>
        some (.inl (x14, v8.2))
      else
        some (.inr ((0 : Int32), v8.2))
    else
      tq_let (y4 + (5 : Int32)) fun x12 =>
      some (.inl (x12, v8.2))
  else
    some (.inr ((0 : Int32), v8.2))
set_option maxHeartbeats 4000000 in
set_option maxRecDepth 20000 in
theorem c_L_law_432 {l : Launch} {d : Nat} (hd9 : 10 ≤ d) {b n : Nat} {xs : Nat → Int32} {i1 i2 i3 : Nat} {y4 : Int32} {hh : tq_H} {Q : tq_R → tq_H → Prop} {bc bs : Nat} {oo : (Int32 × tq_H) ⊕ (Int32 × tq_H)} (hf : f_L_law_c432 n xs i1 i2 i3 y4 hh = some oo) (hc : ∀ s9, oo = .inl s9 → tq_W l (mL_law b n xs) d bc bs Q 23 [(0, .retAddr b), (1, .ref i1), (2, .ref i2), (3, .ref i3), (4, .int s9.1)] [] s9.2) (hx : ∀ e9, oo = .inr e9 → Q (.inl (some (.int e9.1))) e9.2) : tq_W l (mL_law b n xs) d (5 + bc) (30 + bs) Q 432 [(0, .retAddr b), (1, .ref i1), (2, .ref i2), (3, .ref i3), (4, .int y4)] [] hh := by
  refine tq_aload_n (M := mL_law b n xs) (pc := 432) dL_law_432 rfl ?_
  refine tq_xload (M := mL_law b n xs) (pc := 433) dL_law_433 rfl ?_
  refine tq_iload (M := mL_law b n xs) (pc := 434) dL_law_434 rfl ?_
  refine tq_iconst (M := mL_law b n xs) (pc := 436) dL_law_436 tk_ki_1 ?_
  refine tq_iadd (M := mL_law b n xs) (pc := 437) dL_law_437 ?_
  obtain ⟨x1, ex1, hf⟩ := tq_be hf
  refine tq_xld (M := mL_law b n xs) (pc := 438) dL_law_438 (n := n) (xs := xs) rfl ex1 ?_
  refine tq_xload (M := mL_law b n xs) (pc := 439) dL_law_439 rfl ?_
  refine tq_iload (M := mL_law b n xs) (pc := 440) dL_law_440 rfl ?_
  refine tq_iconst (M := mL_law b n xs) (pc := 442) dL_law_442 tk_ki_2 ?_
  refine tq_iadd (M := mL_law b n xs) (pc := 443) dL_law_443 ?_
  obtain ⟨x2, ex2, hf⟩ := tq_be hf
  refine tq_xld (M := mL_law b n xs) (pc := 444) dL_law_444 (n := n) (xs := xs) rfl ex2 ?_
  refine tq_xload (M := mL_law b n xs) (pc := 445) dL_law_445 rfl ?_
  refine tq_iload (M := mL_law b n xs) (pc := 446) dL_law_446 rfl ?_
  refine tq_iconst (M := mL_law b n xs) (pc := 448) dL_law_448 tk_ki_3 ?_
  refine tq_iadd (M := mL_law b n xs) (pc := 449) dL_law_449 ?_
  obtain ⟨x3, ex3, hf⟩ := tq_be hf
  refine tq_xld (M := mL_law b n xs) (pc := 450) dL_law_450 (n := n) (xs := xs) rfl ex3 ?_
  refine tq_aload_n (M := mL_law b n xs) (pc := 451) dL_law_451 rfl ?_
  obtain ⟨v4, ev4, hf⟩ := tq_be hf
  refine tq_calSW (M := mL_law b n xs) (pc := 452) (S := []) tk_w_L_insertAttribute.1 tk_w_L_insertAttribute.2.1 tk_w_L_insertAttribute.2.2.1 tk_w_L_insertAttribute.2.2.2.1 tk_w_L_insertAttribute.2.2.2.2 tk_s_L_insertAttribute tk_RL_183 dL_law_452 [.ref i1, .int x1, .int x2, .int x3, .ref i3] rfl (Nat.le_of_ble_eq_true rfl) (d1 := d - 1) (b1 := 5) (s1 := 30) (bc' := (0 + bc)) (bs' := (0 + bs)) (Q1 := fun r h9 => r = .inl (some (.int v4.1)) ∧ v4.2 = h9) (by omega) (by omega) (by omega) (w_L_insertAttribute (by omega) ev4 (fun _ _ q => q)) (fun E h9 q => nomatch (show (Sum.inr E : tq_R) = Sum.inl _ from q.1)) (fun r9 h9 q => ?_)
  obtain ⟨q1, rfl⟩ := q
  cases (show (Sum.inl r9 : tq_R) = Sum.inl (some (.int v4.1)) from q1)
  refine tq_istore (M := mL_law b n xs) (pc := 455) dL_law_455 (L2 := [(5, .int v4.1), (0, .retAddr b), (1, .ref i1), (2, .ref i2), (3, .ref i3), (4, .int y4)]) (Nat.le_of_ble_eq_true rfl) rfl ?_
  refine tq_aload_n (M := mL_law b n xs) (pc := 457) dL_law_457 rfl ?_
  refine tq_xload (M := mL_law b n xs) (pc := 458) dL_law_458 rfl ?_
  refine tq_iload (M := mL_law b n xs) (pc := 459) dL_law_459 rfl ?_
  refine tq_iconst (M := mL_law b n xs) (pc := 461) dL_law_461 tk_ki_1 ?_
  refine tq_iadd (M := mL_law b n xs) (pc := 462) dL_law_462 ?_
  obtain ⟨x5, ex5, hf⟩ := tq_be hf
  refine tq_xld (M := mL_law b n xs) (pc := 463) dL_law_463 (n := n) (xs := xs) rfl ex5 ?_
  refine tq_xload (M := mL_law b n xs) (pc := 464) dL_law_464 rfl ?_
  refine tq_iload (M := mL_law b n xs) (pc := 465) dL_law_465 rfl ?_
  refine tq_iconst (M := mL_law b n xs) (pc := 467) dL_law_467 tk_ki_2 ?_
  refine tq_iadd (M := mL_law b n xs) (pc := 468) dL_law_468 ?_
  obtain ⟨x6, ex6, hf⟩ := tq_be hf
  refine tq_xld (M := mL_law b n xs) (pc := 469) dL_law_469 (n := n) (xs := xs) rfl ex6 ?_
  refine tq_xload (M := mL_law b n xs) (pc := 470) dL_law_470 rfl ?_
  refine tq_iload (M := mL_law b n xs) (pc := 471) dL_law_471 rfl ?_
  refine tq_iconst (M := mL_law b n xs) (pc := 473) dL_law_473 tk_ki_3 ?_
  refine tq_iadd (M := mL_law b n xs) (pc := 474) dL_law_474 ?_
  obtain ⟨x7, ex7, hf⟩ := tq_be hf
  refine tq_xld (M := mL_law b n xs) (pc := 475) dL_law_475 (n := n) (xs := xs) rfl ex7 ?_
  obtain ⟨⟨⟩, eu9, hf⟩ := tq_be hf
  obtain ⟨fsu9, eu9⟩ := tq_is_s eu9
  obtain ⟨v8, ev8, hf⟩ := tq_be hf
  refine tq_calV (M := mL_law b n xs) (pc := 476) (S := []) tk_y_X11_insertAttribute tk_v_X11_insertAttribute tk_RL_185 dL_law_476 [.int x5, .int x6, .int x7] rfl (S0 := _) rfl eu9 rfl (Nat.le_of_ble_eq_true rfl) (d1 := d - 1) (b1 := 0) (s1 := 0) (bc' := (0 + bc)) (bs' := (0 + bs)) (Q1 := fun r h9 => r = .inl (some (.int v8.1)) ∧ v8.2 = h9) (by omega) (by omega) (by omega) (w_X11_insertAttribute (by omega) ev8 (fun _ _ q => q)) (fun E h9 q => nomatch (show (Sum.inr E : tq_R) = Sum.inl _ from q.1)) (fun r9 h9 q => ?_)
  obtain ⟨q1, rfl⟩ := q
  cases (show (Sum.inl r9 : tq_R) = Sum.inl (some (.int v8.1)) from q1)
  refine tq_istore (M := mL_law b n xs) (pc := 479) dL_law_479 (L2 := [(6, .int v8.1), (5, .int v4.1), (0, .retAddr b), (1, .ref i1), (2, .ref i2), (3, .ref i3), (4, .int y4)]) (Nat.le_of_ble_eq_true rfl) rfl ?_
  refine tq_aload_n (M := mL_law b n xs) (pc := 481) dL_law_481 rfl ?_
  obtain ⟨⟨⟩, eu11, hf⟩ := tq_be hf
  obtain ⟨fsu11, eu11⟩ := tq_is_s eu11
  obtain ⟨v10, ev10, hf⟩ := tq_be hf
  refine tq_calV (M := mL_law b n xs) (pc := 482) (S := []) tk_y_X11_thrown tk_v_X11_thrown tk_RL_177 dL_law_482 [] rfl (S0 := _) rfl eu11 rfl (Nat.le_of_ble_eq_true rfl) (d1 := d - 1) (b1 := 0) (s1 := 0) (bc' := (0 + bc)) (bs' := (0 + bs)) (Q1 := fun r h9 => r = .inl (some (.int v10)) ∧ v8.2 = h9) (by omega) (by omega) (by omega) (w_X11_thrown (by omega) ev10 (fun _ _ q => q)) (fun E h9 q => nomatch (show (Sum.inr E : tq_R) = Sum.inl _ from q.1)) (fun r9 h9 q => ?_)
  obtain ⟨q1, rfl⟩ := q
  cases (show (Sum.inl r9 : tq_R) = Sum.inl (some (.int v10)) from q1)
  refine tq_iload (M := mL_law b n xs) (pc := 485) dL_law_485 rfl ?_
  refine tq_icmp_eq (M := mL_law b n xs) (pc := 487) (tgt := 492) dL_law_487 (by decide) (fun cc => ?_) (fun cc => ?_)
  · have hf := tq_ifp hf cc
    refine tq_iload (M := mL_law b n xs) (pc := 492) dL_law_492 rfl ?_
    refine tq_if_ne (M := mL_law b n xs) (pc := 494) (tgt := 509) dL_law_494 (by decide) (fun cc => ?_) (fun cc => ?_)
    · have hf := tq_ifn hf cc
      refine tq_goto (M := mL_law b n xs) (pc := 509) (tgt := 3605) dL_law_509 (by decide) ?_
      obtain ⟨x12, ex12, hf⟩ := tq_le hf
      refine tq_iinc (M := mL_law b n xs) (pc := 3605) (v := x12) (L2 := [(4, .int x12), (6, .int v8.1), (5, .int v4.1), (0, .retAddr b), (1, .ref i1), (2, .ref i2), (3, .ref i3)]) dL_law_3605 rfl (by rw [ex12, tk_ki_5]) (Nat.le_of_ble_eq_true rfl) rfl ?_
      refine tq_goto (M := mL_law b n xs) (pc := 3608) (tgt := 23) dL_law_3608 (by decide) ?_
      refine tq_pick (L2 := [(0, .retAddr b), (1, .ref i1), (2, .ref i2), (3, .ref i3), (4, .int x12)]) [3, 4, 5, 6, 0] rfl ?_
      cases (Option.some.inj hf)
      exact tq_more (by omega) (by omega) (hc _ rfl)
    · have hf := tq_ifp hf cc
      refine tq_aload_n (M := mL_law b n xs) (pc := 497) dL_law_497 rfl ?_
      refine tq_iconst (M := mL_law b n xs) (pc := 498) dL_law_498 tk_ki_0 ?_
      obtain ⟨x13, ex13, hf⟩ := tq_be hf
      refine tq_laldF (M := mL_law b n xs) (pc := 499) dL_law_499 ex13 ?_
      refine tq_iload (M := mL_law b n xs) (pc := 500) dL_law_500 rfl ?_
      refine tq_i2l (M := mL_law b n xs) (pc := 502) dL_law_502 ?_
      refine tq_lcmp (M := mL_law b n xs) (pc := 503) dL_law_503 ?_
      refine tq_if_eq (M := mL_law b n xs) (pc := 504) (tgt := 509) dL_law_504 (by decide) (fun cc => ?_) (fun cc => ?_)
      · have hf := tq_ifp hf cc
        refine tq_goto (M := mL_law b n xs) (pc := 509) (tgt := 3605) dL_law_509 (by decide) ?_
        obtain ⟨x14, ex14, hf⟩ := tq_le hf
        refine tq_iinc (M := mL_law b n xs) (pc := 3605) (v := x14) (L2 := [(4, .int x14), (6, .int v8.1), (5, .int v4.1), (0, .retAddr b), (1, .ref i1), (2, .ref i2), (3, .ref i3)]) dL_law_3605 rfl (by rw [ex14, tk_ki_5]) (Nat.le_of_ble_eq_true rfl) rfl ?_
        refine tq_goto (M := mL_law b n xs) (pc := 3608) (tgt := 23) dL_law_3608 (by decide) ?_
        refine tq_pick (L2 := [(0, .retAddr b), (1, .ref i1), (2, .ref i2), (3, .ref i3), (4, .int x14)]) [3, 4, 5, 6, 0] rfl ?_
        cases (Option.some.inj hf)
        exact tq_more (by omega) (by omega) (hc _ rfl)
      · have hf := tq_ifn hf cc
        refine tq_iconst (M := mL_law b n xs) (pc := 507) dL_law_507 tk_ki_0 ?_
        refine tq_zret (M := mL_law b n xs) (pc := 508) dL_law_508 rfl (Or.inl rfl) ?_
        cases (Option.some.inj hf)
        exact hx _ rfl
  · have hf := tq_ifn hf cc
    refine tq_iconst (M := mL_law b n xs) (pc := 490) dL_law_490 tk_ki_0 ?_
    refine tq_zret (M := mL_law b n xs) (pc := 491) dL_law_491 rfl (Or.inl rfl) ?_
    cases (Option.some.inj hf)
    exact hx _ rfl
def f_L_law_c512 (n : Nat) (xs : Nat → Int32) (i1 i2 i3 : Nat) (y4 : Int32) (hh : tq_H) : Option ((Int32 × tq_H) ⊕ (Int32 × tq_H)) :=
  (tq_sx n xs (y4 + (1 : Int32))).bind fun x1 =>
  (f_L_remove i1 x1 i3 hh).bind fun v2 =>
  (tq_sx n xs (y4 + (1 : Int32))).bind fun x3 =>
  (tq_is v2.2 i2 11).bind fun _ =>
  (f_X11_remove i2 x3 v2.2).bind fun v4 =>
  (tq_is v4.2 i2 11).bind fun _ =>
  (f_X11_thrown i2 v4.2).bind fun v6 =>
  if v6 = v2.1 then
    if v2.1 = 0 then
      (tq_aj v4.2 i3 (0 : Int32)).bind fun x9 =>
      if (lg_cmp x9 (v4.1).toInt64) = 0 then
        tq_let (y4 + (5 : Int32)) fun x10 =>
        some (.inl (x10, v4.2))
      else
        some (.inr ((0 : Int32), v4.2))
    else
      tq_let (y4 + (5 : Int32)) fun x8 =>
      some (.inl (x8, v4.2))
  else
    some (.inr ((0 : Int32), v4.2))
set_option maxHeartbeats 4000000 in
set_option maxRecDepth 20000 in
theorem c_L_law_512 {l : Launch} {d : Nat} (hd9 : 10 ≤ d) {b n : Nat} {xs : Nat → Int32} {i1 i2 i3 : Nat} {y4 : Int32} {hh : tq_H} {Q : tq_R → tq_H → Prop} {bc bs : Nat} {oo : (Int32 × tq_H) ⊕ (Int32 × tq_H)} (hf : f_L_law_c512 n xs i1 i2 i3 y4 hh = some oo) (hc : ∀ s9, oo = .inl s9 → tq_W l (mL_law b n xs) d bc bs Q 23 [(0, .retAddr b), (1, .ref i1), (2, .ref i2), (3, .ref i3), (4, .int s9.1)] [] s9.2) (hx : ∀ e9, oo = .inr e9 → Q (.inl (some (.int e9.1))) e9.2) : tq_W l (mL_law b n xs) d (3 + bc) (18 + bs) Q 512 [(0, .retAddr b), (1, .ref i1), (2, .ref i2), (3, .ref i3), (4, .int y4)] [] hh := by
  refine tq_aload_n (M := mL_law b n xs) (pc := 512) dL_law_512 rfl ?_
  refine tq_xload (M := mL_law b n xs) (pc := 513) dL_law_513 rfl ?_
  refine tq_iload (M := mL_law b n xs) (pc := 514) dL_law_514 rfl ?_
  refine tq_iconst (M := mL_law b n xs) (pc := 516) dL_law_516 tk_ki_1 ?_
  refine tq_iadd (M := mL_law b n xs) (pc := 517) dL_law_517 ?_
  obtain ⟨x1, ex1, hf⟩ := tq_be hf
  refine tq_xld (M := mL_law b n xs) (pc := 518) dL_law_518 (n := n) (xs := xs) rfl ex1 ?_
  refine tq_aload_n (M := mL_law b n xs) (pc := 519) dL_law_519 rfl ?_
  obtain ⟨v2, ev2, hf⟩ := tq_be hf
  refine tq_calSW (M := mL_law b n xs) (pc := 520) (S := []) tk_w_L_remove.1 tk_w_L_remove.2.1 tk_w_L_remove.2.2.1 tk_w_L_remove.2.2.2.1 tk_w_L_remove.2.2.2.2 tk_s_L_remove tk_RL_186 dL_law_520 [.ref i1, .int x1, .ref i3] rfl (Nat.le_of_ble_eq_true rfl) (d1 := d - 1) (b1 := 3) (s1 := 18) (bc' := (0 + bc)) (bs' := (0 + bs)) (Q1 := fun r h9 => r = .inl (some (.int v2.1)) ∧ v2.2 = h9) (by omega) (by omega) (by omega) (w_L_remove (by omega) ev2 (fun _ _ q => q)) (fun E h9 q => nomatch (show (Sum.inr E : tq_R) = Sum.inl _ from q.1)) (fun r9 h9 q => ?_)
  obtain ⟨q1, rfl⟩ := q
  cases (show (Sum.inl r9 : tq_R) = Sum.inl (some (.int v2.1)) from q1)
  refine tq_istore (M := mL_law b n xs) (pc := 523) dL_law_523 (L2 := [(5, .int v2.1), (0, .retAddr b), (1, .ref i1), (2, .ref i2), (3, .ref i3), (4, .int y4)]) (Nat.le_of_ble_eq_true rfl) rfl ?_
  refine tq_aload_n (M := mL_law b n xs) (pc := 525) dL_law_525 rfl ?_
  refine tq_xload (M := mL_law b n xs) (pc := 526) dL_law_526 rfl ?_
  refine tq_iload (M := mL_law b n xs) (pc := 527) dL_law_527 rfl ?_
  refine tq_iconst (M := mL_law b n xs) (pc := 529) dL_law_529 tk_ki_1 ?_
  refine tq_iadd (M := mL_law b n xs) (pc := 530) dL_law_530 ?_
  obtain ⟨x3, ex3, hf⟩ := tq_be hf
  refine tq_xld (M := mL_law b n xs) (pc := 531) dL_law_531 (n := n) (xs := xs) rfl ex3 ?_
  obtain ⟨⟨⟩, eu5, hf⟩ := tq_be hf
  obtain ⟨fsu5, eu5⟩ := tq_is_s eu5
  obtain ⟨v4, ev4, hf⟩ := tq_be hf
  refine tq_calV (M := mL_law b n xs) (pc := 532) (S := []) tk_y_X11_remove tk_v_X11_remove tk_RL_189 dL_law_532 [.int x3] rfl (S0 := _) rfl eu5 rfl (Nat.le_of_ble_eq_true rfl) (d1 := d - 1) (b1 := 0) (s1 := 0) (bc' := (0 + bc)) (bs' := (0 + bs)) (Q1 := fun r h9 => r = .inl (some (.int v4.1)) ∧ v4.2 = h9) (by omega) (by omega) (by omega) (w_X11_remove (by omega) ev4 (fun _ _ q => q)) (fun E h9 q => nomatch (show (Sum.inr E : tq_R) = Sum.inl _ from q.1)) (fun r9 h9 q => ?_)
  obtain ⟨q1, rfl⟩ := q
  cases (show (Sum.inl r9 : tq_R) = Sum.inl (some (.int v4.1)) from q1)
  refine tq_istore (M := mL_law b n xs) (pc := 535) dL_law_535 (L2 := [(6, .int v4.1), (5, .int v2.1), (0, .retAddr b), (1, .ref i1), (2, .ref i2), (3, .ref i3), (4, .int y4)]) (Nat.le_of_ble_eq_true rfl) rfl ?_
  refine tq_aload_n (M := mL_law b n xs) (pc := 537) dL_law_537 rfl ?_
  obtain ⟨⟨⟩, eu7, hf⟩ := tq_be hf
  obtain ⟨fsu7, eu7⟩ := tq_is_s eu7
  obtain ⟨v6, ev6, hf⟩ := tq_be hf
  refine tq_calV (M := mL_law b n xs) (pc := 538) (S := []) tk_y_X11_thrown tk_v_X11_thrown tk_RL_177 dL_law_538 [] rfl (S0 := _) rfl eu7 rfl (Nat.le_of_ble_eq_true rfl) (d1 := d - 1) (b1 := 0) (s1 := 0) (bc' := (0 + bc)) (bs' := (0 + bs)) (Q1 := fun r h9 => r = .inl (some (.int v6)) ∧ v4.2 = h9) (by omega) (by omega) (by omega) (w_X11_thrown (by omega) ev6 (fun _ _ q => q)) (fun E h9 q => nomatch (show (Sum.inr E : tq_R) = Sum.inl _ from q.1)) (fun r9 h9 q => ?_)
  obtain ⟨q1, rfl⟩ := q
  cases (show (Sum.inl r9 : tq_R) = Sum.inl (some (.int v6)) from q1)
  refine tq_iload (M := mL_law b n xs) (pc := 541) dL_law_541 rfl ?_
  refine tq_icmp_eq (M := mL_law b n xs) (pc := 543) (tgt := 548) dL_law_543 (by decide) (fun cc => ?_) (fun cc => ?_)
  · have hf := tq_ifp hf cc
    refine tq_iload (M := mL_law b n xs) (pc := 548) dL_law_548 rfl ?_
    refine tq_if_ne (M := mL_law b n xs) (pc := 550) (tgt := 565) dL_law_550 (by decide) (fun cc => ?_) (fun cc => ?_)
    · have hf := tq_ifn hf cc
      refine tq_goto (M := mL_law b n xs) (pc := 565) (tgt := 3605) dL_law_565 (by decide) ?_
      obtain ⟨x8, ex8, hf⟩ := tq_le hf
      refine tq_iinc (M := mL_law b n xs) (pc := 3605) (v := x8) (L2 := [(4, .int x8), (6, .int v4.1), (5, .int v2.1), (0, .retAddr b), (1, .ref i1), (2, .ref i2), (3, .ref i3)]) dL_law_3605 rfl (by rw [ex8, tk_ki_5]) (Nat.le_of_ble_eq_true rfl) rfl ?_
      refine tq_goto (M := mL_law b n xs) (pc := 3608) (tgt := 23) dL_law_3608 (by decide) ?_
      refine tq_pick (L2 := [(0, .retAddr b), (1, .ref i1), (2, .ref i2), (3, .ref i3), (4, .int x8)]) [3, 4, 5, 6, 0] rfl ?_
      cases (Option.some.inj hf)
      exact tq_more (by omega) (by omega) (hc _ rfl)
    · have hf := tq_ifp hf cc
      refine tq_aload_n (M := mL_law b n xs) (pc := 553) dL_law_553 rfl ?_
      refine tq_iconst (M := mL_law b n xs) (pc := 554) dL_law_554 tk_ki_0 ?_
      obtain ⟨x9, ex9, hf⟩ := tq_be hf
      refine tq_laldF (M := mL_law b n xs) (pc := 555) dL_law_555 ex9 ?_
      refine tq_iload (M := mL_law b n xs) (pc := 556) dL_law_556 rfl ?_
      refine tq_i2l (M := mL_law b n xs) (pc := 558) dL_law_558 ?_
      refine tq_lcmp (M := mL_law b n xs) (pc := 559) dL_law_559 ?_
      refine tq_if_eq (M := mL_law b n xs) (pc := 560) (tgt := 565) dL_law_560 (by decide) (fun cc => ?_) (fun cc => ?_)
      · have hf := tq_ifp hf cc
        refine tq_goto (M := mL_law b n xs) (pc := 565) (tgt := 3605) dL_law_565 (by decide) ?_
        obtain ⟨x10, ex10, hf⟩ := tq_le hf
        refine tq_iinc (M := mL_law b n xs) (pc := 3605) (v := x10) (L2 := [(4, .int x10), (6, .int v4.1), (5, .int v2.1), (0, .retAddr b), (1, .ref i1), (2, .ref i2), (3, .ref i3)]) dL_law_3605 rfl (by rw [ex10, tk_ki_5]) (Nat.le_of_ble_eq_true rfl) rfl ?_
        refine tq_goto (M := mL_law b n xs) (pc := 3608) (tgt := 23) dL_law_3608 (by decide) ?_
        refine tq_pick (L2 := [(0, .retAddr b), (1, .ref i1), (2, .ref i2), (3, .ref i3), (4, .int x10)]) [3, 4, 5, 6, 0] rfl ?_
        cases (Option.some.inj hf)
        exact tq_more (by omega) (by omega) (hc _ rfl)
      · have hf := tq_ifn hf cc
        refine tq_iconst (M := mL_law b n xs) (pc := 563) dL_law_563 tk_ki_0 ?_
        refine tq_zret (M := mL_law b n xs) (pc := 564) dL_law_564 rfl (Or.inl rfl) ?_
        cases (Option.some.inj hf)
        exact hx _ rfl
  · have hf := tq_ifn hf cc
    refine tq_iconst (M := mL_law b n xs) (pc := 546) dL_law_546 tk_ki_0 ?_
    refine tq_zret (M := mL_law b n xs) (pc := 547) dL_law_547 rfl (Or.inl rfl) ?_
    cases (Option.some.inj hf)
    exact hx _ rfl
def f_L_law_c568 (n : Nat) (xs : Nat → Int32) (i1 i2 i3 : Nat) (y4 : Int32) (hh : tq_H) : Option ((Int32 × tq_H) ⊕ (Int32 × tq_H)) :=
  (tq_sx n xs (y4 + (1 : Int32))).bind fun x1 =>
  (tq_sx n xs (y4 + (2 : Int32))).bind fun x2 =>
  (f_L_rename i1 x1 x2 i3 hh).bind fun v3 =>
  (tq_sx n xs (y4 + (1 : Int32))).bind fun x4 =>
  (tq_sx n xs (y4 + (2 : Int32))).bind fun x5 =>
  (tq_is v3.2 i2 11).bind fun _ =>
  (f_X11_rename i2 x4 x5 v3.2).bind fun v6 =>
  (tq_is v6.2 i2 11).bind fun _ =>
  (f_X11_thrown i2 v6.2).bind fun v8 =>
  if v8 = v3.1 then
    if v3.1 = 0 then
      (tq_aj v6.2 i3 (0 : Int32)).bind fun x11 =>
      if (lg_cmp x11 (v6.1).toInt64) = 0 then
        tq_let (y4 + (5 : Int32)) fun x12 =>
        some (.inl (x12, v6.2))
      else
        some (.inr ((0 : Int32), v6.2))
    else
      tq_let (y4 + (5 : Int32)) fun x10 =>
      some (.inl (x10, v6.2))
  else
    some (.inr ((0 : Int32), v6.2))
set_option maxHeartbeats 4000000 in
set_option maxRecDepth 20000 in
theorem c_L_law_568 {l : Launch} {d : Nat} (hd9 : 10 ≤ d) {b n : Nat} {xs : Nat → Int32} {i1 i2 i3 : Nat} {y4 : Int32} {hh : tq_H} {Q : tq_R → tq_H → Prop} {bc bs : Nat} {oo : (Int32 × tq_H) ⊕ (Int32 × tq_H)} (hf : f_L_law_c568 n xs i1 i2 i3 y4 hh = some oo) (hc : ∀ s9, oo = .inl s9 → tq_W l (mL_law b n xs) d bc bs Q 23 [(0, .retAddr b), (1, .ref i1), (2, .ref i2), (3, .ref i3), (4, .int s9.1)] [] s9.2) (hx : ∀ e9, oo = .inr e9 → Q (.inl (some (.int e9.1))) e9.2) : tq_W l (mL_law b n xs) d (4 + bc) (24 + bs) Q 568 [(0, .retAddr b), (1, .ref i1), (2, .ref i2), (3, .ref i3), (4, .int y4)] [] hh := by
  refine tq_aload_n (M := mL_law b n xs) (pc := 568) dL_law_568 rfl ?_
  refine tq_xload (M := mL_law b n xs) (pc := 569) dL_law_569 rfl ?_
  refine tq_iload (M := mL_law b n xs) (pc := 570) dL_law_570 rfl ?_
  refine tq_iconst (M := mL_law b n xs) (pc := 572) dL_law_572 tk_ki_1 ?_
  refine tq_iadd (M := mL_law b n xs) (pc := 573) dL_law_573 ?_
  obtain ⟨x1, ex1, hf⟩ := tq_be hf
  refine tq_xld (M := mL_law b n xs) (pc := 574) dL_law_574 (n := n) (xs := xs) rfl ex1 ?_
  refine tq_xload (M := mL_law b n xs) (pc := 575) dL_law_575 rfl ?_
  refine tq_iload (M := mL_law b n xs) (pc := 576) dL_law_576 rfl ?_
  refine tq_iconst (M := mL_law b n xs) (pc := 578) dL_law_578 tk_ki_2 ?_
  refine tq_iadd (M := mL_law b n xs) (pc := 579) dL_law_579 ?_
  obtain ⟨x2, ex2, hf⟩ := tq_be hf
  refine tq_xld (M := mL_law b n xs) (pc := 580) dL_law_580 (n := n) (xs := xs) rfl ex2 ?_
  refine tq_aload_n (M := mL_law b n xs) (pc := 581) dL_law_581 rfl ?_
  obtain ⟨v3, ev3, hf⟩ := tq_be hf
  refine tq_calSW (M := mL_law b n xs) (pc := 582) (S := []) tk_w_L_rename.1 tk_w_L_rename.2.1 tk_w_L_rename.2.2.1 tk_w_L_rename.2.2.2.1 tk_w_L_rename.2.2.2.2 tk_s_L_rename tk_RL_190 dL_law_582 [.ref i1, .int x1, .int x2, .ref i3] rfl (Nat.le_of_ble_eq_true rfl) (d1 := d - 1) (b1 := 4) (s1 := 24) (bc' := (0 + bc)) (bs' := (0 + bs)) (Q1 := fun r h9 => r = .inl (some (.int v3.1)) ∧ v3.2 = h9) (by omega) (by omega) (by omega) (w_L_rename (by omega) ev3 (fun _ _ q => q)) (fun E h9 q => nomatch (show (Sum.inr E : tq_R) = Sum.inl _ from q.1)) (fun r9 h9 q => ?_)
  obtain ⟨q1, rfl⟩ := q
  cases (show (Sum.inl r9 : tq_R) = Sum.inl (some (.int v3.1)) from q1)
  refine tq_istore (M := mL_law b n xs) (pc := 585) dL_law_585 (L2 := [(5, .int v3.1), (0, .retAddr b), (1, .ref i1), (2, .ref i2), (3, .ref i3), (4, .int y4)]) (Nat.le_of_ble_eq_true rfl) rfl ?_
  refine tq_aload_n (M := mL_law b n xs) (pc := 587) dL_law_587 rfl ?_
  refine tq_xload (M := mL_law b n xs) (pc := 588) dL_law_588 rfl ?_
  refine tq_iload (M := mL_law b n xs) (pc := 589) dL_law_589 rfl ?_
  refine tq_iconst (M := mL_law b n xs) (pc := 591) dL_law_591 tk_ki_1 ?_
  refine tq_iadd (M := mL_law b n xs) (pc := 592) dL_law_592 ?_
  obtain ⟨x4, ex4, hf⟩ := tq_be hf
  refine tq_xld (M := mL_law b n xs) (pc := 593) dL_law_593 (n := n) (xs := xs) rfl ex4 ?_
  refine tq_xload (M := mL_law b n xs) (pc := 594) dL_law_594 rfl ?_
  refine tq_iload (M := mL_law b n xs) (pc := 595) dL_law_595 rfl ?_
  refine tq_iconst (M := mL_law b n xs) (pc := 597) dL_law_597 tk_ki_2 ?_
  refine tq_iadd (M := mL_law b n xs) (pc := 598) dL_law_598 ?_
  obtain ⟨x5, ex5, hf⟩ := tq_be hf
  refine tq_xld (M := mL_law b n xs) (pc := 599) dL_law_599 (n := n) (xs := xs) rfl ex5 ?_
  obtain ⟨⟨⟩, eu7, hf⟩ := tq_be hf
  obtain ⟨fsu7, eu7⟩ := tq_is_s eu7
  obtain ⟨v6, ev6, hf⟩ := tq_be hf
  refine tq_calV (M := mL_law b n xs) (pc := 600) (S := []) tk_y_X11_rename tk_v_X11_rename tk_RL_193 dL_law_600 [.int x4, .int x5] rfl (S0 := _) rfl eu7 rfl (Nat.le_of_ble_eq_true rfl) (d1 := d - 1) (b1 := 0) (s1 := 0) (bc' := (0 + bc)) (bs' := (0 + bs)) (Q1 := fun r h9 => r = .inl (some (.int v6.1)) ∧ v6.2 = h9) (by omega) (by omega) (by omega) (w_X11_rename (by omega) ev6 (fun _ _ q => q)) (fun E h9 q => nomatch (show (Sum.inr E : tq_R) = Sum.inl _ from q.1)) (fun r9 h9 q => ?_)
  obtain ⟨q1, rfl⟩ := q
  cases (show (Sum.inl r9 : tq_R) = Sum.inl (some (.int v6.1)) from q1)
  refine tq_istore (M := mL_law b n xs) (pc := 603) dL_law_603 (L2 := [(6, .int v6.1), (5, .int v3.1), (0, .retAddr b), (1, .ref i1), (2, .ref i2), (3, .ref i3), (4, .int y4)]) (Nat.le_of_ble_eq_true rfl) rfl ?_
  refine tq_aload_n (M := mL_law b n xs) (pc := 605) dL_law_605 rfl ?_
  obtain ⟨⟨⟩, eu9, hf⟩ := tq_be hf
  obtain ⟨fsu9, eu9⟩ := tq_is_s eu9
  obtain ⟨v8, ev8, hf⟩ := tq_be hf
  refine tq_calV (M := mL_law b n xs) (pc := 606) (S := []) tk_y_X11_thrown tk_v_X11_thrown tk_RL_177 dL_law_606 [] rfl (S0 := _) rfl eu9 rfl (Nat.le_of_ble_eq_true rfl) (d1 := d - 1) (b1 := 0) (s1 := 0) (bc' := (0 + bc)) (bs' := (0 + bs)) (Q1 := fun r h9 => r = .inl (some (.int v8)) ∧ v6.2 = h9) (by omega) (by omega) (by omega) (w_X11_thrown (by omega) ev8 (fun _ _ q => q)) (fun E h9 q => nomatch (show (Sum.inr E : tq_R) = Sum.inl _ from q.1)) (fun r9 h9 q => ?_)
  obtain ⟨q1, rfl⟩ := q
  cases (show (Sum.inl r9 : tq_R) = Sum.inl (some (.int v8)) from q1)
  refine tq_iload (M := mL_law b n xs) (pc := 609) dL_law_609 rfl ?_
  refine tq_icmp_eq (M := mL_law b n xs) (pc := 611) (tgt := 616) dL_law_611 (by decide) (fun cc => ?_) (fun cc => ?_)
  · have hf := tq_ifp hf cc
    refine tq_iload (M := mL_law b n xs) (pc := 616) dL_law_616 rfl ?_
    refine tq_if_ne (M := mL_law b n xs) (pc := 618) (tgt := 633) dL_law_618 (by decide) (fun cc => ?_) (fun cc => ?_)
    · have hf := tq_ifn hf cc
      refine tq_goto (M := mL_law b n xs) (pc := 633) (tgt := 3605) dL_law_633 (by decide) ?_
      obtain ⟨x10, ex10, hf⟩ := tq_le hf
      refine tq_iinc (M := mL_law b n xs) (pc := 3605) (v := x10) (L2 := [(4, .int x10), (6, .int v6.1), (5, .int v3.1), (0, .retAddr b), (1, .ref i1), (2, .ref i2), (3, .ref i3)]) dL_law_3605 rfl (by rw [ex10, tk_ki_5]) (Nat.le_of_ble_eq_true rfl) rfl ?_
      refine tq_goto (M := mL_law b n xs) (pc := 3608) (tgt := 23) dL_law_3608 (by decide) ?_
      refine tq_pick (L2 := [(0, .retAddr b), (1, .ref i1), (2, .ref i2), (3, .ref i3), (4, .int x10)]) [3, 4, 5, 6, 0] rfl ?_
      cases (Option.some.inj hf)
      exact tq_more (by omega) (by omega) (hc _ rfl)
    · have hf := tq_ifp hf cc
      refine tq_aload_n (M := mL_law b n xs) (pc := 621) dL_law_621 rfl ?_
      refine tq_iconst (M := mL_law b n xs) (pc := 622) dL_law_622 tk_ki_0 ?_
      obtain ⟨x11, ex11, hf⟩ := tq_be hf
      refine tq_laldF (M := mL_law b n xs) (pc := 623) dL_law_623 ex11 ?_
      refine tq_iload (M := mL_law b n xs) (pc := 624) dL_law_624 rfl ?_
      refine tq_i2l (M := mL_law b n xs) (pc := 626) dL_law_626 ?_
      refine tq_lcmp (M := mL_law b n xs) (pc := 627) dL_law_627 ?_
      refine tq_if_eq (M := mL_law b n xs) (pc := 628) (tgt := 633) dL_law_628 (by decide) (fun cc => ?_) (fun cc => ?_)
      · have hf := tq_ifp hf cc
        refine tq_goto (M := mL_law b n xs) (pc := 633) (tgt := 3605) dL_law_633 (by decide) ?_
        obtain ⟨x12, ex12, hf⟩ := tq_le hf
        refine tq_iinc (M := mL_law b n xs) (pc := 3605) (v := x12) (L2 := [(4, .int x12), (6, .int v6.1), (5, .int v3.1), (0, .retAddr b), (1, .ref i1), (2, .ref i2), (3, .ref i3)]) dL_law_3605 rfl (by rw [ex12, tk_ki_5]) (Nat.le_of_ble_eq_true rfl) rfl ?_
        refine tq_goto (M := mL_law b n xs) (pc := 3608) (tgt := 23) dL_law_3608 (by decide) ?_
        refine tq_pick (L2 := [(0, .retAddr b), (1, .ref i1), (2, .ref i2), (3, .ref i3), (4, .int x12)]) [3, 4, 5, 6, 0] rfl ?_
        cases (Option.some.inj hf)
        exact tq_more (by omega) (by omega) (hc _ rfl)
      · have hf := tq_ifn hf cc
        refine tq_iconst (M := mL_law b n xs) (pc := 631) dL_law_631 tk_ki_0 ?_
        refine tq_zret (M := mL_law b n xs) (pc := 632) dL_law_632 rfl (Or.inl rfl) ?_
        cases (Option.some.inj hf)
        exact hx _ rfl
  · have hf := tq_ifn hf cc
    refine tq_iconst (M := mL_law b n xs) (pc := 614) dL_law_614 tk_ki_0 ?_
    refine tq_zret (M := mL_law b n xs) (pc := 615) dL_law_615 rfl (Or.inl rfl) ?_
    cases (Option.some.inj hf)
    exact hx _ rfl
def f_L_law_c636 (n : Nat) (xs : Nat → Int32) (i1 i2 i3 : Nat) (y4 : Int32) (hh : tq_H) : Option ((Int32 × tq_H) ⊕ (Int32 × tq_H)) :=
  (tq_sx n xs (y4 + (1 : Int32))).bind fun x1 =>
  (tq_sx n xs (y4 + (2 : Int32))).bind fun x2 =>
  (f_L_setValue i1 x1 x2 i3 hh).bind fun v3 =>
  (tq_sx n xs (y4 + (1 : Int32))).bind fun x4 =>
  (tq_sx n xs (y4 + (2 : Int32))).bind fun x5 =>
  (tq_is v3.2 i2 11).bind fun _ =>
  (f_X11_setValue i2 x4 x5 v3.2).bind fun v6 =>
  (tq_is v6.2 i2 11).bind fun _ =>
  (f_X11_thrown i2 v6.2).bind fun v8 =>
  if v8 = v3.1 then
    if v3.1 = 0 then
      (tq_aj v6.2 i3 (0 : Int32)).bind fun x11 =>
      if (lg_cmp x11 (v6.1).toInt64) = 0 then
        tq_let (y4 + (5 : Int32)) fun x12 =>
        some (.inl (x12, v6.2))
      else
        some (.inr ((0 : Int32), v6.2))
    else
      tq_let (y4 + (5 : Int32)) fun x10 =>
      some (.inl (x10, v6.2))
  else
    some (.inr ((0 : Int32), v6.2))
set_option maxHeartbeats 4000000 in
set_option maxRecDepth 20000 in
theorem c_L_law_636 {l : Launch} {d : Nat} (hd9 : 10 ≤ d) {b n : Nat} {xs : Nat → Int32} {i1 i2 i3 : Nat} {y4 : Int32} {hh : tq_H} {Q : tq_R → tq_H → Prop} {bc bs : Nat} {oo : (Int32 × tq_H) ⊕ (Int32 × tq_H)} (hf : f_L_law_c636 n xs i1 i2 i3 y4 hh = some oo) (hc : ∀ s9, oo = .inl s9 → tq_W l (mL_law b n xs) d bc bs Q 23 [(0, .retAddr b), (1, .ref i1), (2, .ref i2), (3, .ref i3), (4, .int s9.1)] [] s9.2) (hx : ∀ e9, oo = .inr e9 → Q (.inl (some (.int e9.1))) e9.2) : tq_W l (mL_law b n xs) d (4 + bc) (24 + bs) Q 636 [(0, .retAddr b), (1, .ref i1), (2, .ref i2), (3, .ref i3), (4, .int y4)] [] hh := by
  refine tq_aload_n (M := mL_law b n xs) (pc := 636) dL_law_636 rfl ?_
  refine tq_xload (M := mL_law b n xs) (pc := 637) dL_law_637 rfl ?_
  refine tq_iload (M := mL_law b n xs) (pc := 638) dL_law_638 rfl ?_
  refine tq_iconst (M := mL_law b n xs) (pc := 640) dL_law_640 tk_ki_1 ?_
  refine tq_iadd (M := mL_law b n xs) (pc := 641) dL_law_641 ?_
  obtain ⟨x1, ex1, hf⟩ := tq_be hf
  refine tq_xld (M := mL_law b n xs) (pc := 642) dL_law_642 (n := n) (xs := xs) rfl ex1 ?_
  refine tq_xload (M := mL_law b n xs) (pc := 643) dL_law_643 rfl ?_
  refine tq_iload (M := mL_law b n xs) (pc := 644) dL_law_644 rfl ?_
  refine tq_iconst (M := mL_law b n xs) (pc := 646) dL_law_646 tk_ki_2 ?_
  refine tq_iadd (M := mL_law b n xs) (pc := 647) dL_law_647 ?_
  obtain ⟨x2, ex2, hf⟩ := tq_be hf
  refine tq_xld (M := mL_law b n xs) (pc := 648) dL_law_648 (n := n) (xs := xs) rfl ex2 ?_
  refine tq_aload_n (M := mL_law b n xs) (pc := 649) dL_law_649 rfl ?_
  obtain ⟨v3, ev3, hf⟩ := tq_be hf
  refine tq_calSW (M := mL_law b n xs) (pc := 650) (S := []) tk_w_L_setValue.1 tk_w_L_setValue.2.1 tk_w_L_setValue.2.2.1 tk_w_L_setValue.2.2.2.1 tk_w_L_setValue.2.2.2.2 tk_s_L_setValue tk_RL_194 dL_law_650 [.ref i1, .int x1, .int x2, .ref i3] rfl (Nat.le_of_ble_eq_true rfl) (d1 := d - 1) (b1 := 4) (s1 := 24) (bc' := (0 + bc)) (bs' := (0 + bs)) (Q1 := fun r h9 => r = .inl (some (.int v3.1)) ∧ v3.2 = h9) (by omega) (by omega) (by omega) (w_L_setValue (by omega) ev3 (fun _ _ q => q)) (fun E h9 q => nomatch (show (Sum.inr E : tq_R) = Sum.inl _ from q.1)) (fun r9 h9 q => ?_)
  obtain ⟨q1, rfl⟩ := q
  cases (show (Sum.inl r9 : tq_R) = Sum.inl (some (.int v3.1)) from q1)
  refine tq_istore (M := mL_law b n xs) (pc := 653) dL_law_653 (L2 := [(5, .int v3.1), (0, .retAddr b), (1, .ref i1), (2, .ref i2), (3, .ref i3), (4, .int y4)]) (Nat.le_of_ble_eq_true rfl) rfl ?_
  refine tq_aload_n (M := mL_law b n xs) (pc := 655) dL_law_655 rfl ?_
  refine tq_xload (M := mL_law b n xs) (pc := 656) dL_law_656 rfl ?_
  refine tq_iload (M := mL_law b n xs) (pc := 657) dL_law_657 rfl ?_
  refine tq_iconst (M := mL_law b n xs) (pc := 659) dL_law_659 tk_ki_1 ?_
  refine tq_iadd (M := mL_law b n xs) (pc := 660) dL_law_660 ?_
  obtain ⟨x4, ex4, hf⟩ := tq_be hf
  refine tq_xld (M := mL_law b n xs) (pc := 661) dL_law_661 (n := n) (xs := xs) rfl ex4 ?_
  refine tq_xload (M := mL_law b n xs) (pc := 662) dL_law_662 rfl ?_
  refine tq_iload (M := mL_law b n xs) (pc := 663) dL_law_663 rfl ?_
  refine tq_iconst (M := mL_law b n xs) (pc := 665) dL_law_665 tk_ki_2 ?_
  refine tq_iadd (M := mL_law b n xs) (pc := 666) dL_law_666 ?_
  obtain ⟨x5, ex5, hf⟩ := tq_be hf
  refine tq_xld (M := mL_law b n xs) (pc := 667) dL_law_667 (n := n) (xs := xs) rfl ex5 ?_
  obtain ⟨⟨⟩, eu7, hf⟩ := tq_be hf
  obtain ⟨fsu7, eu7⟩ := tq_is_s eu7
  obtain ⟨v6, ev6, hf⟩ := tq_be hf
  refine tq_calV (M := mL_law b n xs) (pc := 668) (S := []) tk_y_X11_setValue tk_v_X11_setValue tk_RL_196 dL_law_668 [.int x4, .int x5] rfl (S0 := _) rfl eu7 rfl (Nat.le_of_ble_eq_true rfl) (d1 := d - 1) (b1 := 0) (s1 := 0) (bc' := (0 + bc)) (bs' := (0 + bs)) (Q1 := fun r h9 => r = .inl (some (.int v6.1)) ∧ v6.2 = h9) (by omega) (by omega) (by omega) (w_X11_setValue (by omega) ev6 (fun _ _ q => q)) (fun E h9 q => nomatch (show (Sum.inr E : tq_R) = Sum.inl _ from q.1)) (fun r9 h9 q => ?_)
  obtain ⟨q1, rfl⟩ := q
  cases (show (Sum.inl r9 : tq_R) = Sum.inl (some (.int v6.1)) from q1)
  refine tq_istore (M := mL_law b n xs) (pc := 671) dL_law_671 (L2 := [(6, .int v6.1), (5, .int v3.1), (0, .retAddr b), (1, .ref i1), (2, .ref i2), (3, .ref i3), (4, .int y4)]) (Nat.le_of_ble_eq_true rfl) rfl ?_
  refine tq_aload_n (M := mL_law b n xs) (pc := 673) dL_law_673 rfl ?_
  obtain ⟨⟨⟩, eu9, hf⟩ := tq_be hf
  obtain ⟨fsu9, eu9⟩ := tq_is_s eu9
  obtain ⟨v8, ev8, hf⟩ := tq_be hf
  refine tq_calV (M := mL_law b n xs) (pc := 674) (S := []) tk_y_X11_thrown tk_v_X11_thrown tk_RL_177 dL_law_674 [] rfl (S0 := _) rfl eu9 rfl (Nat.le_of_ble_eq_true rfl) (d1 := d - 1) (b1 := 0) (s1 := 0) (bc' := (0 + bc)) (bs' := (0 + bs)) (Q1 := fun r h9 => r = .inl (some (.int v8)) ∧ v6.2 = h9) (by omega) (by omega) (by omega) (w_X11_thrown (by omega) ev8 (fun _ _ q => q)) (fun E h9 q => nomatch (show (Sum.inr E : tq_R) = Sum.inl _ from q.1)) (fun r9 h9 q => ?_)
  obtain ⟨q1, rfl⟩ := q
  cases (show (Sum.inl r9 : tq_R) = Sum.inl (some (.int v8)) from q1)
  refine tq_iload (M := mL_law b n xs) (pc := 677) dL_law_677 rfl ?_
  refine tq_icmp_eq (M := mL_law b n xs) (pc := 679) (tgt := 684) dL_law_679 (by decide) (fun cc => ?_) (fun cc => ?_)
  · have hf := tq_ifp hf cc
    refine tq_iload (M := mL_law b n xs) (pc := 684) dL_law_684 rfl ?_
    refine tq_if_ne (M := mL_law b n xs) (pc := 686) (tgt := 701) dL_law_686 (by decide) (fun cc => ?_) (fun cc => ?_)
    · have hf := tq_ifn hf cc
      refine tq_goto (M := mL_law b n xs) (pc := 701) (tgt := 3605) dL_law_701 (by decide) ?_
      obtain ⟨x10, ex10, hf⟩ := tq_le hf
      refine tq_iinc (M := mL_law b n xs) (pc := 3605) (v := x10) (L2 := [(4, .int x10), (6, .int v6.1), (5, .int v3.1), (0, .retAddr b), (1, .ref i1), (2, .ref i2), (3, .ref i3)]) dL_law_3605 rfl (by rw [ex10, tk_ki_5]) (Nat.le_of_ble_eq_true rfl) rfl ?_
      refine tq_goto (M := mL_law b n xs) (pc := 3608) (tgt := 23) dL_law_3608 (by decide) ?_
      refine tq_pick (L2 := [(0, .retAddr b), (1, .ref i1), (2, .ref i2), (3, .ref i3), (4, .int x10)]) [3, 4, 5, 6, 0] rfl ?_
      cases (Option.some.inj hf)
      exact tq_more (by omega) (by omega) (hc _ rfl)
    · have hf := tq_ifp hf cc
      refine tq_aload_n (M := mL_law b n xs) (pc := 689) dL_law_689 rfl ?_
      refine tq_iconst (M := mL_law b n xs) (pc := 690) dL_law_690 tk_ki_0 ?_
      obtain ⟨x11, ex11, hf⟩ := tq_be hf
      refine tq_laldF (M := mL_law b n xs) (pc := 691) dL_law_691 ex11 ?_
      refine tq_iload (M := mL_law b n xs) (pc := 692) dL_law_692 rfl ?_
      refine tq_i2l (M := mL_law b n xs) (pc := 694) dL_law_694 ?_
      refine tq_lcmp (M := mL_law b n xs) (pc := 695) dL_law_695 ?_
      refine tq_if_eq (M := mL_law b n xs) (pc := 696) (tgt := 701) dL_law_696 (by decide) (fun cc => ?_) (fun cc => ?_)
      · have hf := tq_ifp hf cc
        refine tq_goto (M := mL_law b n xs) (pc := 701) (tgt := 3605) dL_law_701 (by decide) ?_
        obtain ⟨x12, ex12, hf⟩ := tq_le hf
        refine tq_iinc (M := mL_law b n xs) (pc := 3605) (v := x12) (L2 := [(4, .int x12), (6, .int v6.1), (5, .int v3.1), (0, .retAddr b), (1, .ref i1), (2, .ref i2), (3, .ref i3)]) dL_law_3605 rfl (by rw [ex12, tk_ki_5]) (Nat.le_of_ble_eq_true rfl) rfl ?_
        refine tq_goto (M := mL_law b n xs) (pc := 3608) (tgt := 23) dL_law_3608 (by decide) ?_
        refine tq_pick (L2 := [(0, .retAddr b), (1, .ref i1), (2, .ref i2), (3, .ref i3), (4, .int x12)]) [3, 4, 5, 6, 0] rfl ?_
        cases (Option.some.inj hf)
        exact tq_more (by omega) (by omega) (hc _ rfl)
      · have hf := tq_ifn hf cc
        refine tq_iconst (M := mL_law b n xs) (pc := 699) dL_law_699 tk_ki_0 ?_
        refine tq_zret (M := mL_law b n xs) (pc := 700) dL_law_700 rfl (Or.inl rfl) ?_
        cases (Option.some.inj hf)
        exact hx _ rfl
  · have hf := tq_ifn hf cc
    refine tq_iconst (M := mL_law b n xs) (pc := 682) dL_law_682 tk_ki_0 ?_
    refine tq_zret (M := mL_law b n xs) (pc := 683) dL_law_683 rfl (Or.inl rfl) ?_
    cases (Option.some.inj hf)
    exact hx _ rfl
def f_L_law_c704 (n : Nat) (xs : Nat → Int32) (i1 i2 i3 : Nat) (y4 : Int32) (hh : tq_H) : Option ((Int32 × tq_H) ⊕ (Int32 × tq_H)) :=
  (tq_sx n xs (y4 + (1 : Int32))).bind fun x1 =>
  (tq_sx n xs (y4 + (2 : Int32))).bind fun x2 =>
  (tq_sx n xs (y4 + (3 : Int32))).bind fun x3 =>
  (f_L_move i1 x1 x2 x3 i3 hh).bind fun v4 =>
  (tq_sx n xs (y4 + (1 : Int32))).bind fun x5 =>
  (tq_sx n xs (y4 + (2 : Int32))).bind fun x6 =>
  (tq_sx n xs (y4 + (3 : Int32))).bind fun x7 =>
  (tq_is v4.2 i2 11).bind fun _ =>
  (f_X11_move i2 x5 x6 x7 v4.2).bind fun v8 =>
  (tq_is v8.2 i2 11).bind fun _ =>
  (f_X11_thrown i2 v8.2).bind fun v10 =>
  if v10 = v4.1 then
    if v4.1 = 0 then
      (tq_aj v8.2 i3 (0 : Int32)).bind fun x13 =>
      if (lg_cmp x13 (v8.1).toInt64) = 0 then
        tq_let (y4 + (5 : Int32)) fun x14 =>
        some (.inl (x14, v8.2))
      else
        some (.inr ((0 : Int32), v8.2))
    else
      tq_let (y4 + (5 : Int32)) fun x12 =>
      some (.inl (x12, v8.2))
  else
    some (.inr ((0 : Int32), v8.2))
set_option maxHeartbeats 4000000 in
set_option maxRecDepth 20000 in
theorem c_L_law_704 {l : Launch} {d : Nat} (hd9 : 10 ≤ d) {b n : Nat} {xs : Nat → Int32} {i1 i2 i3 : Nat} {y4 : Int32} {hh : tq_H} {Q : tq_R → tq_H → Prop} {bc bs : Nat} {oo : (Int32 × tq_H) ⊕ (Int32 × tq_H)} (hf : f_L_law_c704 n xs i1 i2 i3 y4 hh = some oo) (hc : ∀ s9, oo = .inl s9 → tq_W l (mL_law b n xs) d bc bs Q 23 [(0, .retAddr b), (1, .ref i1), (2, .ref i2), (3, .ref i3), (4, .int s9.1)] [] s9.2) (hx : ∀ e9, oo = .inr e9 → Q (.inl (some (.int e9.1))) e9.2) : tq_W l (mL_law b n xs) d (6 + bc) (36 + bs) Q 704 [(0, .retAddr b), (1, .ref i1), (2, .ref i2), (3, .ref i3), (4, .int y4)] [] hh := by
  refine tq_aload_n (M := mL_law b n xs) (pc := 704) dL_law_704 rfl ?_
  refine tq_xload (M := mL_law b n xs) (pc := 705) dL_law_705 rfl ?_
  refine tq_iload (M := mL_law b n xs) (pc := 706) dL_law_706 rfl ?_
  refine tq_iconst (M := mL_law b n xs) (pc := 708) dL_law_708 tk_ki_1 ?_
  refine tq_iadd (M := mL_law b n xs) (pc := 709) dL_law_709 ?_
  obtain ⟨x1, ex1, hf⟩ := tq_be hf
  refine tq_xld (M := mL_law b n xs) (pc := 710) dL_law_710 (n := n) (xs := xs) rfl ex1 ?_
  refine tq_xload (M := mL_law b n xs) (pc := 711) dL_law_711 rfl ?_
  refine tq_iload (M := mL_law b n xs) (pc := 712) dL_law_712 rfl ?_
  refine tq_iconst (M := mL_law b n xs) (pc := 714) dL_law_714 tk_ki_2 ?_
  refine tq_iadd (M := mL_law b n xs) (pc := 715) dL_law_715 ?_
  obtain ⟨x2, ex2, hf⟩ := tq_be hf
  refine tq_xld (M := mL_law b n xs) (pc := 716) dL_law_716 (n := n) (xs := xs) rfl ex2 ?_
  refine tq_xload (M := mL_law b n xs) (pc := 717) dL_law_717 rfl ?_
  refine tq_iload (M := mL_law b n xs) (pc := 718) dL_law_718 rfl ?_
  refine tq_iconst (M := mL_law b n xs) (pc := 720) dL_law_720 tk_ki_3 ?_
  refine tq_iadd (M := mL_law b n xs) (pc := 721) dL_law_721 ?_
  obtain ⟨x3, ex3, hf⟩ := tq_be hf
  refine tq_xld (M := mL_law b n xs) (pc := 722) dL_law_722 (n := n) (xs := xs) rfl ex3 ?_
  refine tq_aload_n (M := mL_law b n xs) (pc := 723) dL_law_723 rfl ?_
  obtain ⟨v4, ev4, hf⟩ := tq_be hf
  refine tq_calSW (M := mL_law b n xs) (pc := 724) (S := []) tk_w_L_move.1 tk_w_L_move.2.1 tk_w_L_move.2.2.1 tk_w_L_move.2.2.2.1 tk_w_L_move.2.2.2.2 tk_s_L_move tk_RL_197 dL_law_724 [.ref i1, .int x1, .int x2, .int x3, .ref i3] rfl (Nat.le_of_ble_eq_true rfl) (d1 := d - 1) (b1 := 6) (s1 := 36) (bc' := (0 + bc)) (bs' := (0 + bs)) (Q1 := fun r h9 => r = .inl (some (.int v4.1)) ∧ v4.2 = h9) (by omega) (by omega) (by omega) (w_L_move (by omega) ev4 (fun _ _ q => q)) (fun E h9 q => nomatch (show (Sum.inr E : tq_R) = Sum.inl _ from q.1)) (fun r9 h9 q => ?_)
  obtain ⟨q1, rfl⟩ := q
  cases (show (Sum.inl r9 : tq_R) = Sum.inl (some (.int v4.1)) from q1)
  refine tq_istore (M := mL_law b n xs) (pc := 727) dL_law_727 (L2 := [(5, .int v4.1), (0, .retAddr b), (1, .ref i1), (2, .ref i2), (3, .ref i3), (4, .int y4)]) (Nat.le_of_ble_eq_true rfl) rfl ?_
  refine tq_aload_n (M := mL_law b n xs) (pc := 729) dL_law_729 rfl ?_
  refine tq_xload (M := mL_law b n xs) (pc := 730) dL_law_730 rfl ?_
  refine tq_iload (M := mL_law b n xs) (pc := 731) dL_law_731 rfl ?_
  refine tq_iconst (M := mL_law b n xs) (pc := 733) dL_law_733 tk_ki_1 ?_
  refine tq_iadd (M := mL_law b n xs) (pc := 734) dL_law_734 ?_
  obtain ⟨x5, ex5, hf⟩ := tq_be hf
  refine tq_xld (M := mL_law b n xs) (pc := 735) dL_law_735 (n := n) (xs := xs) rfl ex5 ?_
  refine tq_xload (M := mL_law b n xs) (pc := 736) dL_law_736 rfl ?_
  refine tq_iload (M := mL_law b n xs) (pc := 737) dL_law_737 rfl ?_
  refine tq_iconst (M := mL_law b n xs) (pc := 739) dL_law_739 tk_ki_2 ?_
  refine tq_iadd (M := mL_law b n xs) (pc := 740) dL_law_740 ?_
  obtain ⟨x6, ex6, hf⟩ := tq_be hf
  refine tq_xld (M := mL_law b n xs) (pc := 741) dL_law_741 (n := n) (xs := xs) rfl ex6 ?_
  refine tq_xload (M := mL_law b n xs) (pc := 742) dL_law_742 rfl ?_
  refine tq_iload (M := mL_law b n xs) (pc := 743) dL_law_743 rfl ?_
  refine tq_iconst (M := mL_law b n xs) (pc := 745) dL_law_745 tk_ki_3 ?_
  refine tq_iadd (M := mL_law b n xs) (pc := 746) dL_law_746 ?_
  obtain ⟨x7, ex7, hf⟩ := tq_be hf
  refine tq_xld (M := mL_law b n xs) (pc := 747) dL_law_747 (n := n) (xs := xs) rfl ex7 ?_
  obtain ⟨⟨⟩, eu9, hf⟩ := tq_be hf
  obtain ⟨fsu9, eu9⟩ := tq_is_s eu9
  obtain ⟨v8, ev8, hf⟩ := tq_be hf
  refine tq_calV (M := mL_law b n xs) (pc := 748) (S := []) tk_y_X11_move tk_v_X11_move tk_RL_199 dL_law_748 [.int x5, .int x6, .int x7] rfl (S0 := _) rfl eu9 rfl (Nat.le_of_ble_eq_true rfl) (d1 := d - 1) (b1 := 0) (s1 := 0) (bc' := (0 + bc)) (bs' := (0 + bs)) (Q1 := fun r h9 => r = .inl (some (.int v8.1)) ∧ v8.2 = h9) (by omega) (by omega) (by omega) (w_X11_move (by omega) ev8 (fun _ _ q => q)) (fun E h9 q => nomatch (show (Sum.inr E : tq_R) = Sum.inl _ from q.1)) (fun r9 h9 q => ?_)
  obtain ⟨q1, rfl⟩ := q
  cases (show (Sum.inl r9 : tq_R) = Sum.inl (some (.int v8.1)) from q1)
  refine tq_istore (M := mL_law b n xs) (pc := 751) dL_law_751 (L2 := [(6, .int v8.1), (5, .int v4.1), (0, .retAddr b), (1, .ref i1), (2, .ref i2), (3, .ref i3), (4, .int y4)]) (Nat.le_of_ble_eq_true rfl) rfl ?_
  refine tq_aload_n (M := mL_law b n xs) (pc := 753) dL_law_753 rfl ?_
  obtain ⟨⟨⟩, eu11, hf⟩ := tq_be hf
  obtain ⟨fsu11, eu11⟩ := tq_is_s eu11
  obtain ⟨v10, ev10, hf⟩ := tq_be hf
  refine tq_calV (M := mL_law b n xs) (pc := 754) (S := []) tk_y_X11_thrown tk_v_X11_thrown tk_RL_177 dL_law_754 [] rfl (S0 := _) rfl eu11 rfl (Nat.le_of_ble_eq_true rfl) (d1 := d - 1) (b1 := 0) (s1 := 0) (bc' := (0 + bc)) (bs' := (0 + bs)) (Q1 := fun r h9 => r = .inl (some (.int v10)) ∧ v8.2 = h9) (by omega) (by omega) (by omega) (w_X11_thrown (by omega) ev10 (fun _ _ q => q)) (fun E h9 q => nomatch (show (Sum.inr E : tq_R) = Sum.inl _ from q.1)) (fun r9 h9 q => ?_)
  obtain ⟨q1, rfl⟩ := q
  cases (show (Sum.inl r9 : tq_R) = Sum.inl (some (.int v10)) from q1)
  refine tq_iload (M := mL_law b n xs) (pc := 757) dL_law_757 rfl ?_
  refine tq_icmp_eq (M := mL_law b n xs) (pc := 759) (tgt := 764) dL_law_759 (by decide) (fun cc => ?_) (fun cc => ?_)
  · have hf := tq_ifp hf cc
    refine tq_iload (M := mL_law b n xs) (pc := 764) dL_law_764 rfl ?_
    refine tq_if_ne (M := mL_law b n xs) (pc := 766) (tgt := 781) dL_law_766 (by decide) (fun cc => ?_) (fun cc => ?_)
    · have hf := tq_ifn hf cc
      refine tq_goto (M := mL_law b n xs) (pc := 781) (tgt := 3605) dL_law_781 (by decide) ?_
      obtain ⟨x12, ex12, hf⟩ := tq_le hf
      refine tq_iinc (M := mL_law b n xs) (pc := 3605) (v := x12) (L2 := [(4, .int x12), (6, .int v8.1), (5, .int v4.1), (0, .retAddr b), (1, .ref i1), (2, .ref i2), (3, .ref i3)]) dL_law_3605 rfl (by rw [ex12, tk_ki_5]) (Nat.le_of_ble_eq_true rfl) rfl ?_
      refine tq_goto (M := mL_law b n xs) (pc := 3608) (tgt := 23) dL_law_3608 (by decide) ?_
      refine tq_pick (L2 := [(0, .retAddr b), (1, .ref i1), (2, .ref i2), (3, .ref i3), (4, .int x12)]) [3, 4, 5, 6, 0] rfl ?_
      cases (Option.some.inj hf)
      exact tq_more (by omega) (by omega) (hc _ rfl)
    · have hf := tq_ifp hf cc
      refine tq_aload_n (M := mL_law b n xs) (pc := 769) dL_law_769 rfl ?_
      refine tq_iconst (M := mL_law b n xs) (pc := 770) dL_law_770 tk_ki_0 ?_
      obtain ⟨x13, ex13, hf⟩ := tq_be hf
      refine tq_laldF (M := mL_law b n xs) (pc := 771) dL_law_771 ex13 ?_
      refine tq_iload (M := mL_law b n xs) (pc := 772) dL_law_772 rfl ?_
      refine tq_i2l (M := mL_law b n xs) (pc := 774) dL_law_774 ?_
      refine tq_lcmp (M := mL_law b n xs) (pc := 775) dL_law_775 ?_
      refine tq_if_eq (M := mL_law b n xs) (pc := 776) (tgt := 781) dL_law_776 (by decide) (fun cc => ?_) (fun cc => ?_)
      · have hf := tq_ifp hf cc
        refine tq_goto (M := mL_law b n xs) (pc := 781) (tgt := 3605) dL_law_781 (by decide) ?_
        obtain ⟨x14, ex14, hf⟩ := tq_le hf
        refine tq_iinc (M := mL_law b n xs) (pc := 3605) (v := x14) (L2 := [(4, .int x14), (6, .int v8.1), (5, .int v4.1), (0, .retAddr b), (1, .ref i1), (2, .ref i2), (3, .ref i3)]) dL_law_3605 rfl (by rw [ex14, tk_ki_5]) (Nat.le_of_ble_eq_true rfl) rfl ?_
        refine tq_goto (M := mL_law b n xs) (pc := 3608) (tgt := 23) dL_law_3608 (by decide) ?_
        refine tq_pick (L2 := [(0, .retAddr b), (1, .ref i1), (2, .ref i2), (3, .ref i3), (4, .int x14)]) [3, 4, 5, 6, 0] rfl ?_
        cases (Option.some.inj hf)
        exact tq_more (by omega) (by omega) (hc _ rfl)
      · have hf := tq_ifn hf cc
        refine tq_iconst (M := mL_law b n xs) (pc := 779) dL_law_779 tk_ki_0 ?_
        refine tq_zret (M := mL_law b n xs) (pc := 780) dL_law_780 rfl (Or.inl rfl) ?_
        cases (Option.some.inj hf)
        exact hx _ rfl
  · have hf := tq_ifn hf cc
    refine tq_iconst (M := mL_law b n xs) (pc := 762) dL_law_762 tk_ki_0 ?_
    refine tq_zret (M := mL_law b n xs) (pc := 763) dL_law_763 rfl (Or.inl rfl) ?_
    cases (Option.some.inj hf)
    exact hx _ rfl
def f_L_law_c784 (n : Nat) (xs : Nat → Int32) (i1 i2 i3 : Nat) (y4 : Int32) (hh : tq_H) : Option ((Int32 × tq_H) ⊕ (Int32 × tq_H)) :=
  (tq_sx n xs (y4 + (1 : Int32))).bind fun x1 =>
  (tq_sx n xs (y4 + (2 : Int32))).bind fun x2 =>
  (f_L_declare i1 x1 x2 i3 hh).bind fun v3 =>
  (tq_sx n xs (y4 + (1 : Int32))).bind fun x4 =>
  (tq_sx n xs (y4 + (2 : Int32))).bind fun x5 =>
  (tq_is v3.2 i2 11).bind fun _ =>
  (f_X11_declare i2 x4 x5 v3.2).bind fun v6 =>
  (tq_is v6.2 i2 11).bind fun _ =>
  (f_X11_thrown i2 v6.2).bind fun v8 =>
  if v8 = v3.1 then
    if v3.1 = 0 then
      (tq_aj v6.2 i3 (0 : Int32)).bind fun x11 =>
      if (lg_cmp x11 (v6.1).toInt64) = 0 then
        tq_let (y4 + (5 : Int32)) fun x12 =>
        some (.inl (x12, v6.2))
      else
        some (.inr ((0 : Int32), v6.2))
    else
      tq_let (y4 + (5 : Int32)) fun x10 =>
      some (.inl (x10, v6.2))
  else
    some (.inr ((0 : Int32), v6.2))
set_option maxHeartbeats 4000000 in
set_option maxRecDepth 20000 in
theorem c_L_law_784 {l : Launch} {d : Nat} (hd9 : 10 ≤ d) {b n : Nat} {xs : Nat → Int32} {i1 i2 i3 : Nat} {y4 : Int32} {hh : tq_H} {Q : tq_R → tq_H → Prop} {bc bs : Nat} {oo : (Int32 × tq_H) ⊕ (Int32 × tq_H)} (hf : f_L_law_c784 n xs i1 i2 i3 y4 hh = some oo) (hc : ∀ s9, oo = .inl s9 → tq_W l (mL_law b n xs) d bc bs Q 23 [(0, .retAddr b), (1, .ref i1), (2, .ref i2), (3, .ref i3), (4, .int s9.1)] [] s9.2) (hx : ∀ e9, oo = .inr e9 → Q (.inl (some (.int e9.1))) e9.2) : tq_W l (mL_law b n xs) d (4 + bc) (24 + bs) Q 784 [(0, .retAddr b), (1, .ref i1), (2, .ref i2), (3, .ref i3), (4, .int y4)] [] hh := by
  refine tq_aload_n (M := mL_law b n xs) (pc := 784) dL_law_784 rfl ?_
  refine tq_xload (M := mL_law b n xs) (pc := 785) dL_law_785 rfl ?_
  refine tq_iload (M := mL_law b n xs) (pc := 786) dL_law_786 rfl ?_
  refine tq_iconst (M := mL_law b n xs) (pc := 788) dL_law_788 tk_ki_1 ?_
  refine tq_iadd (M := mL_law b n xs) (pc := 789) dL_law_789 ?_
  obtain ⟨x1, ex1, hf⟩ := tq_be hf
  refine tq_xld (M := mL_law b n xs) (pc := 790) dL_law_790 (n := n) (xs := xs) rfl ex1 ?_
  refine tq_xload (M := mL_law b n xs) (pc := 791) dL_law_791 rfl ?_
  refine tq_iload (M := mL_law b n xs) (pc := 792) dL_law_792 rfl ?_
  refine tq_iconst (M := mL_law b n xs) (pc := 794) dL_law_794 tk_ki_2 ?_
  refine tq_iadd (M := mL_law b n xs) (pc := 795) dL_law_795 ?_
  obtain ⟨x2, ex2, hf⟩ := tq_be hf
  refine tq_xld (M := mL_law b n xs) (pc := 796) dL_law_796 (n := n) (xs := xs) rfl ex2 ?_
  refine tq_aload_n (M := mL_law b n xs) (pc := 797) dL_law_797 rfl ?_
  obtain ⟨v3, ev3, hf⟩ := tq_be hf
  refine tq_calSW (M := mL_law b n xs) (pc := 798) (S := []) tk_w_L_declare.1 tk_w_L_declare.2.1 tk_w_L_declare.2.2.1 tk_w_L_declare.2.2.2.1 tk_w_L_declare.2.2.2.2 tk_s_L_declare tk_RL_200 dL_law_798 [.ref i1, .int x1, .int x2, .ref i3] rfl (Nat.le_of_ble_eq_true rfl) (d1 := d - 1) (b1 := 4) (s1 := 24) (bc' := (0 + bc)) (bs' := (0 + bs)) (Q1 := fun r h9 => r = .inl (some (.int v3.1)) ∧ v3.2 = h9) (by omega) (by omega) (by omega) (w_L_declare (by omega) ev3 (fun _ _ q => q)) (fun E h9 q => nomatch (show (Sum.inr E : tq_R) = Sum.inl _ from q.1)) (fun r9 h9 q => ?_)
  obtain ⟨q1, rfl⟩ := q
  cases (show (Sum.inl r9 : tq_R) = Sum.inl (some (.int v3.1)) from q1)
  refine tq_istore (M := mL_law b n xs) (pc := 801) dL_law_801 (L2 := [(5, .int v3.1), (0, .retAddr b), (1, .ref i1), (2, .ref i2), (3, .ref i3), (4, .int y4)]) (Nat.le_of_ble_eq_true rfl) rfl ?_
  refine tq_aload_n (M := mL_law b n xs) (pc := 803) dL_law_803 rfl ?_
  refine tq_xload (M := mL_law b n xs) (pc := 804) dL_law_804 rfl ?_
  refine tq_iload (M := mL_law b n xs) (pc := 805) dL_law_805 rfl ?_
  refine tq_iconst (M := mL_law b n xs) (pc := 807) dL_law_807 tk_ki_1 ?_
  refine tq_iadd (M := mL_law b n xs) (pc := 808) dL_law_808 ?_
  obtain ⟨x4, ex4, hf⟩ := tq_be hf
  refine tq_xld (M := mL_law b n xs) (pc := 809) dL_law_809 (n := n) (xs := xs) rfl ex4 ?_
  refine tq_xload (M := mL_law b n xs) (pc := 810) dL_law_810 rfl ?_
  refine tq_iload (M := mL_law b n xs) (pc := 811) dL_law_811 rfl ?_
  refine tq_iconst (M := mL_law b n xs) (pc := 813) dL_law_813 tk_ki_2 ?_
  refine tq_iadd (M := mL_law b n xs) (pc := 814) dL_law_814 ?_
  obtain ⟨x5, ex5, hf⟩ := tq_be hf
  refine tq_xld (M := mL_law b n xs) (pc := 815) dL_law_815 (n := n) (xs := xs) rfl ex5 ?_
  obtain ⟨⟨⟩, eu7, hf⟩ := tq_be hf
  obtain ⟨fsu7, eu7⟩ := tq_is_s eu7
  obtain ⟨v6, ev6, hf⟩ := tq_be hf
  refine tq_calV (M := mL_law b n xs) (pc := 816) (S := []) tk_y_X11_declare tk_v_X11_declare tk_RL_202 dL_law_816 [.int x4, .int x5] rfl (S0 := _) rfl eu7 rfl (Nat.le_of_ble_eq_true rfl) (d1 := d - 1) (b1 := 0) (s1 := 0) (bc' := (0 + bc)) (bs' := (0 + bs)) (Q1 := fun r h9 => r = .inl (some (.int v6.1)) ∧ v6.2 = h9) (by omega) (by omega) (by omega) (w_X11_declare (by omega) ev6 (fun _ _ q => q)) (fun E h9 q => nomatch (show (Sum.inr E : tq_R) = Sum.inl _ from q.1)) (fun r9 h9 q => ?_)
  obtain ⟨q1, rfl⟩ := q
  cases (show (Sum.inl r9 : tq_R) = Sum.inl (some (.int v6.1)) from q1)
  refine tq_istore (M := mL_law b n xs) (pc := 819) dL_law_819 (L2 := [(6, .int v6.1), (5, .int v3.1), (0, .retAddr b), (1, .ref i1), (2, .ref i2), (3, .ref i3), (4, .int y4)]) (Nat.le_of_ble_eq_true rfl) rfl ?_
  refine tq_aload_n (M := mL_law b n xs) (pc := 821) dL_law_821 rfl ?_
  obtain ⟨⟨⟩, eu9, hf⟩ := tq_be hf
  obtain ⟨fsu9, eu9⟩ := tq_is_s eu9
  obtain ⟨v8, ev8, hf⟩ := tq_be hf
  refine tq_calV (M := mL_law b n xs) (pc := 822) (S := []) tk_y_X11_thrown tk_v_X11_thrown tk_RL_177 dL_law_822 [] rfl (S0 := _) rfl eu9 rfl (Nat.le_of_ble_eq_true rfl) (d1 := d - 1) (b1 := 0) (s1 := 0) (bc' := (0 + bc)) (bs' := (0 + bs)) (Q1 := fun r h9 => r = .inl (some (.int v8)) ∧ v6.2 = h9) (by omega) (by omega) (by omega) (w_X11_thrown (by omega) ev8 (fun _ _ q => q)) (fun E h9 q => nomatch (show (Sum.inr E : tq_R) = Sum.inl _ from q.1)) (fun r9 h9 q => ?_)
  obtain ⟨q1, rfl⟩ := q
  cases (show (Sum.inl r9 : tq_R) = Sum.inl (some (.int v8)) from q1)
  refine tq_iload (M := mL_law b n xs) (pc := 825) dL_law_825 rfl ?_
  refine tq_icmp_eq (M := mL_law b n xs) (pc := 827) (tgt := 832) dL_law_827 (by decide) (fun cc => ?_) (fun cc => ?_)
  · have hf := tq_ifp hf cc
    refine tq_iload (M := mL_law b n xs) (pc := 832) dL_law_832 rfl ?_
    refine tq_if_ne (M := mL_law b n xs) (pc := 834) (tgt := 849) dL_law_834 (by decide) (fun cc => ?_) (fun cc => ?_)
    · have hf := tq_ifn hf cc
      refine tq_goto (M := mL_law b n xs) (pc := 849) (tgt := 3605) dL_law_849 (by decide) ?_
      obtain ⟨x10, ex10, hf⟩ := tq_le hf
      refine tq_iinc (M := mL_law b n xs) (pc := 3605) (v := x10) (L2 := [(4, .int x10), (6, .int v6.1), (5, .int v3.1), (0, .retAddr b), (1, .ref i1), (2, .ref i2), (3, .ref i3)]) dL_law_3605 rfl (by rw [ex10, tk_ki_5]) (Nat.le_of_ble_eq_true rfl) rfl ?_
      refine tq_goto (M := mL_law b n xs) (pc := 3608) (tgt := 23) dL_law_3608 (by decide) ?_
      refine tq_pick (L2 := [(0, .retAddr b), (1, .ref i1), (2, .ref i2), (3, .ref i3), (4, .int x10)]) [3, 4, 5, 6, 0] rfl ?_
      cases (Option.some.inj hf)
      exact tq_more (by omega) (by omega) (hc _ rfl)
    · have hf := tq_ifp hf cc
      refine tq_aload_n (M := mL_law b n xs) (pc := 837) dL_law_837 rfl ?_
      refine tq_iconst (M := mL_law b n xs) (pc := 838) dL_law_838 tk_ki_0 ?_
      obtain ⟨x11, ex11, hf⟩ := tq_be hf
      refine tq_laldF (M := mL_law b n xs) (pc := 839) dL_law_839 ex11 ?_
      refine tq_iload (M := mL_law b n xs) (pc := 840) dL_law_840 rfl ?_
      refine tq_i2l (M := mL_law b n xs) (pc := 842) dL_law_842 ?_
      refine tq_lcmp (M := mL_law b n xs) (pc := 843) dL_law_843 ?_
      refine tq_if_eq (M := mL_law b n xs) (pc := 844) (tgt := 849) dL_law_844 (by decide) (fun cc => ?_) (fun cc => ?_)
      · have hf := tq_ifp hf cc
        refine tq_goto (M := mL_law b n xs) (pc := 849) (tgt := 3605) dL_law_849 (by decide) ?_
        obtain ⟨x12, ex12, hf⟩ := tq_le hf
        refine tq_iinc (M := mL_law b n xs) (pc := 3605) (v := x12) (L2 := [(4, .int x12), (6, .int v6.1), (5, .int v3.1), (0, .retAddr b), (1, .ref i1), (2, .ref i2), (3, .ref i3)]) dL_law_3605 rfl (by rw [ex12, tk_ki_5]) (Nat.le_of_ble_eq_true rfl) rfl ?_
        refine tq_goto (M := mL_law b n xs) (pc := 3608) (tgt := 23) dL_law_3608 (by decide) ?_
        refine tq_pick (L2 := [(0, .retAddr b), (1, .ref i1), (2, .ref i2), (3, .ref i3), (4, .int x12)]) [3, 4, 5, 6, 0] rfl ?_
        cases (Option.some.inj hf)
        exact tq_more (by omega) (by omega) (hc _ rfl)
      · have hf := tq_ifn hf cc
        refine tq_iconst (M := mL_law b n xs) (pc := 847) dL_law_847 tk_ki_0 ?_
        refine tq_zret (M := mL_law b n xs) (pc := 848) dL_law_848 rfl (Or.inl rfl) ?_
        cases (Option.some.inj hf)
        exact hx _ rfl
  · have hf := tq_ifn hf cc
    refine tq_iconst (M := mL_law b n xs) (pc := 830) dL_law_830 tk_ki_0 ?_
    refine tq_zret (M := mL_law b n xs) (pc := 831) dL_law_831 rfl (Or.inl rfl) ?_
    cases (Option.some.inj hf)
    exact hx _ rfl
def f_L_law_c852 (n : Nat) (xs : Nat → Int32) (i1 i2 i3 : Nat) (y4 : Int32) (hh : tq_H) : Option ((Int32 × tq_H) ⊕ (Int32 × tq_H)) :=
  (f_L_apply i1 i3 hh).bind fun v1 =>
  (tq_is v1.2 i2 11).bind fun _ =>
  (f_X11_apply i2 v1.2).bind fun v2 =>
  (tq_is v2.2 i2 11).bind fun _ =>
  (f_X11_thrown i2 v2.2).bind fun v4 =>
  if v4 = v1.1 then
    if v1.1 = 0 then
      (tq_aj v2.2 i3 (0 : Int32)).bind fun x7 =>
      if (lg_cmp x7 (v2.1).toInt64) = 0 then
        tq_let (y4 + (5 : Int32)) fun x8 =>
        some (.inl (x8, v2.2))
      else
        some (.inr ((0 : Int32), v2.2))
    else
      tq_let (y4 + (5 : Int32)) fun x6 =>
      some (.inl (x6, v2.2))
  else
    some (.inr ((0 : Int32), v2.2))
set_option maxHeartbeats 4000000 in
set_option maxRecDepth 20000 in
theorem c_L_law_852 {l : Launch} {d : Nat} (hd9 : 10 ≤ d) {b n : Nat} {xs : Nat → Int32} {i1 i2 i3 : Nat} {y4 : Int32} {hh : tq_H} {Q : tq_R → tq_H → Prop} {bc bs : Nat} {oo : (Int32 × tq_H) ⊕ (Int32 × tq_H)} (hf : f_L_law_c852 n xs i1 i2 i3 y4 hh = some oo) (hc : ∀ s9, oo = .inl s9 → tq_W l (mL_law b n xs) d bc bs Q 23 [(0, .retAddr b), (1, .ref i1), (2, .ref i2), (3, .ref i3), (4, .int s9.1)] [] s9.2) (hx : ∀ e9, oo = .inr e9 → Q (.inl (some (.int e9.1))) e9.2) : tq_W l (mL_law b n xs) d (1 + bc) (6 + bs) Q 852 [(0, .retAddr b), (1, .ref i1), (2, .ref i2), (3, .ref i3), (4, .int y4)] [] hh := by
  refine tq_aload_n (M := mL_law b n xs) (pc := 852) dL_law_852 rfl ?_
  refine tq_aload_n (M := mL_law b n xs) (pc := 853) dL_law_853 rfl ?_
  obtain ⟨v1, ev1, hf⟩ := tq_be hf
  refine tq_calSW (M := mL_law b n xs) (pc := 854) (S := []) tk_w_L_apply.1 tk_w_L_apply.2.1 tk_w_L_apply.2.2.1 tk_w_L_apply.2.2.2.1 tk_w_L_apply.2.2.2.2 tk_s_L_apply tk_RL_203 dL_law_854 [.ref i1, .ref i3] rfl (Nat.le_of_ble_eq_true rfl) (d1 := d - 1) (b1 := 1) (s1 := 6) (bc' := (0 + bc)) (bs' := (0 + bs)) (Q1 := fun r h9 => r = .inl (some (.int v1.1)) ∧ v1.2 = h9) (by omega) (by omega) (by omega) (w_L_apply (by omega) ev1 (fun _ _ q => q)) (fun E h9 q => nomatch (show (Sum.inr E : tq_R) = Sum.inl _ from q.1)) (fun r9 h9 q => ?_)
  obtain ⟨q1, rfl⟩ := q
  cases (show (Sum.inl r9 : tq_R) = Sum.inl (some (.int v1.1)) from q1)
  refine tq_istore (M := mL_law b n xs) (pc := 857) dL_law_857 (L2 := [(5, .int v1.1), (0, .retAddr b), (1, .ref i1), (2, .ref i2), (3, .ref i3), (4, .int y4)]) (Nat.le_of_ble_eq_true rfl) rfl ?_
  refine tq_aload_n (M := mL_law b n xs) (pc := 859) dL_law_859 rfl ?_
  obtain ⟨⟨⟩, eu3, hf⟩ := tq_be hf
  obtain ⟨fsu3, eu3⟩ := tq_is_s eu3
  obtain ⟨v2, ev2, hf⟩ := tq_be hf
  refine tq_calV (M := mL_law b n xs) (pc := 860) (S := []) tk_y_X11_apply tk_v_X11_apply tk_RL_206 dL_law_860 [] rfl (S0 := _) rfl eu3 rfl (Nat.le_of_ble_eq_true rfl) (d1 := d - 1) (b1 := 0) (s1 := 0) (bc' := (0 + bc)) (bs' := (0 + bs)) (Q1 := fun r h9 => r = .inl (some (.int v2.1)) ∧ v2.2 = h9) (by omega) (by omega) (by omega) (w_X11_apply (by omega) ev2 (fun _ _ q => q)) (fun E h9 q => nomatch (show (Sum.inr E : tq_R) = Sum.inl _ from q.1)) (fun r9 h9 q => ?_)
  obtain ⟨q1, rfl⟩ := q
  cases (show (Sum.inl r9 : tq_R) = Sum.inl (some (.int v2.1)) from q1)
  refine tq_istore (M := mL_law b n xs) (pc := 863) dL_law_863 (L2 := [(6, .int v2.1), (5, .int v1.1), (0, .retAddr b), (1, .ref i1), (2, .ref i2), (3, .ref i3), (4, .int y4)]) (Nat.le_of_ble_eq_true rfl) rfl ?_
  refine tq_aload_n (M := mL_law b n xs) (pc := 865) dL_law_865 rfl ?_
  obtain ⟨⟨⟩, eu5, hf⟩ := tq_be hf
  obtain ⟨fsu5, eu5⟩ := tq_is_s eu5
  obtain ⟨v4, ev4, hf⟩ := tq_be hf
  refine tq_calV (M := mL_law b n xs) (pc := 866) (S := []) tk_y_X11_thrown tk_v_X11_thrown tk_RL_177 dL_law_866 [] rfl (S0 := _) rfl eu5 rfl (Nat.le_of_ble_eq_true rfl) (d1 := d - 1) (b1 := 0) (s1 := 0) (bc' := (0 + bc)) (bs' := (0 + bs)) (Q1 := fun r h9 => r = .inl (some (.int v4)) ∧ v2.2 = h9) (by omega) (by omega) (by omega) (w_X11_thrown (by omega) ev4 (fun _ _ q => q)) (fun E h9 q => nomatch (show (Sum.inr E : tq_R) = Sum.inl _ from q.1)) (fun r9 h9 q => ?_)
  obtain ⟨q1, rfl⟩ := q
  cases (show (Sum.inl r9 : tq_R) = Sum.inl (some (.int v4)) from q1)
  refine tq_iload (M := mL_law b n xs) (pc := 869) dL_law_869 rfl ?_
  refine tq_icmp_eq (M := mL_law b n xs) (pc := 871) (tgt := 876) dL_law_871 (by decide) (fun cc => ?_) (fun cc => ?_)
  · have hf := tq_ifp hf cc
    refine tq_iload (M := mL_law b n xs) (pc := 876) dL_law_876 rfl ?_
    refine tq_if_ne (M := mL_law b n xs) (pc := 878) (tgt := 893) dL_law_878 (by decide) (fun cc => ?_) (fun cc => ?_)
    · have hf := tq_ifn hf cc
      refine tq_goto (M := mL_law b n xs) (pc := 893) (tgt := 3605) dL_law_893 (by decide) ?_
      obtain ⟨x6, ex6, hf⟩ := tq_le hf
      refine tq_iinc (M := mL_law b n xs) (pc := 3605) (v := x6) (L2 := [(4, .int x6), (6, .int v2.1), (5, .int v1.1), (0, .retAddr b), (1, .ref i1), (2, .ref i2), (3, .ref i3)]) dL_law_3605 rfl (by rw [ex6, tk_ki_5]) (Nat.le_of_ble_eq_true rfl) rfl ?_
      refine tq_goto (M := mL_law b n xs) (pc := 3608) (tgt := 23) dL_law_3608 (by decide) ?_
      refine tq_pick (L2 := [(0, .retAddr b), (1, .ref i1), (2, .ref i2), (3, .ref i3), (4, .int x6)]) [3, 4, 5, 6, 0] rfl ?_
      cases (Option.some.inj hf)
      exact tq_more (by omega) (by omega) (hc _ rfl)
    · have hf := tq_ifp hf cc
      refine tq_aload_n (M := mL_law b n xs) (pc := 881) dL_law_881 rfl ?_
      refine tq_iconst (M := mL_law b n xs) (pc := 882) dL_law_882 tk_ki_0 ?_
      obtain ⟨x7, ex7, hf⟩ := tq_be hf
      refine tq_laldF (M := mL_law b n xs) (pc := 883) dL_law_883 ex7 ?_
      refine tq_iload (M := mL_law b n xs) (pc := 884) dL_law_884 rfl ?_
      refine tq_i2l (M := mL_law b n xs) (pc := 886) dL_law_886 ?_
      refine tq_lcmp (M := mL_law b n xs) (pc := 887) dL_law_887 ?_
      refine tq_if_eq (M := mL_law b n xs) (pc := 888) (tgt := 893) dL_law_888 (by decide) (fun cc => ?_) (fun cc => ?_)
      · have hf := tq_ifp hf cc
        refine tq_goto (M := mL_law b n xs) (pc := 893) (tgt := 3605) dL_law_893 (by decide) ?_
        obtain ⟨x8, ex8, hf⟩ := tq_le hf
        refine tq_iinc (M := mL_law b n xs) (pc := 3605) (v := x8) (L2 := [(4, .int x8), (6, .int v2.1), (5, .int v1.1), (0, .retAddr b), (1, .ref i1), (2, .ref i2), (3, .ref i3)]) dL_law_3605 rfl (by rw [ex8, tk_ki_5]) (Nat.le_of_ble_eq_true rfl) rfl ?_
        refine tq_goto (M := mL_law b n xs) (pc := 3608) (tgt := 23) dL_law_3608 (by decide) ?_
        refine tq_pick (L2 := [(0, .retAddr b), (1, .ref i1), (2, .ref i2), (3, .ref i3), (4, .int x8)]) [3, 4, 5, 6, 0] rfl ?_
        cases (Option.some.inj hf)
        exact tq_more (by omega) (by omega) (hc _ rfl)
      · have hf := tq_ifn hf cc
        refine tq_iconst (M := mL_law b n xs) (pc := 891) dL_law_891 tk_ki_0 ?_
        refine tq_zret (M := mL_law b n xs) (pc := 892) dL_law_892 rfl (Or.inl rfl) ?_
        cases (Option.some.inj hf)
        exact hx _ rfl
  · have hf := tq_ifn hf cc
    refine tq_iconst (M := mL_law b n xs) (pc := 874) dL_law_874 tk_ki_0 ?_
    refine tq_zret (M := mL_law b n xs) (pc := 875) dL_law_875 rfl (Or.inl rfl) ?_
    cases (Option.some.inj hf)
    exact hx _ rfl
def f_L_law_c896 (n : Nat) (xs : Nat → Int32) (i1 i2 i3 : Nat) (y4 : Int32) (hh : tq_H) : Option ((Int32 × tq_H) ⊕ (Int32 × tq_H)) :=
  (tq_is hh i1 10).bind fun _ =>
  (f_X10_forget i1 hh).bind fun v1 =>
  (tq_is v1.2 i2 11).bind fun _ =>
  (f_X11_forget i2 v1.2).bind fun v3 =>
  if v1.1 = v3.1 then
    tq_let (y4 + (5 : Int32)) fun x5 =>
    some (.inl (x5, v3.2))
  else
    some (.inr ((0 : Int32), v3.2))
set_option maxHeartbeats 4000000 in
set_option maxRecDepth 20000 in
theorem c_L_law_896 {l : Launch} {d : Nat} (hd9 : 10 ≤ d) {b n : Nat} {xs : Nat → Int32} {i1 i2 i3 : Nat} {y4 : Int32} {hh : tq_H} {Q : tq_R → tq_H → Prop} {bc bs : Nat} {oo : (Int32 × tq_H) ⊕ (Int32 × tq_H)} (hf : f_L_law_c896 n xs i1 i2 i3 y4 hh = some oo) (hc : ∀ s9, oo = .inl s9 → tq_W l (mL_law b n xs) d bc bs Q 23 [(0, .retAddr b), (1, .ref i1), (2, .ref i2), (3, .ref i3), (4, .int s9.1)] [] s9.2) (hx : ∀ e9, oo = .inr e9 → Q (.inl (some (.int e9.1))) e9.2) : tq_W l (mL_law b n xs) d (0 + bc) (0 + bs) Q 896 [(0, .retAddr b), (1, .ref i1), (2, .ref i2), (3, .ref i3), (4, .int y4)] [] hh := by
  refine tq_aload_n (M := mL_law b n xs) (pc := 896) dL_law_896 rfl ?_
  obtain ⟨⟨⟩, eu2, hf⟩ := tq_be hf
  obtain ⟨fsu2, eu2⟩ := tq_is_s eu2
  obtain ⟨v1, ev1, hf⟩ := tq_be hf
  refine tq_calV (M := mL_law b n xs) (pc := 897) (S := []) tk_y_X10_forget tk_v_X10_forget tk_RL_207 dL_law_897 [] rfl (S0 := _) rfl eu2 rfl (Nat.le_of_ble_eq_true rfl) (d1 := d - 1) (b1 := 0) (s1 := 0) (bc' := (0 + bc)) (bs' := (0 + bs)) (Q1 := fun r h9 => r = .inl (some (.int v1.1)) ∧ v1.2 = h9) (by omega) (by omega) (by omega) (w_X10_forget (by omega) ev1 (fun _ _ q => q)) (fun E h9 q => nomatch (show (Sum.inr E : tq_R) = Sum.inl _ from q.1)) (fun r9 h9 q => ?_)
  obtain ⟨q1, rfl⟩ := q
  cases (show (Sum.inl r9 : tq_R) = Sum.inl (some (.int v1.1)) from q1)
  refine tq_aload_n (M := mL_law b n xs) (pc := 900) dL_law_900 rfl ?_
  obtain ⟨⟨⟩, eu4, hf⟩ := tq_be hf
  obtain ⟨fsu4, eu4⟩ := tq_is_s eu4
  obtain ⟨v3, ev3, hf⟩ := tq_be hf
  refine tq_calV (M := mL_law b n xs) (pc := 901) (S := [.int v1.1]) tk_y_X11_forget tk_v_X11_forget tk_RL_210 dL_law_901 [] rfl (S0 := _) rfl eu4 rfl (Nat.le_of_ble_eq_true rfl) (d1 := d - 1) (b1 := 0) (s1 := 0) (bc' := (0 + bc)) (bs' := (0 + bs)) (Q1 := fun r h9 => r = .inl (some (.int v3.1)) ∧ v3.2 = h9) (by omega) (by omega) (by omega) (w_X11_forget (by omega) ev3 (fun _ _ q => q)) (fun E h9 q => nomatch (show (Sum.inr E : tq_R) = Sum.inl _ from q.1)) (fun r9 h9 q => ?_)
  obtain ⟨q1, rfl⟩ := q
  cases (show (Sum.inl r9 : tq_R) = Sum.inl (some (.int v3.1)) from q1)
  refine tq_icmp_eq (M := mL_law b n xs) (pc := 904) (tgt := 3605) dL_law_904 (by decide) (fun cc => ?_) (fun cc => ?_)
  · have hf := tq_ifp hf cc
    obtain ⟨x5, ex5, hf⟩ := tq_le hf
    refine tq_iinc (M := mL_law b n xs) (pc := 3605) (v := x5) (L2 := [(4, .int x5), (0, .retAddr b), (1, .ref i1), (2, .ref i2), (3, .ref i3)]) dL_law_3605 rfl (by rw [ex5, tk_ki_5]) (Nat.le_of_ble_eq_true rfl) rfl ?_
    refine tq_goto (M := mL_law b n xs) (pc := 3608) (tgt := 23) dL_law_3608 (by decide) ?_
    refine tq_pick (L2 := [(0, .retAddr b), (1, .ref i1), (2, .ref i2), (3, .ref i3), (4, .int x5)]) [1, 2, 3, 4, 0] rfl ?_
    cases (Option.some.inj hf)
    exact tq_more (by omega) (by omega) (hc _ rfl)
  · have hf := tq_ifn hf cc
    refine tq_iconst (M := mL_law b n xs) (pc := 907) dL_law_907 tk_ki_0 ?_
    refine tq_zret (M := mL_law b n xs) (pc := 908) dL_law_908 rfl (Or.inl rfl) ?_
    cases (Option.some.inj hf)
    exact hx _ rfl
def f_L_law_c909 (n : Nat) (xs : Nat → Int32) (i1 i2 i3 : Nat) (y4 : Int32) (hh : tq_H) : Option ((Int32 × tq_H) ⊕ (Int32 × tq_H)) :=
  (tq_is hh i1 10).bind fun _ =>
  (f_X10_made i1 hh).bind fun v1 =>
  (tq_is hh i2 11).bind fun _ =>
  (f_X11_made i2 hh).bind fun v3 =>
  if v1 = v3.1 then
    tq_let (y4 + (5 : Int32)) fun x5 =>
    some (.inl (x5, v3.2))
  else
    some (.inr ((0 : Int32), v3.2))
set_option maxHeartbeats 4000000 in
set_option maxRecDepth 20000 in
theorem c_L_law_909 {l : Launch} {d : Nat} (hd9 : 10 ≤ d) {b n : Nat} {xs : Nat → Int32} {i1 i2 i3 : Nat} {y4 : Int32} {hh : tq_H} {Q : tq_R → tq_H → Prop} {bc bs : Nat} {oo : (Int32 × tq_H) ⊕ (Int32 × tq_H)} (hf : f_L_law_c909 n xs i1 i2 i3 y4 hh = some oo) (hc : ∀ s9, oo = .inl s9 → tq_W l (mL_law b n xs) d bc bs Q 23 [(0, .retAddr b), (1, .ref i1), (2, .ref i2), (3, .ref i3), (4, .int s9.1)] [] s9.2) (hx : ∀ e9, oo = .inr e9 → Q (.inl (some (.int e9.1))) e9.2) : tq_W l (mL_law b n xs) d (0 + bc) (0 + bs) Q 909 [(0, .retAddr b), (1, .ref i1), (2, .ref i2), (3, .ref i3), (4, .int y4)] [] hh := by
  refine tq_aload_n (M := mL_law b n xs) (pc := 909) dL_law_909 rfl ?_
  obtain ⟨⟨⟩, eu2, hf⟩ := tq_be hf
  obtain ⟨fsu2, eu2⟩ := tq_is_s eu2
  obtain ⟨v1, ev1, hf⟩ := tq_be hf
  refine tq_calV (M := mL_law b n xs) (pc := 910) (S := []) tk_y_X10_made tk_v_X10_made tk_RL_211 dL_law_910 [] rfl (S0 := _) rfl eu2 rfl (Nat.le_of_ble_eq_true rfl) (d1 := d - 1) (b1 := 0) (s1 := 0) (bc' := (0 + bc)) (bs' := (0 + bs)) (Q1 := fun r h9 => r = .inl (some (.int v1)) ∧ hh = h9) (by omega) (by omega) (by omega) (w_X10_made (by omega) ev1 (fun _ _ q => q)) (fun E h9 q => nomatch (show (Sum.inr E : tq_R) = Sum.inl _ from q.1)) (fun r9 h9 q => ?_)
  obtain ⟨q1, rfl⟩ := q
  cases (show (Sum.inl r9 : tq_R) = Sum.inl (some (.int v1)) from q1)
  refine tq_aload_n (M := mL_law b n xs) (pc := 913) dL_law_913 rfl ?_
  obtain ⟨⟨⟩, eu4, hf⟩ := tq_be hf
  obtain ⟨fsu4, eu4⟩ := tq_is_s eu4
  obtain ⟨v3, ev3, hf⟩ := tq_be hf
  refine tq_calV (M := mL_law b n xs) (pc := 914) (S := [.int v1]) tk_y_X11_made tk_v_X11_made tk_RL_214 dL_law_914 [] rfl (S0 := _) rfl eu4 rfl (Nat.le_of_ble_eq_true rfl) (d1 := d - 1) (b1 := 0) (s1 := 0) (bc' := (0 + bc)) (bs' := (0 + bs)) (Q1 := fun r h9 => r = .inl (some (.int v3.1)) ∧ v3.2 = h9) (by omega) (by omega) (by omega) (w_X11_made (by omega) ev3 (fun _ _ q => q)) (fun E h9 q => nomatch (show (Sum.inr E : tq_R) = Sum.inl _ from q.1)) (fun r9 h9 q => ?_)
  obtain ⟨q1, rfl⟩ := q
  cases (show (Sum.inl r9 : tq_R) = Sum.inl (some (.int v3.1)) from q1)
  refine tq_icmp_eq (M := mL_law b n xs) (pc := 917) (tgt := 3605) dL_law_917 (by decide) (fun cc => ?_) (fun cc => ?_)
  · have hf := tq_ifp hf cc
    obtain ⟨x5, ex5, hf⟩ := tq_le hf
    refine tq_iinc (M := mL_law b n xs) (pc := 3605) (v := x5) (L2 := [(4, .int x5), (0, .retAddr b), (1, .ref i1), (2, .ref i2), (3, .ref i3)]) dL_law_3605 rfl (by rw [ex5, tk_ki_5]) (Nat.le_of_ble_eq_true rfl) rfl ?_
    refine tq_goto (M := mL_law b n xs) (pc := 3608) (tgt := 23) dL_law_3608 (by decide) ?_
    refine tq_pick (L2 := [(0, .retAddr b), (1, .ref i1), (2, .ref i2), (3, .ref i3), (4, .int x5)]) [1, 2, 3, 4, 0] rfl ?_
    cases (Option.some.inj hf)
    exact tq_more (by omega) (by omega) (hc _ rfl)
  · have hf := tq_ifn hf cc
    refine tq_iconst (M := mL_law b n xs) (pc := 920) dL_law_920 tk_ki_0 ?_
    refine tq_zret (M := mL_law b n xs) (pc := 921) dL_law_921 rfl (Or.inl rfl) ?_
    cases (Option.some.inj hf)
    exact hx _ rfl
def f_L_law_c922 (n : Nat) (xs : Nat → Int32) (i1 i2 i3 : Nat) (y4 : Int32) (hh : tq_H) : Option ((Int32 × tq_H) ⊕ (Int32 × tq_H)) :=
  (tq_is hh i1 10).bind fun _ =>
  (f_X10_nodes i1 hh).bind fun v1 =>
  (tq_is hh i2 11).bind fun _ =>
  (f_X11_nodes i2 hh).bind fun v3 =>
  if v1 = v3.1 then
    tq_let (y4 + (5 : Int32)) fun x5 =>
    some (.inl (x5, v3.2))
  else
    some (.inr ((0 : Int32), v3.2))
set_option maxHeartbeats 4000000 in
set_option maxRecDepth 20000 in
theorem c_L_law_922 {l : Launch} {d : Nat} (hd9 : 10 ≤ d) {b n : Nat} {xs : Nat → Int32} {i1 i2 i3 : Nat} {y4 : Int32} {hh : tq_H} {Q : tq_R → tq_H → Prop} {bc bs : Nat} {oo : (Int32 × tq_H) ⊕ (Int32 × tq_H)} (hf : f_L_law_c922 n xs i1 i2 i3 y4 hh = some oo) (hc : ∀ s9, oo = .inl s9 → tq_W l (mL_law b n xs) d bc bs Q 23 [(0, .retAddr b), (1, .ref i1), (2, .ref i2), (3, .ref i3), (4, .int s9.1)] [] s9.2) (hx : ∀ e9, oo = .inr e9 → Q (.inl (some (.int e9.1))) e9.2) : tq_W l (mL_law b n xs) d (0 + bc) (0 + bs) Q 922 [(0, .retAddr b), (1, .ref i1), (2, .ref i2), (3, .ref i3), (4, .int y4)] [] hh := by
  refine tq_aload_n (M := mL_law b n xs) (pc := 922) dL_law_922 rfl ?_
  obtain ⟨⟨⟩, eu2, hf⟩ := tq_be hf
  obtain ⟨fsu2, eu2⟩ := tq_is_s eu2
  obtain ⟨v1, ev1, hf⟩ := tq_be hf
  refine tq_calV (M := mL_law b n xs) (pc := 923) (S := []) tk_y_X10_nodes tk_v_X10_nodes tk_RL_215 dL_law_923 [] rfl (S0 := _) rfl eu2 rfl (Nat.le_of_ble_eq_true rfl) (d1 := d - 1) (b1 := 0) (s1 := 0) (bc' := (0 + bc)) (bs' := (0 + bs)) (Q1 := fun r h9 => r = .inl (some (.int v1)) ∧ hh = h9) (by omega) (by omega) (by omega) (w_X10_nodes (by omega) ev1 (fun _ _ q => q)) (fun E h9 q => nomatch (show (Sum.inr E : tq_R) = Sum.inl _ from q.1)) (fun r9 h9 q => ?_)
  obtain ⟨q1, rfl⟩ := q
  cases (show (Sum.inl r9 : tq_R) = Sum.inl (some (.int v1)) from q1)
  refine tq_aload_n (M := mL_law b n xs) (pc := 926) dL_law_926 rfl ?_
  obtain ⟨⟨⟩, eu4, hf⟩ := tq_be hf
  obtain ⟨fsu4, eu4⟩ := tq_is_s eu4
  obtain ⟨v3, ev3, hf⟩ := tq_be hf
  refine tq_calV (M := mL_law b n xs) (pc := 927) (S := [.int v1]) tk_y_X11_nodes tk_v_X11_nodes tk_RL_218 dL_law_927 [] rfl (S0 := _) rfl eu4 rfl (Nat.le_of_ble_eq_true rfl) (d1 := d - 1) (b1 := 0) (s1 := 0) (bc' := (0 + bc)) (bs' := (0 + bs)) (Q1 := fun r h9 => r = .inl (some (.int v3.1)) ∧ v3.2 = h9) (by omega) (by omega) (by omega) (w_X11_nodes (by omega) ev3 (fun _ _ q => q)) (fun E h9 q => nomatch (show (Sum.inr E : tq_R) = Sum.inl _ from q.1)) (fun r9 h9 q => ?_)
  obtain ⟨q1, rfl⟩ := q
  cases (show (Sum.inl r9 : tq_R) = Sum.inl (some (.int v3.1)) from q1)
  refine tq_icmp_eq (M := mL_law b n xs) (pc := 930) (tgt := 3605) dL_law_930 (by decide) (fun cc => ?_) (fun cc => ?_)
  · have hf := tq_ifp hf cc
    obtain ⟨x5, ex5, hf⟩ := tq_le hf
    refine tq_iinc (M := mL_law b n xs) (pc := 3605) (v := x5) (L2 := [(4, .int x5), (0, .retAddr b), (1, .ref i1), (2, .ref i2), (3, .ref i3)]) dL_law_3605 rfl (by rw [ex5, tk_ki_5]) (Nat.le_of_ble_eq_true rfl) rfl ?_
    refine tq_goto (M := mL_law b n xs) (pc := 3608) (tgt := 23) dL_law_3608 (by decide) ?_
    refine tq_pick (L2 := [(0, .retAddr b), (1, .ref i1), (2, .ref i2), (3, .ref i3), (4, .int x5)]) [1, 2, 3, 4, 0] rfl ?_
    cases (Option.some.inj hf)
    exact tq_more (by omega) (by omega) (hc _ rfl)
  · have hf := tq_ifn hf cc
    refine tq_iconst (M := mL_law b n xs) (pc := 933) dL_law_933 tk_ki_0 ?_
    refine tq_zret (M := mL_law b n xs) (pc := 934) dL_law_934 rfl (Or.inl rfl) ?_
    cases (Option.some.inj hf)
    exact hx _ rfl
def f_L_law_c935 (n : Nat) (xs : Nat → Int32) (i1 i2 i3 : Nat) (y4 : Int32) (hh : tq_H) : Option ((Int32 × tq_H) ⊕ (Int32 × tq_H)) :=
  (tq_sx n xs (y4 + (1 : Int32))).bind fun x1 =>
  (tq_is hh i1 10).bind fun _ =>
  (f_X10_isThere i1 x1 hh).bind fun v2 =>
  (tq_sx n xs (y4 + (1 : Int32))).bind fun x4 =>
  (tq_is hh i2 11).bind fun _ =>
  (f_X11_isThere i2 x4 hh).bind fun v5 =>
  if v2 = v5.1 then
    tq_let (y4 + (5 : Int32)) fun x7 =>
    some (.inl (x7, v5.2))
  else
    some (.inr ((0 : Int32), v5.2))
set_option maxHeartbeats 4000000 in
set_option maxRecDepth 20000 in
theorem c_L_law_935 {l : Launch} {d : Nat} (hd9 : 10 ≤ d) {b n : Nat} {xs : Nat → Int32} {i1 i2 i3 : Nat} {y4 : Int32} {hh : tq_H} {Q : tq_R → tq_H → Prop} {bc bs : Nat} {oo : (Int32 × tq_H) ⊕ (Int32 × tq_H)} (hf : f_L_law_c935 n xs i1 i2 i3 y4 hh = some oo) (hc : ∀ s9, oo = .inl s9 → tq_W l (mL_law b n xs) d bc bs Q 23 [(0, .retAddr b), (1, .ref i1), (2, .ref i2), (3, .ref i3), (4, .int s9.1)] [] s9.2) (hx : ∀ e9, oo = .inr e9 → Q (.inl (some (.int e9.1))) e9.2) : tq_W l (mL_law b n xs) d (0 + bc) (0 + bs) Q 935 [(0, .retAddr b), (1, .ref i1), (2, .ref i2), (3, .ref i3), (4, .int y4)] [] hh := by
  refine tq_aload_n (M := mL_law b n xs) (pc := 935) dL_law_935 rfl ?_
  refine tq_xload (M := mL_law b n xs) (pc := 936) dL_law_936 rfl ?_
  refine tq_iload (M := mL_law b n xs) (pc := 937) dL_law_937 rfl ?_
  refine tq_iconst (M := mL_law b n xs) (pc := 939) dL_law_939 tk_ki_1 ?_
  refine tq_iadd (M := mL_law b n xs) (pc := 940) dL_law_940 ?_
  obtain ⟨x1, ex1, hf⟩ := tq_be hf
  refine tq_xld (M := mL_law b n xs) (pc := 941) dL_law_941 (n := n) (xs := xs) rfl ex1 ?_
  obtain ⟨⟨⟩, eu3, hf⟩ := tq_be hf
  obtain ⟨fsu3, eu3⟩ := tq_is_s eu3
  obtain ⟨v2, ev2, hf⟩ := tq_be hf
  refine tq_calV (M := mL_law b n xs) (pc := 942) (S := []) tk_y_X10_isThere tk_v_X10_isThere tk_RL_219 dL_law_942 [.int x1] rfl (S0 := _) rfl eu3 rfl (Nat.le_of_ble_eq_true rfl) (d1 := d - 1) (b1 := 0) (s1 := 0) (bc' := (0 + bc)) (bs' := (0 + bs)) (Q1 := fun r h9 => r = .inl (some (.int v2)) ∧ hh = h9) (by omega) (by omega) (by omega) (w_X10_isThere (by omega) ev2 (fun _ _ q => q)) (fun E h9 q => nomatch (show (Sum.inr E : tq_R) = Sum.inl _ from q.1)) (fun r9 h9 q => ?_)
  obtain ⟨q1, rfl⟩ := q
  cases (show (Sum.inl r9 : tq_R) = Sum.inl (some (.int v2)) from q1)
  refine tq_aload_n (M := mL_law b n xs) (pc := 945) dL_law_945 rfl ?_
  refine tq_xload (M := mL_law b n xs) (pc := 946) dL_law_946 rfl ?_
  refine tq_iload (M := mL_law b n xs) (pc := 947) dL_law_947 rfl ?_
  refine tq_iconst (M := mL_law b n xs) (pc := 949) dL_law_949 tk_ki_1 ?_
  refine tq_iadd (M := mL_law b n xs) (pc := 950) dL_law_950 ?_
  obtain ⟨x4, ex4, hf⟩ := tq_be hf
  refine tq_xld (M := mL_law b n xs) (pc := 951) dL_law_951 (n := n) (xs := xs) rfl ex4 ?_
  obtain ⟨⟨⟩, eu6, hf⟩ := tq_be hf
  obtain ⟨fsu6, eu6⟩ := tq_is_s eu6
  obtain ⟨v5, ev5, hf⟩ := tq_be hf
  refine tq_calV (M := mL_law b n xs) (pc := 952) (S := [.int v2]) tk_y_X11_isThere tk_v_X11_isThere tk_RL_222 dL_law_952 [.int x4] rfl (S0 := _) rfl eu6 rfl (Nat.le_of_ble_eq_true rfl) (d1 := d - 1) (b1 := 0) (s1 := 0) (bc' := (0 + bc)) (bs' := (0 + bs)) (Q1 := fun r h9 => r = .inl (some (.int v5.1)) ∧ v5.2 = h9) (by omega) (by omega) (by omega) (w_X11_isThere (by omega) ev5 (fun _ _ q => q)) (fun E h9 q => nomatch (show (Sum.inr E : tq_R) = Sum.inl _ from q.1)) (fun r9 h9 q => ?_)
  obtain ⟨q1, rfl⟩ := q
  cases (show (Sum.inl r9 : tq_R) = Sum.inl (some (.int v5.1)) from q1)
  refine tq_icmp_eq (M := mL_law b n xs) (pc := 955) (tgt := 3605) dL_law_955 (by decide) (fun cc => ?_) (fun cc => ?_)
  · have hf := tq_ifp hf cc
    obtain ⟨x7, ex7, hf⟩ := tq_le hf
    refine tq_iinc (M := mL_law b n xs) (pc := 3605) (v := x7) (L2 := [(4, .int x7), (0, .retAddr b), (1, .ref i1), (2, .ref i2), (3, .ref i3)]) dL_law_3605 rfl (by rw [ex7, tk_ki_5]) (Nat.le_of_ble_eq_true rfl) rfl ?_
    refine tq_goto (M := mL_law b n xs) (pc := 3608) (tgt := 23) dL_law_3608 (by decide) ?_
    refine tq_pick (L2 := [(0, .retAddr b), (1, .ref i1), (2, .ref i2), (3, .ref i3), (4, .int x7)]) [1, 2, 3, 4, 0] rfl ?_
    cases (Option.some.inj hf)
    exact tq_more (by omega) (by omega) (hc _ rfl)
  · have hf := tq_ifn hf cc
    refine tq_iconst (M := mL_law b n xs) (pc := 958) dL_law_958 tk_ki_0 ?_
    refine tq_zret (M := mL_law b n xs) (pc := 959) dL_law_959 rfl (Or.inl rfl) ?_
    cases (Option.some.inj hf)
    exact hx _ rfl
def f_L_law_c960 (n : Nat) (xs : Nat → Int32) (i1 i2 i3 : Nat) (y4 : Int32) (hh : tq_H) : Option ((Int32 × tq_H) ⊕ (Int32 × tq_H)) :=
  (tq_sx n xs (y4 + (1 : Int32))).bind fun x1 =>
  (f_L_kind i1 x1 i3 hh).bind fun v2 =>
  (tq_sx n xs (y4 + (1 : Int32))).bind fun x3 =>
  (tq_is v2.2 i2 11).bind fun _ =>
  (f_X11_kind i2 x3 v2.2).bind fun v4 =>
  (tq_is v4.2 i2 11).bind fun _ =>
  (f_X11_thrown i2 v4.2).bind fun v6 =>
  if v6 = v2.1 then
    if v2.1 = 0 then
      (tq_aj v4.2 i3 (0 : Int32)).bind fun x9 =>
      if (lg_cmp x9 (v4.1).toInt64) = 0 then
        tq_let (y4 + (5 : Int32)) fun x10 =>
        some (.inl (x10, v4.2))
      else
        some (.inr ((0 : Int32), v4.2))
    else
      tq_let (y4 + (5 : Int32)) fun x8 =>
      some (.inl (x8, v4.2))
  else
    some (.inr ((0 : Int32), v4.2))
set_option maxHeartbeats 4000000 in
set_option maxRecDepth 20000 in
theorem c_L_law_960 {l : Launch} {d : Nat} (hd9 : 10 ≤ d) {b n : Nat} {xs : Nat → Int32} {i1 i2 i3 : Nat} {y4 : Int32} {hh : tq_H} {Q : tq_R → tq_H → Prop} {bc bs : Nat} {oo : (Int32 × tq_H) ⊕ (Int32 × tq_H)} (hf : f_L_law_c960 n xs i1 i2 i3 y4 hh = some oo) (hc : ∀ s9, oo = .inl s9 → tq_W l (mL_law b n xs) d bc bs Q 23 [(0, .retAddr b), (1, .ref i1), (2, .ref i2), (3, .ref i3), (4, .int s9.1)] [] s9.2) (hx : ∀ e9, oo = .inr e9 → Q (.inl (some (.int e9.1))) e9.2) : tq_W l (mL_law b n xs) d (1 + bc) (6 + bs) Q 960 [(0, .retAddr b), (1, .ref i1), (2, .ref i2), (3, .ref i3), (4, .int y4)] [] hh := by
  refine tq_aload_n (M := mL_law b n xs) (pc := 960) dL_law_960 rfl ?_
  refine tq_xload (M := mL_law b n xs) (pc := 961) dL_law_961 rfl ?_
  refine tq_iload (M := mL_law b n xs) (pc := 962) dL_law_962 rfl ?_
  refine tq_iconst (M := mL_law b n xs) (pc := 964) dL_law_964 tk_ki_1 ?_
  refine tq_iadd (M := mL_law b n xs) (pc := 965) dL_law_965 ?_
  obtain ⟨x1, ex1, hf⟩ := tq_be hf
  refine tq_xld (M := mL_law b n xs) (pc := 966) dL_law_966 (n := n) (xs := xs) rfl ex1 ?_
  refine tq_aload_n (M := mL_law b n xs) (pc := 967) dL_law_967 rfl ?_
  obtain ⟨v2, ev2, hf⟩ := tq_be hf
  refine tq_calSW (M := mL_law b n xs) (pc := 968) (S := []) tk_w_L_kind.1 tk_w_L_kind.2.1 tk_w_L_kind.2.2.1 tk_w_L_kind.2.2.2.1 tk_w_L_kind.2.2.2.2 tk_s_L_kind tk_RL_223 dL_law_968 [.ref i1, .int x1, .ref i3] rfl (Nat.le_of_ble_eq_true rfl) (d1 := d - 1) (b1 := 1) (s1 := 6) (bc' := (0 + bc)) (bs' := (0 + bs)) (Q1 := fun r h9 => r = .inl (some (.int v2.1)) ∧ v2.2 = h9) (by omega) (by omega) (by omega) (w_L_kind (by omega) ev2 (fun _ _ q => q)) (fun E h9 q => nomatch (show (Sum.inr E : tq_R) = Sum.inl _ from q.1)) (fun r9 h9 q => ?_)
  obtain ⟨q1, rfl⟩ := q
  cases (show (Sum.inl r9 : tq_R) = Sum.inl (some (.int v2.1)) from q1)
  refine tq_istore (M := mL_law b n xs) (pc := 971) dL_law_971 (L2 := [(5, .int v2.1), (0, .retAddr b), (1, .ref i1), (2, .ref i2), (3, .ref i3), (4, .int y4)]) (Nat.le_of_ble_eq_true rfl) rfl ?_
  refine tq_aload_n (M := mL_law b n xs) (pc := 973) dL_law_973 rfl ?_
  refine tq_xload (M := mL_law b n xs) (pc := 974) dL_law_974 rfl ?_
  refine tq_iload (M := mL_law b n xs) (pc := 975) dL_law_975 rfl ?_
  refine tq_iconst (M := mL_law b n xs) (pc := 977) dL_law_977 tk_ki_1 ?_
  refine tq_iadd (M := mL_law b n xs) (pc := 978) dL_law_978 ?_
  obtain ⟨x3, ex3, hf⟩ := tq_be hf
  refine tq_xld (M := mL_law b n xs) (pc := 979) dL_law_979 (n := n) (xs := xs) rfl ex3 ?_
  obtain ⟨⟨⟩, eu5, hf⟩ := tq_be hf
  obtain ⟨fsu5, eu5⟩ := tq_is_s eu5
  obtain ⟨v4, ev4, hf⟩ := tq_be hf
  refine tq_calV (M := mL_law b n xs) (pc := 980) (S := []) tk_y_X11_kind tk_v_X11_kind tk_RL_225 dL_law_980 [.int x3] rfl (S0 := _) rfl eu5 rfl (Nat.le_of_ble_eq_true rfl) (d1 := d - 1) (b1 := 0) (s1 := 0) (bc' := (0 + bc)) (bs' := (0 + bs)) (Q1 := fun r h9 => r = .inl (some (.int v4.1)) ∧ v4.2 = h9) (by omega) (by omega) (by omega) (w_X11_kind (by omega) ev4 (fun _ _ q => q)) (fun E h9 q => nomatch (show (Sum.inr E : tq_R) = Sum.inl _ from q.1)) (fun r9 h9 q => ?_)
  obtain ⟨q1, rfl⟩ := q
  cases (show (Sum.inl r9 : tq_R) = Sum.inl (some (.int v4.1)) from q1)
  refine tq_istore (M := mL_law b n xs) (pc := 983) dL_law_983 (L2 := [(6, .int v4.1), (5, .int v2.1), (0, .retAddr b), (1, .ref i1), (2, .ref i2), (3, .ref i3), (4, .int y4)]) (Nat.le_of_ble_eq_true rfl) rfl ?_
  refine tq_aload_n (M := mL_law b n xs) (pc := 985) dL_law_985 rfl ?_
  obtain ⟨⟨⟩, eu7, hf⟩ := tq_be hf
  obtain ⟨fsu7, eu7⟩ := tq_is_s eu7
  obtain ⟨v6, ev6, hf⟩ := tq_be hf
  refine tq_calV (M := mL_law b n xs) (pc := 986) (S := []) tk_y_X11_thrown tk_v_X11_thrown tk_RL_177 dL_law_986 [] rfl (S0 := _) rfl eu7 rfl (Nat.le_of_ble_eq_true rfl) (d1 := d - 1) (b1 := 0) (s1 := 0) (bc' := (0 + bc)) (bs' := (0 + bs)) (Q1 := fun r h9 => r = .inl (some (.int v6)) ∧ v4.2 = h9) (by omega) (by omega) (by omega) (w_X11_thrown (by omega) ev6 (fun _ _ q => q)) (fun E h9 q => nomatch (show (Sum.inr E : tq_R) = Sum.inl _ from q.1)) (fun r9 h9 q => ?_)
  obtain ⟨q1, rfl⟩ := q
  cases (show (Sum.inl r9 : tq_R) = Sum.inl (some (.int v6)) from q1)
  refine tq_iload (M := mL_law b n xs) (pc := 989) dL_law_989 rfl ?_
  refine tq_icmp_eq (M := mL_law b n xs) (pc := 991) (tgt := 996) dL_law_991 (by decide) (fun cc => ?_) (fun cc => ?_)
  · have hf := tq_ifp hf cc
    refine tq_iload (M := mL_law b n xs) (pc := 996) dL_law_996 rfl ?_
    refine tq_if_ne (M := mL_law b n xs) (pc := 998) (tgt := 1013) dL_law_998 (by decide) (fun cc => ?_) (fun cc => ?_)
    · have hf := tq_ifn hf cc
      refine tq_goto (M := mL_law b n xs) (pc := 1013) (tgt := 3605) dL_law_1013 (by decide) ?_
      obtain ⟨x8, ex8, hf⟩ := tq_le hf
      refine tq_iinc (M := mL_law b n xs) (pc := 3605) (v := x8) (L2 := [(4, .int x8), (6, .int v4.1), (5, .int v2.1), (0, .retAddr b), (1, .ref i1), (2, .ref i2), (3, .ref i3)]) dL_law_3605 rfl (by rw [ex8, tk_ki_5]) (Nat.le_of_ble_eq_true rfl) rfl ?_
      refine tq_goto (M := mL_law b n xs) (pc := 3608) (tgt := 23) dL_law_3608 (by decide) ?_
      refine tq_pick (L2 := [(0, .retAddr b), (1, .ref i1), (2, .ref i2), (3, .ref i3), (4, .int x8)]) [3, 4, 5, 6, 0] rfl ?_
      cases (Option.some.inj hf)
      exact tq_more (by omega) (by omega) (hc _ rfl)
    · have hf := tq_ifp hf cc
      refine tq_aload_n (M := mL_law b n xs) (pc := 1001) dL_law_1001 rfl ?_
      refine tq_iconst (M := mL_law b n xs) (pc := 1002) dL_law_1002 tk_ki_0 ?_
      obtain ⟨x9, ex9, hf⟩ := tq_be hf
      refine tq_laldF (M := mL_law b n xs) (pc := 1003) dL_law_1003 ex9 ?_
      refine tq_iload (M := mL_law b n xs) (pc := 1004) dL_law_1004 rfl ?_
      refine tq_i2l (M := mL_law b n xs) (pc := 1006) dL_law_1006 ?_
      refine tq_lcmp (M := mL_law b n xs) (pc := 1007) dL_law_1007 ?_
      refine tq_if_eq (M := mL_law b n xs) (pc := 1008) (tgt := 1013) dL_law_1008 (by decide) (fun cc => ?_) (fun cc => ?_)
      · have hf := tq_ifp hf cc
        refine tq_goto (M := mL_law b n xs) (pc := 1013) (tgt := 3605) dL_law_1013 (by decide) ?_
        obtain ⟨x10, ex10, hf⟩ := tq_le hf
        refine tq_iinc (M := mL_law b n xs) (pc := 3605) (v := x10) (L2 := [(4, .int x10), (6, .int v4.1), (5, .int v2.1), (0, .retAddr b), (1, .ref i1), (2, .ref i2), (3, .ref i3)]) dL_law_3605 rfl (by rw [ex10, tk_ki_5]) (Nat.le_of_ble_eq_true rfl) rfl ?_
        refine tq_goto (M := mL_law b n xs) (pc := 3608) (tgt := 23) dL_law_3608 (by decide) ?_
        refine tq_pick (L2 := [(0, .retAddr b), (1, .ref i1), (2, .ref i2), (3, .ref i3), (4, .int x10)]) [3, 4, 5, 6, 0] rfl ?_
        cases (Option.some.inj hf)
        exact tq_more (by omega) (by omega) (hc _ rfl)
      · have hf := tq_ifn hf cc
        refine tq_iconst (M := mL_law b n xs) (pc := 1011) dL_law_1011 tk_ki_0 ?_
        refine tq_zret (M := mL_law b n xs) (pc := 1012) dL_law_1012 rfl (Or.inl rfl) ?_
        cases (Option.some.inj hf)
        exact hx _ rfl
  · have hf := tq_ifn hf cc
    refine tq_iconst (M := mL_law b n xs) (pc := 994) dL_law_994 tk_ki_0 ?_
    refine tq_zret (M := mL_law b n xs) (pc := 995) dL_law_995 rfl (Or.inl rfl) ?_
    cases (Option.some.inj hf)
    exact hx _ rfl
def f_L_law_c1016 (n : Nat) (xs : Nat → Int32) (i1 i2 i3 : Nat) (y4 : Int32) (hh : tq_H) : Option ((Int32 × tq_H) ⊕ (Int32 × tq_H)) :=
  (tq_sx n xs (y4 + (1 : Int32))).bind fun x1 =>
  (f_L_name i1 x1 i3 hh).bind fun v2 =>
  (tq_sx n xs (y4 + (1 : Int32))).bind fun x3 =>
  (tq_is v2.2 i2 11).bind fun _ =>
  (f_X11_name i2 x3 v2.2).bind fun v4 =>
  (tq_is v4.2 i2 11).bind fun _ =>
  (f_X11_thrown i2 v4.2).bind fun v6 =>
  if v6 = v2.1 then
    if v2.1 = 0 then
      (tq_aj v4.2 i3 (0 : Int32)).bind fun x9 =>
      if (lg_cmp x9 (v4.1).toInt64) = 0 then
        tq_let (y4 + (5 : Int32)) fun x10 =>
        some (.inl (x10, v4.2))
      else
        some (.inr ((0 : Int32), v4.2))
    else
      tq_let (y4 + (5 : Int32)) fun x8 =>
      some (.inl (x8, v4.2))
  else
    some (.inr ((0 : Int32), v4.2))
set_option maxHeartbeats 4000000 in
set_option maxRecDepth 20000 in
theorem c_L_law_1016 {l : Launch} {d : Nat} (hd9 : 10 ≤ d) {b n : Nat} {xs : Nat → Int32} {i1 i2 i3 : Nat} {y4 : Int32} {hh : tq_H} {Q : tq_R → tq_H → Prop} {bc bs : Nat} {oo : (Int32 × tq_H) ⊕ (Int32 × tq_H)} (hf : f_L_law_c1016 n xs i1 i2 i3 y4 hh = some oo) (hc : ∀ s9, oo = .inl s9 → tq_W l (mL_law b n xs) d bc bs Q 23 [(0, .retAddr b), (1, .ref i1), (2, .ref i2), (3, .ref i3), (4, .int s9.1)] [] s9.2) (hx : ∀ e9, oo = .inr e9 → Q (.inl (some (.int e9.1))) e9.2) : tq_W l (mL_law b n xs) d (1 + bc) (6 + bs) Q 1016 [(0, .retAddr b), (1, .ref i1), (2, .ref i2), (3, .ref i3), (4, .int y4)] [] hh := by
  refine tq_aload_n (M := mL_law b n xs) (pc := 1016) dL_law_1016 rfl ?_
  refine tq_xload (M := mL_law b n xs) (pc := 1017) dL_law_1017 rfl ?_
  refine tq_iload (M := mL_law b n xs) (pc := 1018) dL_law_1018 rfl ?_
  refine tq_iconst (M := mL_law b n xs) (pc := 1020) dL_law_1020 tk_ki_1 ?_
  refine tq_iadd (M := mL_law b n xs) (pc := 1021) dL_law_1021 ?_
  obtain ⟨x1, ex1, hf⟩ := tq_be hf
  refine tq_xld (M := mL_law b n xs) (pc := 1022) dL_law_1022 (n := n) (xs := xs) rfl ex1 ?_
  refine tq_aload_n (M := mL_law b n xs) (pc := 1023) dL_law_1023 rfl ?_
  obtain ⟨v2, ev2, hf⟩ := tq_be hf
  refine tq_calSW (M := mL_law b n xs) (pc := 1024) (S := []) tk_w_L_name.1 tk_w_L_name.2.1 tk_w_L_name.2.2.1 tk_w_L_name.2.2.2.1 tk_w_L_name.2.2.2.2 tk_s_L_name tk_RL_226 dL_law_1024 [.ref i1, .int x1, .ref i3] rfl (Nat.le_of_ble_eq_true rfl) (d1 := d - 1) (b1 := 1) (s1 := 6) (bc' := (0 + bc)) (bs' := (0 + bs)) (Q1 := fun r h9 => r = .inl (some (.int v2.1)) ∧ v2.2 = h9) (by omega) (by omega) (by omega) (w_L_name (by omega) ev2 (fun _ _ q => q)) (fun E h9 q => nomatch (show (Sum.inr E : tq_R) = Sum.inl _ from q.1)) (fun r9 h9 q => ?_)
  obtain ⟨q1, rfl⟩ := q
  cases (show (Sum.inl r9 : tq_R) = Sum.inl (some (.int v2.1)) from q1)
  refine tq_istore (M := mL_law b n xs) (pc := 1027) dL_law_1027 (L2 := [(5, .int v2.1), (0, .retAddr b), (1, .ref i1), (2, .ref i2), (3, .ref i3), (4, .int y4)]) (Nat.le_of_ble_eq_true rfl) rfl ?_
  refine tq_aload_n (M := mL_law b n xs) (pc := 1029) dL_law_1029 rfl ?_
  refine tq_xload (M := mL_law b n xs) (pc := 1030) dL_law_1030 rfl ?_
  refine tq_iload (M := mL_law b n xs) (pc := 1031) dL_law_1031 rfl ?_
  refine tq_iconst (M := mL_law b n xs) (pc := 1033) dL_law_1033 tk_ki_1 ?_
  refine tq_iadd (M := mL_law b n xs) (pc := 1034) dL_law_1034 ?_
  obtain ⟨x3, ex3, hf⟩ := tq_be hf
  refine tq_xld (M := mL_law b n xs) (pc := 1035) dL_law_1035 (n := n) (xs := xs) rfl ex3 ?_
  obtain ⟨⟨⟩, eu5, hf⟩ := tq_be hf
  obtain ⟨fsu5, eu5⟩ := tq_is_s eu5
  obtain ⟨v4, ev4, hf⟩ := tq_be hf
  refine tq_calV (M := mL_law b n xs) (pc := 1036) (S := []) tk_y_X11_name tk_v_X11_name tk_RL_228 dL_law_1036 [.int x3] rfl (S0 := _) rfl eu5 rfl (Nat.le_of_ble_eq_true rfl) (d1 := d - 1) (b1 := 0) (s1 := 0) (bc' := (0 + bc)) (bs' := (0 + bs)) (Q1 := fun r h9 => r = .inl (some (.int v4.1)) ∧ v4.2 = h9) (by omega) (by omega) (by omega) (w_X11_name (by omega) ev4 (fun _ _ q => q)) (fun E h9 q => nomatch (show (Sum.inr E : tq_R) = Sum.inl _ from q.1)) (fun r9 h9 q => ?_)
  obtain ⟨q1, rfl⟩ := q
  cases (show (Sum.inl r9 : tq_R) = Sum.inl (some (.int v4.1)) from q1)
  refine tq_istore (M := mL_law b n xs) (pc := 1039) dL_law_1039 (L2 := [(6, .int v4.1), (5, .int v2.1), (0, .retAddr b), (1, .ref i1), (2, .ref i2), (3, .ref i3), (4, .int y4)]) (Nat.le_of_ble_eq_true rfl) rfl ?_
  refine tq_aload_n (M := mL_law b n xs) (pc := 1041) dL_law_1041 rfl ?_
  obtain ⟨⟨⟩, eu7, hf⟩ := tq_be hf
  obtain ⟨fsu7, eu7⟩ := tq_is_s eu7
  obtain ⟨v6, ev6, hf⟩ := tq_be hf
  refine tq_calV (M := mL_law b n xs) (pc := 1042) (S := []) tk_y_X11_thrown tk_v_X11_thrown tk_RL_177 dL_law_1042 [] rfl (S0 := _) rfl eu7 rfl (Nat.le_of_ble_eq_true rfl) (d1 := d - 1) (b1 := 0) (s1 := 0) (bc' := (0 + bc)) (bs' := (0 + bs)) (Q1 := fun r h9 => r = .inl (some (.int v6)) ∧ v4.2 = h9) (by omega) (by omega) (by omega) (w_X11_thrown (by omega) ev6 (fun _ _ q => q)) (fun E h9 q => nomatch (show (Sum.inr E : tq_R) = Sum.inl _ from q.1)) (fun r9 h9 q => ?_)
  obtain ⟨q1, rfl⟩ := q
  cases (show (Sum.inl r9 : tq_R) = Sum.inl (some (.int v6)) from q1)
  refine tq_iload (M := mL_law b n xs) (pc := 1045) dL_law_1045 rfl ?_
  refine tq_icmp_eq (M := mL_law b n xs) (pc := 1047) (tgt := 1052) dL_law_1047 (by decide) (fun cc => ?_) (fun cc => ?_)
  · have hf := tq_ifp hf cc
    refine tq_iload (M := mL_law b n xs) (pc := 1052) dL_law_1052 rfl ?_
    refine tq_if_ne (M := mL_law b n xs) (pc := 1054) (tgt := 1069) dL_law_1054 (by decide) (fun cc => ?_) (fun cc => ?_)
    · have hf := tq_ifn hf cc
      refine tq_goto (M := mL_law b n xs) (pc := 1069) (tgt := 3605) dL_law_1069 (by decide) ?_
      obtain ⟨x8, ex8, hf⟩ := tq_le hf
      refine tq_iinc (M := mL_law b n xs) (pc := 3605) (v := x8) (L2 := [(4, .int x8), (6, .int v4.1), (5, .int v2.1), (0, .retAddr b), (1, .ref i1), (2, .ref i2), (3, .ref i3)]) dL_law_3605 rfl (by rw [ex8, tk_ki_5]) (Nat.le_of_ble_eq_true rfl) rfl ?_
      refine tq_goto (M := mL_law b n xs) (pc := 3608) (tgt := 23) dL_law_3608 (by decide) ?_
      refine tq_pick (L2 := [(0, .retAddr b), (1, .ref i1), (2, .ref i2), (3, .ref i3), (4, .int x8)]) [3, 4, 5, 6, 0] rfl ?_
      cases (Option.some.inj hf)
      exact tq_more (by omega) (by omega) (hc _ rfl)
    · have hf := tq_ifp hf cc
      refine tq_aload_n (M := mL_law b n xs) (pc := 1057) dL_law_1057 rfl ?_
      refine tq_iconst (M := mL_law b n xs) (pc := 1058) dL_law_1058 tk_ki_0 ?_
      obtain ⟨x9, ex9, hf⟩ := tq_be hf
      refine tq_laldF (M := mL_law b n xs) (pc := 1059) dL_law_1059 ex9 ?_
      refine tq_iload (M := mL_law b n xs) (pc := 1060) dL_law_1060 rfl ?_
      refine tq_i2l (M := mL_law b n xs) (pc := 1062) dL_law_1062 ?_
      refine tq_lcmp (M := mL_law b n xs) (pc := 1063) dL_law_1063 ?_
      refine tq_if_eq (M := mL_law b n xs) (pc := 1064) (tgt := 1069) dL_law_1064 (by decide) (fun cc => ?_) (fun cc => ?_)
      · have hf := tq_ifp hf cc
        refine tq_goto (M := mL_law b n xs) (pc := 1069) (tgt := 3605) dL_law_1069 (by decide) ?_
        obtain ⟨x10, ex10, hf⟩ := tq_le hf
        refine tq_iinc (M := mL_law b n xs) (pc := 3605) (v := x10) (L2 := [(4, .int x10), (6, .int v4.1), (5, .int v2.1), (0, .retAddr b), (1, .ref i1), (2, .ref i2), (3, .ref i3)]) dL_law_3605 rfl (by rw [ex10, tk_ki_5]) (Nat.le_of_ble_eq_true rfl) rfl ?_
        refine tq_goto (M := mL_law b n xs) (pc := 3608) (tgt := 23) dL_law_3608 (by decide) ?_
        refine tq_pick (L2 := [(0, .retAddr b), (1, .ref i1), (2, .ref i2), (3, .ref i3), (4, .int x10)]) [3, 4, 5, 6, 0] rfl ?_
        cases (Option.some.inj hf)
        exact tq_more (by omega) (by omega) (hc _ rfl)
      · have hf := tq_ifn hf cc
        refine tq_iconst (M := mL_law b n xs) (pc := 1067) dL_law_1067 tk_ki_0 ?_
        refine tq_zret (M := mL_law b n xs) (pc := 1068) dL_law_1068 rfl (Or.inl rfl) ?_
        cases (Option.some.inj hf)
        exact hx _ rfl
  · have hf := tq_ifn hf cc
    refine tq_iconst (M := mL_law b n xs) (pc := 1050) dL_law_1050 tk_ki_0 ?_
    refine tq_zret (M := mL_law b n xs) (pc := 1051) dL_law_1051 rfl (Or.inl rfl) ?_
    cases (Option.some.inj hf)
    exact hx _ rfl
def f_L_law_c1072 (n : Nat) (xs : Nat → Int32) (i1 i2 i3 : Nat) (y4 : Int32) (hh : tq_H) : Option ((Int32 × tq_H) ⊕ (Int32 × tq_H)) :=
  (tq_sx n xs (y4 + (1 : Int32))).bind fun x1 =>
  (f_L_value i1 x1 i3 hh).bind fun v2 =>
  (tq_sx n xs (y4 + (1 : Int32))).bind fun x3 =>
  (tq_is v2.2 i2 11).bind fun _ =>
  (f_X11_value i2 x3 v2.2).bind fun v4 =>
  (tq_is v4.2 i2 11).bind fun _ =>
  (f_X11_thrown i2 v4.2).bind fun v6 =>
  if v6 = v2.1 then
    if v2.1 = 0 then
      (tq_aj v4.2 i3 (0 : Int32)).bind fun x9 =>
      if (lg_cmp x9 (v4.1).toInt64) = 0 then
        tq_let (y4 + (5 : Int32)) fun x10 =>
        some (.inl (x10, v4.2))
      else
        some (.inr ((0 : Int32), v4.2))
    else
      tq_let (y4 + (5 : Int32)) fun x8 =>
      some (.inl (x8, v4.2))
  else
    some (.inr ((0 : Int32), v4.2))
set_option maxHeartbeats 4000000 in
set_option maxRecDepth 20000 in
theorem c_L_law_1072 {l : Launch} {d : Nat} (hd9 : 10 ≤ d) {b n : Nat} {xs : Nat → Int32} {i1 i2 i3 : Nat} {y4 : Int32} {hh : tq_H} {Q : tq_R → tq_H → Prop} {bc bs : Nat} {oo : (Int32 × tq_H) ⊕ (Int32 × tq_H)} (hf : f_L_law_c1072 n xs i1 i2 i3 y4 hh = some oo) (hc : ∀ s9, oo = .inl s9 → tq_W l (mL_law b n xs) d bc bs Q 23 [(0, .retAddr b), (1, .ref i1), (2, .ref i2), (3, .ref i3), (4, .int s9.1)] [] s9.2) (hx : ∀ e9, oo = .inr e9 → Q (.inl (some (.int e9.1))) e9.2) : tq_W l (mL_law b n xs) d (1 + bc) (6 + bs) Q 1072 [(0, .retAddr b), (1, .ref i1), (2, .ref i2), (3, .ref i3), (4, .int y4)] [] hh := by
  refine tq_aload_n (M := mL_law b n xs) (pc := 1072) dL_law_1072 rfl ?_
  refine tq_xload (M := mL_law b n xs) (pc := 1073) dL_law_1073 rfl ?_
  refine tq_iload (M := mL_law b n xs) (pc := 1074) dL_law_1074 rfl ?_
  refine tq_iconst (M := mL_law b n xs) (pc := 1076) dL_law_1076 tk_ki_1 ?_
  refine tq_iadd (M := mL_law b n xs) (pc := 1077) dL_law_1077 ?_
  obtain ⟨x1, ex1, hf⟩ := tq_be hf
  refine tq_xld (M := mL_law b n xs) (pc := 1078) dL_law_1078 (n := n) (xs := xs) rfl ex1 ?_
  refine tq_aload_n (M := mL_law b n xs) (pc := 1079) dL_law_1079 rfl ?_
  obtain ⟨v2, ev2, hf⟩ := tq_be hf
  refine tq_calSW (M := mL_law b n xs) (pc := 1080) (S := []) tk_w_L_value.1 tk_w_L_value.2.1 tk_w_L_value.2.2.1 tk_w_L_value.2.2.2.1 tk_w_L_value.2.2.2.2 tk_s_L_value tk_RL_229 dL_law_1080 [.ref i1, .int x1, .ref i3] rfl (Nat.le_of_ble_eq_true rfl) (d1 := d - 1) (b1 := 1) (s1 := 6) (bc' := (0 + bc)) (bs' := (0 + bs)) (Q1 := fun r h9 => r = .inl (some (.int v2.1)) ∧ v2.2 = h9) (by omega) (by omega) (by omega) (w_L_value (by omega) ev2 (fun _ _ q => q)) (fun E h9 q => nomatch (show (Sum.inr E : tq_R) = Sum.inl _ from q.1)) (fun r9 h9 q => ?_)
  obtain ⟨q1, rfl⟩ := q
  cases (show (Sum.inl r9 : tq_R) = Sum.inl (some (.int v2.1)) from q1)
  refine tq_istore (M := mL_law b n xs) (pc := 1083) dL_law_1083 (L2 := [(5, .int v2.1), (0, .retAddr b), (1, .ref i1), (2, .ref i2), (3, .ref i3), (4, .int y4)]) (Nat.le_of_ble_eq_true rfl) rfl ?_
  refine tq_aload_n (M := mL_law b n xs) (pc := 1085) dL_law_1085 rfl ?_
  refine tq_xload (M := mL_law b n xs) (pc := 1086) dL_law_1086 rfl ?_
  refine tq_iload (M := mL_law b n xs) (pc := 1087) dL_law_1087 rfl ?_
  refine tq_iconst (M := mL_law b n xs) (pc := 1089) dL_law_1089 tk_ki_1 ?_
  refine tq_iadd (M := mL_law b n xs) (pc := 1090) dL_law_1090 ?_
  obtain ⟨x3, ex3, hf⟩ := tq_be hf
  refine tq_xld (M := mL_law b n xs) (pc := 1091) dL_law_1091 (n := n) (xs := xs) rfl ex3 ?_
  obtain ⟨⟨⟩, eu5, hf⟩ := tq_be hf
  obtain ⟨fsu5, eu5⟩ := tq_is_s eu5
  obtain ⟨v4, ev4, hf⟩ := tq_be hf
  refine tq_calV (M := mL_law b n xs) (pc := 1092) (S := []) tk_y_X11_value tk_v_X11_value tk_RL_231 dL_law_1092 [.int x3] rfl (S0 := _) rfl eu5 rfl (Nat.le_of_ble_eq_true rfl) (d1 := d - 1) (b1 := 0) (s1 := 0) (bc' := (0 + bc)) (bs' := (0 + bs)) (Q1 := fun r h9 => r = .inl (some (.int v4.1)) ∧ v4.2 = h9) (by omega) (by omega) (by omega) (w_X11_value (by omega) ev4 (fun _ _ q => q)) (fun E h9 q => nomatch (show (Sum.inr E : tq_R) = Sum.inl _ from q.1)) (fun r9 h9 q => ?_)
  obtain ⟨q1, rfl⟩ := q
  cases (show (Sum.inl r9 : tq_R) = Sum.inl (some (.int v4.1)) from q1)
  refine tq_istore (M := mL_law b n xs) (pc := 1095) dL_law_1095 (L2 := [(6, .int v4.1), (5, .int v2.1), (0, .retAddr b), (1, .ref i1), (2, .ref i2), (3, .ref i3), (4, .int y4)]) (Nat.le_of_ble_eq_true rfl) rfl ?_
  refine tq_aload_n (M := mL_law b n xs) (pc := 1097) dL_law_1097 rfl ?_
  obtain ⟨⟨⟩, eu7, hf⟩ := tq_be hf
  obtain ⟨fsu7, eu7⟩ := tq_is_s eu7
  obtain ⟨v6, ev6, hf⟩ := tq_be hf
  refine tq_calV (M := mL_law b n xs) (pc := 1098) (S := []) tk_y_X11_thrown tk_v_X11_thrown tk_RL_177 dL_law_1098 [] rfl (S0 := _) rfl eu7 rfl (Nat.le_of_ble_eq_true rfl) (d1 := d - 1) (b1 := 0) (s1 := 0) (bc' := (0 + bc)) (bs' := (0 + bs)) (Q1 := fun r h9 => r = .inl (some (.int v6)) ∧ v4.2 = h9) (by omega) (by omega) (by omega) (w_X11_thrown (by omega) ev6 (fun _ _ q => q)) (fun E h9 q => nomatch (show (Sum.inr E : tq_R) = Sum.inl _ from q.1)) (fun r9 h9 q => ?_)
  obtain ⟨q1, rfl⟩ := q
  cases (show (Sum.inl r9 : tq_R) = Sum.inl (some (.int v6)) from q1)
  refine tq_iload (M := mL_law b n xs) (pc := 1101) dL_law_1101 rfl ?_
  refine tq_icmp_eq (M := mL_law b n xs) (pc := 1103) (tgt := 1108) dL_law_1103 (by decide) (fun cc => ?_) (fun cc => ?_)
  · have hf := tq_ifp hf cc
    refine tq_iload (M := mL_law b n xs) (pc := 1108) dL_law_1108 rfl ?_
    refine tq_if_ne (M := mL_law b n xs) (pc := 1110) (tgt := 1125) dL_law_1110 (by decide) (fun cc => ?_) (fun cc => ?_)
    · have hf := tq_ifn hf cc
      refine tq_goto (M := mL_law b n xs) (pc := 1125) (tgt := 3605) dL_law_1125 (by decide) ?_
      obtain ⟨x8, ex8, hf⟩ := tq_le hf
      refine tq_iinc (M := mL_law b n xs) (pc := 3605) (v := x8) (L2 := [(4, .int x8), (6, .int v4.1), (5, .int v2.1), (0, .retAddr b), (1, .ref i1), (2, .ref i2), (3, .ref i3)]) dL_law_3605 rfl (by rw [ex8, tk_ki_5]) (Nat.le_of_ble_eq_true rfl) rfl ?_
      refine tq_goto (M := mL_law b n xs) (pc := 3608) (tgt := 23) dL_law_3608 (by decide) ?_
      refine tq_pick (L2 := [(0, .retAddr b), (1, .ref i1), (2, .ref i2), (3, .ref i3), (4, .int x8)]) [3, 4, 5, 6, 0] rfl ?_
      cases (Option.some.inj hf)
      exact tq_more (by omega) (by omega) (hc _ rfl)
    · have hf := tq_ifp hf cc
      refine tq_aload_n (M := mL_law b n xs) (pc := 1113) dL_law_1113 rfl ?_
      refine tq_iconst (M := mL_law b n xs) (pc := 1114) dL_law_1114 tk_ki_0 ?_
      obtain ⟨x9, ex9, hf⟩ := tq_be hf
      refine tq_laldF (M := mL_law b n xs) (pc := 1115) dL_law_1115 ex9 ?_
      refine tq_iload (M := mL_law b n xs) (pc := 1116) dL_law_1116 rfl ?_
      refine tq_i2l (M := mL_law b n xs) (pc := 1118) dL_law_1118 ?_
      refine tq_lcmp (M := mL_law b n xs) (pc := 1119) dL_law_1119 ?_
      refine tq_if_eq (M := mL_law b n xs) (pc := 1120) (tgt := 1125) dL_law_1120 (by decide) (fun cc => ?_) (fun cc => ?_)
      · have hf := tq_ifp hf cc
        refine tq_goto (M := mL_law b n xs) (pc := 1125) (tgt := 3605) dL_law_1125 (by decide) ?_
        obtain ⟨x10, ex10, hf⟩ := tq_le hf
        refine tq_iinc (M := mL_law b n xs) (pc := 3605) (v := x10) (L2 := [(4, .int x10), (6, .int v4.1), (5, .int v2.1), (0, .retAddr b), (1, .ref i1), (2, .ref i2), (3, .ref i3)]) dL_law_3605 rfl (by rw [ex10, tk_ki_5]) (Nat.le_of_ble_eq_true rfl) rfl ?_
        refine tq_goto (M := mL_law b n xs) (pc := 3608) (tgt := 23) dL_law_3608 (by decide) ?_
        refine tq_pick (L2 := [(0, .retAddr b), (1, .ref i1), (2, .ref i2), (3, .ref i3), (4, .int x10)]) [3, 4, 5, 6, 0] rfl ?_
        cases (Option.some.inj hf)
        exact tq_more (by omega) (by omega) (hc _ rfl)
      · have hf := tq_ifn hf cc
        refine tq_iconst (M := mL_law b n xs) (pc := 1123) dL_law_1123 tk_ki_0 ?_
        refine tq_zret (M := mL_law b n xs) (pc := 1124) dL_law_1124 rfl (Or.inl rfl) ?_
        cases (Option.some.inj hf)
        exact hx _ rfl
  · have hf := tq_ifn hf cc
    refine tq_iconst (M := mL_law b n xs) (pc := 1106) dL_law_1106 tk_ki_0 ?_
    refine tq_zret (M := mL_law b n xs) (pc := 1107) dL_law_1107 rfl (Or.inl rfl) ?_
    cases (Option.some.inj hf)
    exact hx _ rfl
def f_L_law_c1128 (n : Nat) (xs : Nat → Int32) (i1 i2 i3 : Nat) (y4 : Int32) (hh : tq_H) : Option ((Int32 × tq_H) ⊕ (Int32 × tq_H)) :=
  (tq_sx n xs (y4 + (1 : Int32))).bind fun x1 =>
  (f_L_parent i1 x1 i3 hh).bind fun v2 =>
  (tq_sx n xs (y4 + (1 : Int32))).bind fun x3 =>
  (tq_is v2.2 i2 11).bind fun _ =>
  (f_X11_parent i2 x3 v2.2).bind fun v4 =>
  (tq_is v4.2 i2 11).bind fun _ =>
  (f_X11_thrown i2 v4.2).bind fun v6 =>
  if v6 = v2.1 then
    if v2.1 = 0 then
      (tq_aj v4.2 i3 (0 : Int32)).bind fun x9 =>
      if (lg_cmp x9 (v4.1).toInt64) = 0 then
        tq_let (y4 + (5 : Int32)) fun x10 =>
        some (.inl (x10, v4.2))
      else
        some (.inr ((0 : Int32), v4.2))
    else
      tq_let (y4 + (5 : Int32)) fun x8 =>
      some (.inl (x8, v4.2))
  else
    some (.inr ((0 : Int32), v4.2))
set_option maxHeartbeats 4000000 in
set_option maxRecDepth 20000 in
theorem c_L_law_1128 {l : Launch} {d : Nat} (hd9 : 10 ≤ d) {b n : Nat} {xs : Nat → Int32} {i1 i2 i3 : Nat} {y4 : Int32} {hh : tq_H} {Q : tq_R → tq_H → Prop} {bc bs : Nat} {oo : (Int32 × tq_H) ⊕ (Int32 × tq_H)} (hf : f_L_law_c1128 n xs i1 i2 i3 y4 hh = some oo) (hc : ∀ s9, oo = .inl s9 → tq_W l (mL_law b n xs) d bc bs Q 23 [(0, .retAddr b), (1, .ref i1), (2, .ref i2), (3, .ref i3), (4, .int s9.1)] [] s9.2) (hx : ∀ e9, oo = .inr e9 → Q (.inl (some (.int e9.1))) e9.2) : tq_W l (mL_law b n xs) d (1 + bc) (6 + bs) Q 1128 [(0, .retAddr b), (1, .ref i1), (2, .ref i2), (3, .ref i3), (4, .int y4)] [] hh := by
  refine tq_aload_n (M := mL_law b n xs) (pc := 1128) dL_law_1128 rfl ?_
  refine tq_xload (M := mL_law b n xs) (pc := 1129) dL_law_1129 rfl ?_
  refine tq_iload (M := mL_law b n xs) (pc := 1130) dL_law_1130 rfl ?_
  refine tq_iconst (M := mL_law b n xs) (pc := 1132) dL_law_1132 tk_ki_1 ?_
  refine tq_iadd (M := mL_law b n xs) (pc := 1133) dL_law_1133 ?_
  obtain ⟨x1, ex1, hf⟩ := tq_be hf
  refine tq_xld (M := mL_law b n xs) (pc := 1134) dL_law_1134 (n := n) (xs := xs) rfl ex1 ?_
  refine tq_aload_n (M := mL_law b n xs) (pc := 1135) dL_law_1135 rfl ?_
  obtain ⟨v2, ev2, hf⟩ := tq_be hf
  refine tq_calSW (M := mL_law b n xs) (pc := 1136) (S := []) tk_w_L_parent.1 tk_w_L_parent.2.1 tk_w_L_parent.2.2.1 tk_w_L_parent.2.2.2.1 tk_w_L_parent.2.2.2.2 tk_s_L_parent tk_RL_232 dL_law_1136 [.ref i1, .int x1, .ref i3] rfl (Nat.le_of_ble_eq_true rfl) (d1 := d - 1) (b1 := 1) (s1 := 6) (bc' := (0 + bc)) (bs' := (0 + bs)) (Q1 := fun r h9 => r = .inl (some (.int v2.1)) ∧ v2.2 = h9) (by omega) (by omega) (by omega) (w_L_parent (by omega) ev2 (fun _ _ q => q)) (fun E h9 q => nomatch (show (Sum.inr E : tq_R) = Sum.inl _ from q.1)) (fun r9 h9 q => ?_)
  obtain ⟨q1, rfl⟩ := q
  cases (show (Sum.inl r9 : tq_R) = Sum.inl (some (.int v2.1)) from q1)
  refine tq_istore (M := mL_law b n xs) (pc := 1139) dL_law_1139 (L2 := [(5, .int v2.1), (0, .retAddr b), (1, .ref i1), (2, .ref i2), (3, .ref i3), (4, .int y4)]) (Nat.le_of_ble_eq_true rfl) rfl ?_
  refine tq_aload_n (M := mL_law b n xs) (pc := 1141) dL_law_1141 rfl ?_
  refine tq_xload (M := mL_law b n xs) (pc := 1142) dL_law_1142 rfl ?_
  refine tq_iload (M := mL_law b n xs) (pc := 1143) dL_law_1143 rfl ?_
  refine tq_iconst (M := mL_law b n xs) (pc := 1145) dL_law_1145 tk_ki_1 ?_
  refine tq_iadd (M := mL_law b n xs) (pc := 1146) dL_law_1146 ?_
  obtain ⟨x3, ex3, hf⟩ := tq_be hf
  refine tq_xld (M := mL_law b n xs) (pc := 1147) dL_law_1147 (n := n) (xs := xs) rfl ex3 ?_
  obtain ⟨⟨⟩, eu5, hf⟩ := tq_be hf
  obtain ⟨fsu5, eu5⟩ := tq_is_s eu5
  obtain ⟨v4, ev4, hf⟩ := tq_be hf
  refine tq_calV (M := mL_law b n xs) (pc := 1148) (S := []) tk_y_X11_parent tk_v_X11_parent tk_RL_234 dL_law_1148 [.int x3] rfl (S0 := _) rfl eu5 rfl (Nat.le_of_ble_eq_true rfl) (d1 := d - 1) (b1 := 0) (s1 := 0) (bc' := (0 + bc)) (bs' := (0 + bs)) (Q1 := fun r h9 => r = .inl (some (.int v4.1)) ∧ v4.2 = h9) (by omega) (by omega) (by omega) (w_X11_parent (by omega) ev4 (fun _ _ q => q)) (fun E h9 q => nomatch (show (Sum.inr E : tq_R) = Sum.inl _ from q.1)) (fun r9 h9 q => ?_)
  obtain ⟨q1, rfl⟩ := q
  cases (show (Sum.inl r9 : tq_R) = Sum.inl (some (.int v4.1)) from q1)
  refine tq_istore (M := mL_law b n xs) (pc := 1151) dL_law_1151 (L2 := [(6, .int v4.1), (5, .int v2.1), (0, .retAddr b), (1, .ref i1), (2, .ref i2), (3, .ref i3), (4, .int y4)]) (Nat.le_of_ble_eq_true rfl) rfl ?_
  refine tq_aload_n (M := mL_law b n xs) (pc := 1153) dL_law_1153 rfl ?_
  obtain ⟨⟨⟩, eu7, hf⟩ := tq_be hf
  obtain ⟨fsu7, eu7⟩ := tq_is_s eu7
  obtain ⟨v6, ev6, hf⟩ := tq_be hf
  refine tq_calV (M := mL_law b n xs) (pc := 1154) (S := []) tk_y_X11_thrown tk_v_X11_thrown tk_RL_177 dL_law_1154 [] rfl (S0 := _) rfl eu7 rfl (Nat.le_of_ble_eq_true rfl) (d1 := d - 1) (b1 := 0) (s1 := 0) (bc' := (0 + bc)) (bs' := (0 + bs)) (Q1 := fun r h9 => r = .inl (some (.int v6)) ∧ v4.2 = h9) (by omega) (by omega) (by omega) (w_X11_thrown (by omega) ev6 (fun _ _ q => q)) (fun E h9 q => nomatch (show (Sum.inr E : tq_R) = Sum.inl _ from q.1)) (fun r9 h9 q => ?_)
  obtain ⟨q1, rfl⟩ := q
  cases (show (Sum.inl r9 : tq_R) = Sum.inl (some (.int v6)) from q1)
  refine tq_iload (M := mL_law b n xs) (pc := 1157) dL_law_1157 rfl ?_
  refine tq_icmp_eq (M := mL_law b n xs) (pc := 1159) (tgt := 1164) dL_law_1159 (by decide) (fun cc => ?_) (fun cc => ?_)
  · have hf := tq_ifp hf cc
    refine tq_iload (M := mL_law b n xs) (pc := 1164) dL_law_1164 rfl ?_
    refine tq_if_ne (M := mL_law b n xs) (pc := 1166) (tgt := 1181) dL_law_1166 (by decide) (fun cc => ?_) (fun cc => ?_)
    · have hf := tq_ifn hf cc
      refine tq_goto (M := mL_law b n xs) (pc := 1181) (tgt := 3605) dL_law_1181 (by decide) ?_
      obtain ⟨x8, ex8, hf⟩ := tq_le hf
      refine tq_iinc (M := mL_law b n xs) (pc := 3605) (v := x8) (L2 := [(4, .int x8), (6, .int v4.1), (5, .int v2.1), (0, .retAddr b), (1, .ref i1), (2, .ref i2), (3, .ref i3)]) dL_law_3605 rfl (by rw [ex8, tk_ki_5]) (Nat.le_of_ble_eq_true rfl) rfl ?_
      refine tq_goto (M := mL_law b n xs) (pc := 3608) (tgt := 23) dL_law_3608 (by decide) ?_
      refine tq_pick (L2 := [(0, .retAddr b), (1, .ref i1), (2, .ref i2), (3, .ref i3), (4, .int x8)]) [3, 4, 5, 6, 0] rfl ?_
      cases (Option.some.inj hf)
      exact tq_more (by omega) (by omega) (hc _ rfl)
    · have hf := tq_ifp hf cc
      refine tq_aload_n (M := mL_law b n xs) (pc := 1169) dL_law_1169 rfl ?_
      refine tq_iconst (M := mL_law b n xs) (pc := 1170) dL_law_1170 tk_ki_0 ?_
      obtain ⟨x9, ex9, hf⟩ := tq_be hf
      refine tq_laldF (M := mL_law b n xs) (pc := 1171) dL_law_1171 ex9 ?_
      refine tq_iload (M := mL_law b n xs) (pc := 1172) dL_law_1172 rfl ?_
      refine tq_i2l (M := mL_law b n xs) (pc := 1174) dL_law_1174 ?_
      refine tq_lcmp (M := mL_law b n xs) (pc := 1175) dL_law_1175 ?_
      refine tq_if_eq (M := mL_law b n xs) (pc := 1176) (tgt := 1181) dL_law_1176 (by decide) (fun cc => ?_) (fun cc => ?_)
      · have hf := tq_ifp hf cc
        refine tq_goto (M := mL_law b n xs) (pc := 1181) (tgt := 3605) dL_law_1181 (by decide) ?_
        obtain ⟨x10, ex10, hf⟩ := tq_le hf
        refine tq_iinc (M := mL_law b n xs) (pc := 3605) (v := x10) (L2 := [(4, .int x10), (6, .int v4.1), (5, .int v2.1), (0, .retAddr b), (1, .ref i1), (2, .ref i2), (3, .ref i3)]) dL_law_3605 rfl (by rw [ex10, tk_ki_5]) (Nat.le_of_ble_eq_true rfl) rfl ?_
        refine tq_goto (M := mL_law b n xs) (pc := 3608) (tgt := 23) dL_law_3608 (by decide) ?_
        refine tq_pick (L2 := [(0, .retAddr b), (1, .ref i1), (2, .ref i2), (3, .ref i3), (4, .int x10)]) [3, 4, 5, 6, 0] rfl ?_
        cases (Option.some.inj hf)
        exact tq_more (by omega) (by omega) (hc _ rfl)
      · have hf := tq_ifn hf cc
        refine tq_iconst (M := mL_law b n xs) (pc := 1179) dL_law_1179 tk_ki_0 ?_
        refine tq_zret (M := mL_law b n xs) (pc := 1180) dL_law_1180 rfl (Or.inl rfl) ?_
        cases (Option.some.inj hf)
        exact hx _ rfl
  · have hf := tq_ifn hf cc
    refine tq_iconst (M := mL_law b n xs) (pc := 1162) dL_law_1162 tk_ki_0 ?_
    refine tq_zret (M := mL_law b n xs) (pc := 1163) dL_law_1163 rfl (Or.inl rfl) ?_
    cases (Option.some.inj hf)
    exact hx _ rfl
def f_L_law_c1184 (n : Nat) (xs : Nat → Int32) (i1 i2 i3 : Nat) (y4 : Int32) (hh : tq_H) : Option ((Int32 × tq_H) ⊕ (Int32 × tq_H)) :=
  (tq_sx n xs (y4 + (1 : Int32))).bind fun x1 =>
  (tq_sx n xs (y4 + (2 : Int32))).bind fun x2 =>
  (f_L_child i1 x1 x2 i3 hh).bind fun v3 =>
  (tq_sx n xs (y4 + (1 : Int32))).bind fun x4 =>
  (tq_sx n xs (y4 + (2 : Int32))).bind fun x5 =>
  (tq_is v3.2 i2 11).bind fun _ =>
  (f_X11_child i2 x4 x5 v3.2).bind fun v6 =>
  (tq_is v6.2 i2 11).bind fun _ =>
  (f_X11_thrown i2 v6.2).bind fun v8 =>
  if v8 = v3.1 then
    if v3.1 = 0 then
      (tq_aj v6.2 i3 (0 : Int32)).bind fun x11 =>
      if (lg_cmp x11 (v6.1).toInt64) = 0 then
        tq_let (y4 + (5 : Int32)) fun x12 =>
        some (.inl (x12, v6.2))
      else
        some (.inr ((0 : Int32), v6.2))
    else
      tq_let (y4 + (5 : Int32)) fun x10 =>
      some (.inl (x10, v6.2))
  else
    some (.inr ((0 : Int32), v6.2))
set_option maxHeartbeats 4000000 in
set_option maxRecDepth 20000 in
theorem c_L_law_1184 {l : Launch} {d : Nat} (hd9 : 10 ≤ d) {b n : Nat} {xs : Nat → Int32} {i1 i2 i3 : Nat} {y4 : Int32} {hh : tq_H} {Q : tq_R → tq_H → Prop} {bc bs : Nat} {oo : (Int32 × tq_H) ⊕ (Int32 × tq_H)} (hf : f_L_law_c1184 n xs i1 i2 i3 y4 hh = some oo) (hc : ∀ s9, oo = .inl s9 → tq_W l (mL_law b n xs) d bc bs Q 23 [(0, .retAddr b), (1, .ref i1), (2, .ref i2), (3, .ref i3), (4, .int s9.1)] [] s9.2) (hx : ∀ e9, oo = .inr e9 → Q (.inl (some (.int e9.1))) e9.2) : tq_W l (mL_law b n xs) d (2 + bc) (12 + bs) Q 1184 [(0, .retAddr b), (1, .ref i1), (2, .ref i2), (3, .ref i3), (4, .int y4)] [] hh := by
  refine tq_aload_n (M := mL_law b n xs) (pc := 1184) dL_law_1184 rfl ?_
  refine tq_xload (M := mL_law b n xs) (pc := 1185) dL_law_1185 rfl ?_
  refine tq_iload (M := mL_law b n xs) (pc := 1186) dL_law_1186 rfl ?_
  refine tq_iconst (M := mL_law b n xs) (pc := 1188) dL_law_1188 tk_ki_1 ?_
  refine tq_iadd (M := mL_law b n xs) (pc := 1189) dL_law_1189 ?_
  obtain ⟨x1, ex1, hf⟩ := tq_be hf
  refine tq_xld (M := mL_law b n xs) (pc := 1190) dL_law_1190 (n := n) (xs := xs) rfl ex1 ?_
  refine tq_xload (M := mL_law b n xs) (pc := 1191) dL_law_1191 rfl ?_
  refine tq_iload (M := mL_law b n xs) (pc := 1192) dL_law_1192 rfl ?_
  refine tq_iconst (M := mL_law b n xs) (pc := 1194) dL_law_1194 tk_ki_2 ?_
  refine tq_iadd (M := mL_law b n xs) (pc := 1195) dL_law_1195 ?_
  obtain ⟨x2, ex2, hf⟩ := tq_be hf
  refine tq_xld (M := mL_law b n xs) (pc := 1196) dL_law_1196 (n := n) (xs := xs) rfl ex2 ?_
  refine tq_aload_n (M := mL_law b n xs) (pc := 1197) dL_law_1197 rfl ?_
  obtain ⟨v3, ev3, hf⟩ := tq_be hf
  refine tq_calSW (M := mL_law b n xs) (pc := 1198) (S := []) tk_w_L_child.1 tk_w_L_child.2.1 tk_w_L_child.2.2.1 tk_w_L_child.2.2.2.1 tk_w_L_child.2.2.2.2 tk_s_L_child tk_RL_235 dL_law_1198 [.ref i1, .int x1, .int x2, .ref i3] rfl (Nat.le_of_ble_eq_true rfl) (d1 := d - 1) (b1 := 2) (s1 := 12) (bc' := (0 + bc)) (bs' := (0 + bs)) (Q1 := fun r h9 => r = .inl (some (.int v3.1)) ∧ v3.2 = h9) (by omega) (by omega) (by omega) (w_L_child (by omega) ev3 (fun _ _ q => q)) (fun E h9 q => nomatch (show (Sum.inr E : tq_R) = Sum.inl _ from q.1)) (fun r9 h9 q => ?_)
  obtain ⟨q1, rfl⟩ := q
  cases (show (Sum.inl r9 : tq_R) = Sum.inl (some (.int v3.1)) from q1)
  refine tq_istore (M := mL_law b n xs) (pc := 1201) dL_law_1201 (L2 := [(5, .int v3.1), (0, .retAddr b), (1, .ref i1), (2, .ref i2), (3, .ref i3), (4, .int y4)]) (Nat.le_of_ble_eq_true rfl) rfl ?_
  refine tq_aload_n (M := mL_law b n xs) (pc := 1203) dL_law_1203 rfl ?_
  refine tq_xload (M := mL_law b n xs) (pc := 1204) dL_law_1204 rfl ?_
  refine tq_iload (M := mL_law b n xs) (pc := 1205) dL_law_1205 rfl ?_
  refine tq_iconst (M := mL_law b n xs) (pc := 1207) dL_law_1207 tk_ki_1 ?_
  refine tq_iadd (M := mL_law b n xs) (pc := 1208) dL_law_1208 ?_
  obtain ⟨x4, ex4, hf⟩ := tq_be hf
  refine tq_xld (M := mL_law b n xs) (pc := 1209) dL_law_1209 (n := n) (xs := xs) rfl ex4 ?_
  refine tq_xload (M := mL_law b n xs) (pc := 1210) dL_law_1210 rfl ?_
  refine tq_iload (M := mL_law b n xs) (pc := 1211) dL_law_1211 rfl ?_
  refine tq_iconst (M := mL_law b n xs) (pc := 1213) dL_law_1213 tk_ki_2 ?_
  refine tq_iadd (M := mL_law b n xs) (pc := 1214) dL_law_1214 ?_
  obtain ⟨x5, ex5, hf⟩ := tq_be hf
  refine tq_xld (M := mL_law b n xs) (pc := 1215) dL_law_1215 (n := n) (xs := xs) rfl ex5 ?_
  obtain ⟨⟨⟩, eu7, hf⟩ := tq_be hf
  obtain ⟨fsu7, eu7⟩ := tq_is_s eu7
  obtain ⟨v6, ev6, hf⟩ := tq_be hf
  refine tq_calV (M := mL_law b n xs) (pc := 1216) (S := []) tk_y_X11_child tk_v_X11_child tk_RL_237 dL_law_1216 [.int x4, .int x5] rfl (S0 := _) rfl eu7 rfl (Nat.le_of_ble_eq_true rfl) (d1 := d - 1) (b1 := 0) (s1 := 0) (bc' := (0 + bc)) (bs' := (0 + bs)) (Q1 := fun r h9 => r = .inl (some (.int v6.1)) ∧ v6.2 = h9) (by omega) (by omega) (by omega) (w_X11_child (by omega) ev6 (fun _ _ q => q)) (fun E h9 q => nomatch (show (Sum.inr E : tq_R) = Sum.inl _ from q.1)) (fun r9 h9 q => ?_)
  obtain ⟨q1, rfl⟩ := q
  cases (show (Sum.inl r9 : tq_R) = Sum.inl (some (.int v6.1)) from q1)
  refine tq_istore (M := mL_law b n xs) (pc := 1219) dL_law_1219 (L2 := [(6, .int v6.1), (5, .int v3.1), (0, .retAddr b), (1, .ref i1), (2, .ref i2), (3, .ref i3), (4, .int y4)]) (Nat.le_of_ble_eq_true rfl) rfl ?_
  refine tq_aload_n (M := mL_law b n xs) (pc := 1221) dL_law_1221 rfl ?_
  obtain ⟨⟨⟩, eu9, hf⟩ := tq_be hf
  obtain ⟨fsu9, eu9⟩ := tq_is_s eu9
  obtain ⟨v8, ev8, hf⟩ := tq_be hf
  refine tq_calV (M := mL_law b n xs) (pc := 1222) (S := []) tk_y_X11_thrown tk_v_X11_thrown tk_RL_177 dL_law_1222 [] rfl (S0 := _) rfl eu9 rfl (Nat.le_of_ble_eq_true rfl) (d1 := d - 1) (b1 := 0) (s1 := 0) (bc' := (0 + bc)) (bs' := (0 + bs)) (Q1 := fun r h9 => r = .inl (some (.int v8)) ∧ v6.2 = h9) (by omega) (by omega) (by omega) (w_X11_thrown (by omega) ev8 (fun _ _ q => q)) (fun E h9 q => nomatch (show (Sum.inr E : tq_R) = Sum.inl _ from q.1)) (fun r9 h9 q => ?_)
  obtain ⟨q1, rfl⟩ := q
  cases (show (Sum.inl r9 : tq_R) = Sum.inl (some (.int v8)) from q1)
  refine tq_iload (M := mL_law b n xs) (pc := 1225) dL_law_1225 rfl ?_
  refine tq_icmp_eq (M := mL_law b n xs) (pc := 1227) (tgt := 1232) dL_law_1227 (by decide) (fun cc => ?_) (fun cc => ?_)
  · have hf := tq_ifp hf cc
    refine tq_iload (M := mL_law b n xs) (pc := 1232) dL_law_1232 rfl ?_
    refine tq_if_ne (M := mL_law b n xs) (pc := 1234) (tgt := 1249) dL_law_1234 (by decide) (fun cc => ?_) (fun cc => ?_)
    · have hf := tq_ifn hf cc
      refine tq_goto (M := mL_law b n xs) (pc := 1249) (tgt := 3605) dL_law_1249 (by decide) ?_
      obtain ⟨x10, ex10, hf⟩ := tq_le hf
      refine tq_iinc (M := mL_law b n xs) (pc := 3605) (v := x10) (L2 := [(4, .int x10), (6, .int v6.1), (5, .int v3.1), (0, .retAddr b), (1, .ref i1), (2, .ref i2), (3, .ref i3)]) dL_law_3605 rfl (by rw [ex10, tk_ki_5]) (Nat.le_of_ble_eq_true rfl) rfl ?_
      refine tq_goto (M := mL_law b n xs) (pc := 3608) (tgt := 23) dL_law_3608 (by decide) ?_
      refine tq_pick (L2 := [(0, .retAddr b), (1, .ref i1), (2, .ref i2), (3, .ref i3), (4, .int x10)]) [3, 4, 5, 6, 0] rfl ?_
      cases (Option.some.inj hf)
      exact tq_more (by omega) (by omega) (hc _ rfl)
    · have hf := tq_ifp hf cc
      refine tq_aload_n (M := mL_law b n xs) (pc := 1237) dL_law_1237 rfl ?_
      refine tq_iconst (M := mL_law b n xs) (pc := 1238) dL_law_1238 tk_ki_0 ?_
      obtain ⟨x11, ex11, hf⟩ := tq_be hf
      refine tq_laldF (M := mL_law b n xs) (pc := 1239) dL_law_1239 ex11 ?_
      refine tq_iload (M := mL_law b n xs) (pc := 1240) dL_law_1240 rfl ?_
      refine tq_i2l (M := mL_law b n xs) (pc := 1242) dL_law_1242 ?_
      refine tq_lcmp (M := mL_law b n xs) (pc := 1243) dL_law_1243 ?_
      refine tq_if_eq (M := mL_law b n xs) (pc := 1244) (tgt := 1249) dL_law_1244 (by decide) (fun cc => ?_) (fun cc => ?_)
      · have hf := tq_ifp hf cc
        refine tq_goto (M := mL_law b n xs) (pc := 1249) (tgt := 3605) dL_law_1249 (by decide) ?_
        obtain ⟨x12, ex12, hf⟩ := tq_le hf
        refine tq_iinc (M := mL_law b n xs) (pc := 3605) (v := x12) (L2 := [(4, .int x12), (6, .int v6.1), (5, .int v3.1), (0, .retAddr b), (1, .ref i1), (2, .ref i2), (3, .ref i3)]) dL_law_3605 rfl (by rw [ex12, tk_ki_5]) (Nat.le_of_ble_eq_true rfl) rfl ?_
        refine tq_goto (M := mL_law b n xs) (pc := 3608) (tgt := 23) dL_law_3608 (by decide) ?_
        refine tq_pick (L2 := [(0, .retAddr b), (1, .ref i1), (2, .ref i2), (3, .ref i3), (4, .int x12)]) [3, 4, 5, 6, 0] rfl ?_
        cases (Option.some.inj hf)
        exact tq_more (by omega) (by omega) (hc _ rfl)
      · have hf := tq_ifn hf cc
        refine tq_iconst (M := mL_law b n xs) (pc := 1247) dL_law_1247 tk_ki_0 ?_
        refine tq_zret (M := mL_law b n xs) (pc := 1248) dL_law_1248 rfl (Or.inl rfl) ?_
        cases (Option.some.inj hf)
        exact hx _ rfl
  · have hf := tq_ifn hf cc
    refine tq_iconst (M := mL_law b n xs) (pc := 1230) dL_law_1230 tk_ki_0 ?_
    refine tq_zret (M := mL_law b n xs) (pc := 1231) dL_law_1231 rfl (Or.inl rfl) ?_
    cases (Option.some.inj hf)
    exact hx _ rfl
def f_L_law_c1252 (n : Nat) (xs : Nat → Int32) (i1 i2 i3 : Nat) (y4 : Int32) (hh : tq_H) : Option ((Int32 × tq_H) ⊕ (Int32 × tq_H)) :=
  (tq_sx n xs (y4 + (1 : Int32))).bind fun x1 =>
  (f_L_space i1 x1 i3 hh).bind fun v2 =>
  (tq_sx n xs (y4 + (1 : Int32))).bind fun x3 =>
  (tq_is v2.2 i2 11).bind fun _ =>
  (f_X11_space i2 x3 v2.2).bind fun v4 =>
  (tq_is v4.2 i2 11).bind fun _ =>
  (f_X11_thrown i2 v4.2).bind fun v6 =>
  if v6 = v2.1 then
    if v2.1 = 0 then
      (tq_aj v4.2 i3 (0 : Int32)).bind fun x9 =>
      if (lg_cmp x9 (v4.1).toInt64) = 0 then
        tq_let (y4 + (5 : Int32)) fun x10 =>
        some (.inl (x10, v4.2))
      else
        some (.inr ((0 : Int32), v4.2))
    else
      tq_let (y4 + (5 : Int32)) fun x8 =>
      some (.inl (x8, v4.2))
  else
    some (.inr ((0 : Int32), v4.2))
set_option maxHeartbeats 4000000 in
set_option maxRecDepth 20000 in
theorem c_L_law_1252 {l : Launch} {d : Nat} (hd9 : 10 ≤ d) {b n : Nat} {xs : Nat → Int32} {i1 i2 i3 : Nat} {y4 : Int32} {hh : tq_H} {Q : tq_R → tq_H → Prop} {bc bs : Nat} {oo : (Int32 × tq_H) ⊕ (Int32 × tq_H)} (hf : f_L_law_c1252 n xs i1 i2 i3 y4 hh = some oo) (hc : ∀ s9, oo = .inl s9 → tq_W l (mL_law b n xs) d bc bs Q 23 [(0, .retAddr b), (1, .ref i1), (2, .ref i2), (3, .ref i3), (4, .int s9.1)] [] s9.2) (hx : ∀ e9, oo = .inr e9 → Q (.inl (some (.int e9.1))) e9.2) : tq_W l (mL_law b n xs) d (1 + bc) (6 + bs) Q 1252 [(0, .retAddr b), (1, .ref i1), (2, .ref i2), (3, .ref i3), (4, .int y4)] [] hh := by
  refine tq_aload_n (M := mL_law b n xs) (pc := 1252) dL_law_1252 rfl ?_
  refine tq_xload (M := mL_law b n xs) (pc := 1253) dL_law_1253 rfl ?_
  refine tq_iload (M := mL_law b n xs) (pc := 1254) dL_law_1254 rfl ?_
  refine tq_iconst (M := mL_law b n xs) (pc := 1256) dL_law_1256 tk_ki_1 ?_
  refine tq_iadd (M := mL_law b n xs) (pc := 1257) dL_law_1257 ?_
  obtain ⟨x1, ex1, hf⟩ := tq_be hf
  refine tq_xld (M := mL_law b n xs) (pc := 1258) dL_law_1258 (n := n) (xs := xs) rfl ex1 ?_
  refine tq_aload_n (M := mL_law b n xs) (pc := 1259) dL_law_1259 rfl ?_
  obtain ⟨v2, ev2, hf⟩ := tq_be hf
  refine tq_calSW (M := mL_law b n xs) (pc := 1260) (S := []) tk_w_L_space.1 tk_w_L_space.2.1 tk_w_L_space.2.2.1 tk_w_L_space.2.2.2.1 tk_w_L_space.2.2.2.2 tk_s_L_space tk_RL_238 dL_law_1260 [.ref i1, .int x1, .ref i3] rfl (Nat.le_of_ble_eq_true rfl) (d1 := d - 1) (b1 := 1) (s1 := 6) (bc' := (0 + bc)) (bs' := (0 + bs)) (Q1 := fun r h9 => r = .inl (some (.int v2.1)) ∧ v2.2 = h9) (by omega) (by omega) (by omega) (w_L_space (by omega) ev2 (fun _ _ q => q)) (fun E h9 q => nomatch (show (Sum.inr E : tq_R) = Sum.inl _ from q.1)) (fun r9 h9 q => ?_)
  obtain ⟨q1, rfl⟩ := q
  cases (show (Sum.inl r9 : tq_R) = Sum.inl (some (.int v2.1)) from q1)
  refine tq_istore (M := mL_law b n xs) (pc := 1263) dL_law_1263 (L2 := [(5, .int v2.1), (0, .retAddr b), (1, .ref i1), (2, .ref i2), (3, .ref i3), (4, .int y4)]) (Nat.le_of_ble_eq_true rfl) rfl ?_
  refine tq_aload_n (M := mL_law b n xs) (pc := 1265) dL_law_1265 rfl ?_
  refine tq_xload (M := mL_law b n xs) (pc := 1266) dL_law_1266 rfl ?_
  refine tq_iload (M := mL_law b n xs) (pc := 1267) dL_law_1267 rfl ?_
  refine tq_iconst (M := mL_law b n xs) (pc := 1269) dL_law_1269 tk_ki_1 ?_
  refine tq_iadd (M := mL_law b n xs) (pc := 1270) dL_law_1270 ?_
  obtain ⟨x3, ex3, hf⟩ := tq_be hf
  refine tq_xld (M := mL_law b n xs) (pc := 1271) dL_law_1271 (n := n) (xs := xs) rfl ex3 ?_
  obtain ⟨⟨⟩, eu5, hf⟩ := tq_be hf
  obtain ⟨fsu5, eu5⟩ := tq_is_s eu5
  obtain ⟨v4, ev4, hf⟩ := tq_be hf
  refine tq_calV (M := mL_law b n xs) (pc := 1272) (S := []) tk_y_X11_space tk_v_X11_space tk_RL_240 dL_law_1272 [.int x3] rfl (S0 := _) rfl eu5 rfl (Nat.le_of_ble_eq_true rfl) (d1 := d - 1) (b1 := 0) (s1 := 0) (bc' := (0 + bc)) (bs' := (0 + bs)) (Q1 := fun r h9 => r = .inl (some (.int v4.1)) ∧ v4.2 = h9) (by omega) (by omega) (by omega) (w_X11_space (by omega) ev4 (fun _ _ q => q)) (fun E h9 q => nomatch (show (Sum.inr E : tq_R) = Sum.inl _ from q.1)) (fun r9 h9 q => ?_)
  obtain ⟨q1, rfl⟩ := q
  cases (show (Sum.inl r9 : tq_R) = Sum.inl (some (.int v4.1)) from q1)
  refine tq_istore (M := mL_law b n xs) (pc := 1275) dL_law_1275 (L2 := [(6, .int v4.1), (5, .int v2.1), (0, .retAddr b), (1, .ref i1), (2, .ref i2), (3, .ref i3), (4, .int y4)]) (Nat.le_of_ble_eq_true rfl) rfl ?_
  refine tq_aload_n (M := mL_law b n xs) (pc := 1277) dL_law_1277 rfl ?_
  obtain ⟨⟨⟩, eu7, hf⟩ := tq_be hf
  obtain ⟨fsu7, eu7⟩ := tq_is_s eu7
  obtain ⟨v6, ev6, hf⟩ := tq_be hf
  refine tq_calV (M := mL_law b n xs) (pc := 1278) (S := []) tk_y_X11_thrown tk_v_X11_thrown tk_RL_177 dL_law_1278 [] rfl (S0 := _) rfl eu7 rfl (Nat.le_of_ble_eq_true rfl) (d1 := d - 1) (b1 := 0) (s1 := 0) (bc' := (0 + bc)) (bs' := (0 + bs)) (Q1 := fun r h9 => r = .inl (some (.int v6)) ∧ v4.2 = h9) (by omega) (by omega) (by omega) (w_X11_thrown (by omega) ev6 (fun _ _ q => q)) (fun E h9 q => nomatch (show (Sum.inr E : tq_R) = Sum.inl _ from q.1)) (fun r9 h9 q => ?_)
  obtain ⟨q1, rfl⟩ := q
  cases (show (Sum.inl r9 : tq_R) = Sum.inl (some (.int v6)) from q1)
  refine tq_iload (M := mL_law b n xs) (pc := 1281) dL_law_1281 rfl ?_
  refine tq_icmp_eq (M := mL_law b n xs) (pc := 1283) (tgt := 1288) dL_law_1283 (by decide) (fun cc => ?_) (fun cc => ?_)
  · have hf := tq_ifp hf cc
    refine tq_iload (M := mL_law b n xs) (pc := 1288) dL_law_1288 rfl ?_
    refine tq_if_ne (M := mL_law b n xs) (pc := 1290) (tgt := 1305) dL_law_1290 (by decide) (fun cc => ?_) (fun cc => ?_)
    · have hf := tq_ifn hf cc
      refine tq_goto (M := mL_law b n xs) (pc := 1305) (tgt := 3605) dL_law_1305 (by decide) ?_
      obtain ⟨x8, ex8, hf⟩ := tq_le hf
      refine tq_iinc (M := mL_law b n xs) (pc := 3605) (v := x8) (L2 := [(4, .int x8), (6, .int v4.1), (5, .int v2.1), (0, .retAddr b), (1, .ref i1), (2, .ref i2), (3, .ref i3)]) dL_law_3605 rfl (by rw [ex8, tk_ki_5]) (Nat.le_of_ble_eq_true rfl) rfl ?_
      refine tq_goto (M := mL_law b n xs) (pc := 3608) (tgt := 23) dL_law_3608 (by decide) ?_
      refine tq_pick (L2 := [(0, .retAddr b), (1, .ref i1), (2, .ref i2), (3, .ref i3), (4, .int x8)]) [3, 4, 5, 6, 0] rfl ?_
      cases (Option.some.inj hf)
      exact tq_more (by omega) (by omega) (hc _ rfl)
    · have hf := tq_ifp hf cc
      refine tq_aload_n (M := mL_law b n xs) (pc := 1293) dL_law_1293 rfl ?_
      refine tq_iconst (M := mL_law b n xs) (pc := 1294) dL_law_1294 tk_ki_0 ?_
      obtain ⟨x9, ex9, hf⟩ := tq_be hf
      refine tq_laldF (M := mL_law b n xs) (pc := 1295) dL_law_1295 ex9 ?_
      refine tq_iload (M := mL_law b n xs) (pc := 1296) dL_law_1296 rfl ?_
      refine tq_i2l (M := mL_law b n xs) (pc := 1298) dL_law_1298 ?_
      refine tq_lcmp (M := mL_law b n xs) (pc := 1299) dL_law_1299 ?_
      refine tq_if_eq (M := mL_law b n xs) (pc := 1300) (tgt := 1305) dL_law_1300 (by decide) (fun cc => ?_) (fun cc => ?_)
      · have hf := tq_ifp hf cc
        refine tq_goto (M := mL_law b n xs) (pc := 1305) (tgt := 3605) dL_law_1305 (by decide) ?_
        obtain ⟨x10, ex10, hf⟩ := tq_le hf
        refine tq_iinc (M := mL_law b n xs) (pc := 3605) (v := x10) (L2 := [(4, .int x10), (6, .int v4.1), (5, .int v2.1), (0, .retAddr b), (1, .ref i1), (2, .ref i2), (3, .ref i3)]) dL_law_3605 rfl (by rw [ex10, tk_ki_5]) (Nat.le_of_ble_eq_true rfl) rfl ?_
        refine tq_goto (M := mL_law b n xs) (pc := 3608) (tgt := 23) dL_law_3608 (by decide) ?_
        refine tq_pick (L2 := [(0, .retAddr b), (1, .ref i1), (2, .ref i2), (3, .ref i3), (4, .int x10)]) [3, 4, 5, 6, 0] rfl ?_
        cases (Option.some.inj hf)
        exact tq_more (by omega) (by omega) (hc _ rfl)
      · have hf := tq_ifn hf cc
        refine tq_iconst (M := mL_law b n xs) (pc := 1303) dL_law_1303 tk_ki_0 ?_
        refine tq_zret (M := mL_law b n xs) (pc := 1304) dL_law_1304 rfl (Or.inl rfl) ?_
        cases (Option.some.inj hf)
        exact hx _ rfl
  · have hf := tq_ifn hf cc
    refine tq_iconst (M := mL_law b n xs) (pc := 1286) dL_law_1286 tk_ki_0 ?_
    refine tq_zret (M := mL_law b n xs) (pc := 1287) dL_law_1287 rfl (Or.inl rfl) ?_
    cases (Option.some.inj hf)
    exact hx _ rfl
def f_L_law_c1308 (n : Nat) (xs : Nat → Int32) (i1 i2 i3 : Nat) (y4 : Int32) (hh : tq_H) : Option ((Int32 × tq_H) ⊕ (Int32 × tq_H)) :=
  (tq_sx n xs (y4 + (1 : Int32))).bind fun x1 =>
  (f_L_number i1 x1 i3 hh).bind fun v2 =>
  (tq_sx n xs (y4 + (1 : Int32))).bind fun x3 =>
  (tq_is v2.2 i2 11).bind fun _ =>
  (f_X11_number_ i2 x3 v2.2).bind fun v4 =>
  (tq_is v4.2 i2 11).bind fun _ =>
  (f_X11_thrown i2 v4.2).bind fun v6 =>
  if v6 = v2.1 then
    if v2.1 = 0 then
      (tq_aj v4.2 i3 (0 : Int32)).bind fun x9 =>
      if (lg_cmp x9 (v4.1).toInt64) = 0 then
        tq_let (y4 + (5 : Int32)) fun x10 =>
        some (.inl (x10, v4.2))
      else
        some (.inr ((0 : Int32), v4.2))
    else
      tq_let (y4 + (5 : Int32)) fun x8 =>
      some (.inl (x8, v4.2))
  else
    some (.inr ((0 : Int32), v4.2))
set_option maxHeartbeats 4000000 in
set_option maxRecDepth 20000 in
theorem c_L_law_1308 {l : Launch} {d : Nat} (hd9 : 10 ≤ d) {b n : Nat} {xs : Nat → Int32} {i1 i2 i3 : Nat} {y4 : Int32} {hh : tq_H} {Q : tq_R → tq_H → Prop} {bc bs : Nat} {oo : (Int32 × tq_H) ⊕ (Int32 × tq_H)} (hf : f_L_law_c1308 n xs i1 i2 i3 y4 hh = some oo) (hc : ∀ s9, oo = .inl s9 → tq_W l (mL_law b n xs) d bc bs Q 23 [(0, .retAddr b), (1, .ref i1), (2, .ref i2), (3, .ref i3), (4, .int s9.1)] [] s9.2) (hx : ∀ e9, oo = .inr e9 → Q (.inl (some (.int e9.1))) e9.2) : tq_W l (mL_law b n xs) d (1 + bc) (6 + bs) Q 1308 [(0, .retAddr b), (1, .ref i1), (2, .ref i2), (3, .ref i3), (4, .int y4)] [] hh := by
  refine tq_aload_n (M := mL_law b n xs) (pc := 1308) dL_law_1308 rfl ?_
  refine tq_xload (M := mL_law b n xs) (pc := 1309) dL_law_1309 rfl ?_
  refine tq_iload (M := mL_law b n xs) (pc := 1310) dL_law_1310 rfl ?_
  refine tq_iconst (M := mL_law b n xs) (pc := 1312) dL_law_1312 tk_ki_1 ?_
  refine tq_iadd (M := mL_law b n xs) (pc := 1313) dL_law_1313 ?_
  obtain ⟨x1, ex1, hf⟩ := tq_be hf
  refine tq_xld (M := mL_law b n xs) (pc := 1314) dL_law_1314 (n := n) (xs := xs) rfl ex1 ?_
  refine tq_aload_n (M := mL_law b n xs) (pc := 1315) dL_law_1315 rfl ?_
  obtain ⟨v2, ev2, hf⟩ := tq_be hf
  refine tq_calSW (M := mL_law b n xs) (pc := 1316) (S := []) tk_w_L_number.1 tk_w_L_number.2.1 tk_w_L_number.2.2.1 tk_w_L_number.2.2.2.1 tk_w_L_number.2.2.2.2 tk_s_L_number tk_RL_241 dL_law_1316 [.ref i1, .int x1, .ref i3] rfl (Nat.le_of_ble_eq_true rfl) (d1 := d - 1) (b1 := 1) (s1 := 6) (bc' := (0 + bc)) (bs' := (0 + bs)) (Q1 := fun r h9 => r = .inl (some (.int v2.1)) ∧ v2.2 = h9) (by omega) (by omega) (by omega) (w_L_number (by omega) ev2 (fun _ _ q => q)) (fun E h9 q => nomatch (show (Sum.inr E : tq_R) = Sum.inl _ from q.1)) (fun r9 h9 q => ?_)
  obtain ⟨q1, rfl⟩ := q
  cases (show (Sum.inl r9 : tq_R) = Sum.inl (some (.int v2.1)) from q1)
  refine tq_istore (M := mL_law b n xs) (pc := 1319) dL_law_1319 (L2 := [(5, .int v2.1), (0, .retAddr b), (1, .ref i1), (2, .ref i2), (3, .ref i3), (4, .int y4)]) (Nat.le_of_ble_eq_true rfl) rfl ?_
  refine tq_aload_n (M := mL_law b n xs) (pc := 1321) dL_law_1321 rfl ?_
  refine tq_xload (M := mL_law b n xs) (pc := 1322) dL_law_1322 rfl ?_
  refine tq_iload (M := mL_law b n xs) (pc := 1323) dL_law_1323 rfl ?_
  refine tq_iconst (M := mL_law b n xs) (pc := 1325) dL_law_1325 tk_ki_1 ?_
  refine tq_iadd (M := mL_law b n xs) (pc := 1326) dL_law_1326 ?_
  obtain ⟨x3, ex3, hf⟩ := tq_be hf
  refine tq_xld (M := mL_law b n xs) (pc := 1327) dL_law_1327 (n := n) (xs := xs) rfl ex3 ?_
  obtain ⟨⟨⟩, eu5, hf⟩ := tq_be hf
  obtain ⟨fsu5, eu5⟩ := tq_is_s eu5
  obtain ⟨v4, ev4, hf⟩ := tq_be hf
  refine tq_calV (M := mL_law b n xs) (pc := 1328) (S := []) tk_y_X11_number_ tk_v_X11_number_ tk_RL_243 dL_law_1328 [.int x3] rfl (S0 := _) rfl eu5 rfl (Nat.le_of_ble_eq_true rfl) (d1 := d - 1) (b1 := 0) (s1 := 0) (bc' := (0 + bc)) (bs' := (0 + bs)) (Q1 := fun r h9 => r = .inl (some (.int v4.1)) ∧ v4.2 = h9) (by omega) (by omega) (by omega) (w_X11_number_ (by omega) ev4 (fun _ _ q => q)) (fun E h9 q => nomatch (show (Sum.inr E : tq_R) = Sum.inl _ from q.1)) (fun r9 h9 q => ?_)
  obtain ⟨q1, rfl⟩ := q
  cases (show (Sum.inl r9 : tq_R) = Sum.inl (some (.int v4.1)) from q1)
  refine tq_istore (M := mL_law b n xs) (pc := 1331) dL_law_1331 (L2 := [(6, .int v4.1), (5, .int v2.1), (0, .retAddr b), (1, .ref i1), (2, .ref i2), (3, .ref i3), (4, .int y4)]) (Nat.le_of_ble_eq_true rfl) rfl ?_
  refine tq_aload_n (M := mL_law b n xs) (pc := 1333) dL_law_1333 rfl ?_
  obtain ⟨⟨⟩, eu7, hf⟩ := tq_be hf
  obtain ⟨fsu7, eu7⟩ := tq_is_s eu7
  obtain ⟨v6, ev6, hf⟩ := tq_be hf
  refine tq_calV (M := mL_law b n xs) (pc := 1334) (S := []) tk_y_X11_thrown tk_v_X11_thrown tk_RL_177 dL_law_1334 [] rfl (S0 := _) rfl eu7 rfl (Nat.le_of_ble_eq_true rfl) (d1 := d - 1) (b1 := 0) (s1 := 0) (bc' := (0 + bc)) (bs' := (0 + bs)) (Q1 := fun r h9 => r = .inl (some (.int v6)) ∧ v4.2 = h9) (by omega) (by omega) (by omega) (w_X11_thrown (by omega) ev6 (fun _ _ q => q)) (fun E h9 q => nomatch (show (Sum.inr E : tq_R) = Sum.inl _ from q.1)) (fun r9 h9 q => ?_)
  obtain ⟨q1, rfl⟩ := q
  cases (show (Sum.inl r9 : tq_R) = Sum.inl (some (.int v6)) from q1)
  refine tq_iload (M := mL_law b n xs) (pc := 1337) dL_law_1337 rfl ?_
  refine tq_icmp_eq (M := mL_law b n xs) (pc := 1339) (tgt := 1344) dL_law_1339 (by decide) (fun cc => ?_) (fun cc => ?_)
  · have hf := tq_ifp hf cc
    refine tq_iload (M := mL_law b n xs) (pc := 1344) dL_law_1344 rfl ?_
    refine tq_if_ne (M := mL_law b n xs) (pc := 1346) (tgt := 1361) dL_law_1346 (by decide) (fun cc => ?_) (fun cc => ?_)
    · have hf := tq_ifn hf cc
      refine tq_goto (M := mL_law b n xs) (pc := 1361) (tgt := 3605) dL_law_1361 (by decide) ?_
      obtain ⟨x8, ex8, hf⟩ := tq_le hf
      refine tq_iinc (M := mL_law b n xs) (pc := 3605) (v := x8) (L2 := [(4, .int x8), (6, .int v4.1), (5, .int v2.1), (0, .retAddr b), (1, .ref i1), (2, .ref i2), (3, .ref i3)]) dL_law_3605 rfl (by rw [ex8, tk_ki_5]) (Nat.le_of_ble_eq_true rfl) rfl ?_
      refine tq_goto (M := mL_law b n xs) (pc := 3608) (tgt := 23) dL_law_3608 (by decide) ?_
      refine tq_pick (L2 := [(0, .retAddr b), (1, .ref i1), (2, .ref i2), (3, .ref i3), (4, .int x8)]) [3, 4, 5, 6, 0] rfl ?_
      cases (Option.some.inj hf)
      exact tq_more (by omega) (by omega) (hc _ rfl)
    · have hf := tq_ifp hf cc
      refine tq_aload_n (M := mL_law b n xs) (pc := 1349) dL_law_1349 rfl ?_
      refine tq_iconst (M := mL_law b n xs) (pc := 1350) dL_law_1350 tk_ki_0 ?_
      obtain ⟨x9, ex9, hf⟩ := tq_be hf
      refine tq_laldF (M := mL_law b n xs) (pc := 1351) dL_law_1351 ex9 ?_
      refine tq_iload (M := mL_law b n xs) (pc := 1352) dL_law_1352 rfl ?_
      refine tq_i2l (M := mL_law b n xs) (pc := 1354) dL_law_1354 ?_
      refine tq_lcmp (M := mL_law b n xs) (pc := 1355) dL_law_1355 ?_
      refine tq_if_eq (M := mL_law b n xs) (pc := 1356) (tgt := 1361) dL_law_1356 (by decide) (fun cc => ?_) (fun cc => ?_)
      · have hf := tq_ifp hf cc
        refine tq_goto (M := mL_law b n xs) (pc := 1361) (tgt := 3605) dL_law_1361 (by decide) ?_
        obtain ⟨x10, ex10, hf⟩ := tq_le hf
        refine tq_iinc (M := mL_law b n xs) (pc := 3605) (v := x10) (L2 := [(4, .int x10), (6, .int v4.1), (5, .int v2.1), (0, .retAddr b), (1, .ref i1), (2, .ref i2), (3, .ref i3)]) dL_law_3605 rfl (by rw [ex10, tk_ki_5]) (Nat.le_of_ble_eq_true rfl) rfl ?_
        refine tq_goto (M := mL_law b n xs) (pc := 3608) (tgt := 23) dL_law_3608 (by decide) ?_
        refine tq_pick (L2 := [(0, .retAddr b), (1, .ref i1), (2, .ref i2), (3, .ref i3), (4, .int x10)]) [3, 4, 5, 6, 0] rfl ?_
        cases (Option.some.inj hf)
        exact tq_more (by omega) (by omega) (hc _ rfl)
      · have hf := tq_ifn hf cc
        refine tq_iconst (M := mL_law b n xs) (pc := 1359) dL_law_1359 tk_ki_0 ?_
        refine tq_zret (M := mL_law b n xs) (pc := 1360) dL_law_1360 rfl (Or.inl rfl) ?_
        cases (Option.some.inj hf)
        exact hx _ rfl
  · have hf := tq_ifn hf cc
    refine tq_iconst (M := mL_law b n xs) (pc := 1342) dL_law_1342 tk_ki_0 ?_
    refine tq_zret (M := mL_law b n xs) (pc := 1343) dL_law_1343 rfl (Or.inl rfl) ?_
    cases (Option.some.inj hf)
    exact hx _ rfl
def f_L_law_c1364 (n : Nat) (xs : Nat → Int32) (i1 i2 i3 : Nat) (y4 : Int32) (hh : tq_H) : Option ((Int32 × tq_H) ⊕ (Int32 × tq_H)) :=
  (tq_is hh i1 10).bind fun _ =>
  (f_X10_numbered i1 hh).bind fun v1 =>
  (tq_is hh i2 11).bind fun _ =>
  (f_X11_numbered i2 hh).bind fun v3 =>
  if v1 = v3.1 then
    tq_let (y4 + (5 : Int32)) fun x5 =>
    some (.inl (x5, v3.2))
  else
    some (.inr ((0 : Int32), v3.2))
set_option maxHeartbeats 4000000 in
set_option maxRecDepth 20000 in
theorem c_L_law_1364 {l : Launch} {d : Nat} (hd9 : 10 ≤ d) {b n : Nat} {xs : Nat → Int32} {i1 i2 i3 : Nat} {y4 : Int32} {hh : tq_H} {Q : tq_R → tq_H → Prop} {bc bs : Nat} {oo : (Int32 × tq_H) ⊕ (Int32 × tq_H)} (hf : f_L_law_c1364 n xs i1 i2 i3 y4 hh = some oo) (hc : ∀ s9, oo = .inl s9 → tq_W l (mL_law b n xs) d bc bs Q 23 [(0, .retAddr b), (1, .ref i1), (2, .ref i2), (3, .ref i3), (4, .int s9.1)] [] s9.2) (hx : ∀ e9, oo = .inr e9 → Q (.inl (some (.int e9.1))) e9.2) : tq_W l (mL_law b n xs) d (0 + bc) (0 + bs) Q 1364 [(0, .retAddr b), (1, .ref i1), (2, .ref i2), (3, .ref i3), (4, .int y4)] [] hh := by
  refine tq_aload_n (M := mL_law b n xs) (pc := 1364) dL_law_1364 rfl ?_
  obtain ⟨⟨⟩, eu2, hf⟩ := tq_be hf
  obtain ⟨fsu2, eu2⟩ := tq_is_s eu2
  obtain ⟨v1, ev1, hf⟩ := tq_be hf
  refine tq_calV (M := mL_law b n xs) (pc := 1365) (S := []) tk_y_X10_numbered tk_v_X10_numbered tk_RL_244 dL_law_1365 [] rfl (S0 := _) rfl eu2 rfl (Nat.le_of_ble_eq_true rfl) (d1 := d - 1) (b1 := 0) (s1 := 0) (bc' := (0 + bc)) (bs' := (0 + bs)) (Q1 := fun r h9 => r = .inl (some (.int v1)) ∧ hh = h9) (by omega) (by omega) (by omega) (w_X10_numbered (by omega) ev1 (fun _ _ q => q)) (fun E h9 q => nomatch (show (Sum.inr E : tq_R) = Sum.inl _ from q.1)) (fun r9 h9 q => ?_)
  obtain ⟨q1, rfl⟩ := q
  cases (show (Sum.inl r9 : tq_R) = Sum.inl (some (.int v1)) from q1)
  refine tq_aload_n (M := mL_law b n xs) (pc := 1368) dL_law_1368 rfl ?_
  obtain ⟨⟨⟩, eu4, hf⟩ := tq_be hf
  obtain ⟨fsu4, eu4⟩ := tq_is_s eu4
  obtain ⟨v3, ev3, hf⟩ := tq_be hf
  refine tq_calV (M := mL_law b n xs) (pc := 1369) (S := [.int v1]) tk_y_X11_numbered tk_v_X11_numbered tk_RL_247 dL_law_1369 [] rfl (S0 := _) rfl eu4 rfl (Nat.le_of_ble_eq_true rfl) (d1 := d - 1) (b1 := 0) (s1 := 0) (bc' := (0 + bc)) (bs' := (0 + bs)) (Q1 := fun r h9 => r = .inl (some (.int v3.1)) ∧ v3.2 = h9) (by omega) (by omega) (by omega) (w_X11_numbered (by omega) ev3 (fun _ _ q => q)) (fun E h9 q => nomatch (show (Sum.inr E : tq_R) = Sum.inl _ from q.1)) (fun r9 h9 q => ?_)
  obtain ⟨q1, rfl⟩ := q
  cases (show (Sum.inl r9 : tq_R) = Sum.inl (some (.int v3.1)) from q1)
  refine tq_icmp_eq (M := mL_law b n xs) (pc := 1372) (tgt := 3605) dL_law_1372 (by decide) (fun cc => ?_) (fun cc => ?_)
  · have hf := tq_ifp hf cc
    obtain ⟨x5, ex5, hf⟩ := tq_le hf
    refine tq_iinc (M := mL_law b n xs) (pc := 3605) (v := x5) (L2 := [(4, .int x5), (0, .retAddr b), (1, .ref i1), (2, .ref i2), (3, .ref i3)]) dL_law_3605 rfl (by rw [ex5, tk_ki_5]) (Nat.le_of_ble_eq_true rfl) rfl ?_
    refine tq_goto (M := mL_law b n xs) (pc := 3608) (tgt := 23) dL_law_3608 (by decide) ?_
    refine tq_pick (L2 := [(0, .retAddr b), (1, .ref i1), (2, .ref i2), (3, .ref i3), (4, .int x5)]) [1, 2, 3, 4, 0] rfl ?_
    cases (Option.some.inj hf)
    exact tq_more (by omega) (by omega) (hc _ rfl)
  · have hf := tq_ifn hf cc
    refine tq_iconst (M := mL_law b n xs) (pc := 1375) dL_law_1375 tk_ki_0 ?_
    refine tq_zret (M := mL_law b n xs) (pc := 1376) dL_law_1376 rfl (Or.inl rfl) ?_
    cases (Option.some.inj hf)
    exact hx _ rfl
def f_L_law_c1377 (n : Nat) (xs : Nat → Int32) (i1 i2 i3 : Nat) (y4 : Int32) (hh : tq_H) : Option ((Int32 × tq_H) ⊕ (Int32 × tq_H)) :=
  (f_L_path i1 i3 hh).bind fun v1 =>
  (tq_is v1.2 i2 11).bind fun _ =>
  (f_X11_path i2 v1.2).bind fun v2 =>
  (tq_is v2.2 i2 11).bind fun _ =>
  (f_X11_thrown i2 v2.2).bind fun v4 =>
  if v4 = v1.1 then
    if v1.1 = 0 then
      (tq_aj v2.2 i3 (0 : Int32)).bind fun x7 =>
      if (lg_cmp x7 (v2.1).toInt64) = 0 then
        tq_let (y4 + (5 : Int32)) fun x8 =>
        some (.inl (x8, v2.2))
      else
        some (.inr ((0 : Int32), v2.2))
    else
      tq_let (y4 + (5 : Int32)) fun x6 =>
      some (.inl (x6, v2.2))
  else
    some (.inr ((0 : Int32), v2.2))
set_option maxHeartbeats 4000000 in
set_option maxRecDepth 20000 in
theorem c_L_law_1377 {l : Launch} {d : Nat} (hd9 : 10 ≤ d) {b n : Nat} {xs : Nat → Int32} {i1 i2 i3 : Nat} {y4 : Int32} {hh : tq_H} {Q : tq_R → tq_H → Prop} {bc bs : Nat} {oo : (Int32 × tq_H) ⊕ (Int32 × tq_H)} (hf : f_L_law_c1377 n xs i1 i2 i3 y4 hh = some oo) (hc : ∀ s9, oo = .inl s9 → tq_W l (mL_law b n xs) d bc bs Q 23 [(0, .retAddr b), (1, .ref i1), (2, .ref i2), (3, .ref i3), (4, .int s9.1)] [] s9.2) (hx : ∀ e9, oo = .inr e9 → Q (.inl (some (.int e9.1))) e9.2) : tq_W l (mL_law b n xs) d (1 + bc) (6 + bs) Q 1377 [(0, .retAddr b), (1, .ref i1), (2, .ref i2), (3, .ref i3), (4, .int y4)] [] hh := by
  refine tq_aload_n (M := mL_law b n xs) (pc := 1377) dL_law_1377 rfl ?_
  refine tq_aload_n (M := mL_law b n xs) (pc := 1378) dL_law_1378 rfl ?_
  obtain ⟨v1, ev1, hf⟩ := tq_be hf
  refine tq_calSW (M := mL_law b n xs) (pc := 1379) (S := []) tk_w_L_path.1 tk_w_L_path.2.1 tk_w_L_path.2.2.1 tk_w_L_path.2.2.2.1 tk_w_L_path.2.2.2.2 tk_s_L_path tk_RL_248 dL_law_1379 [.ref i1, .ref i3] rfl (Nat.le_of_ble_eq_true rfl) (d1 := d - 1) (b1 := 1) (s1 := 6) (bc' := (0 + bc)) (bs' := (0 + bs)) (Q1 := fun r h9 => r = .inl (some (.int v1.1)) ∧ v1.2 = h9) (by omega) (by omega) (by omega) (w_L_path (by omega) ev1 (fun _ _ q => q)) (fun E h9 q => nomatch (show (Sum.inr E : tq_R) = Sum.inl _ from q.1)) (fun r9 h9 q => ?_)
  obtain ⟨q1, rfl⟩ := q
  cases (show (Sum.inl r9 : tq_R) = Sum.inl (some (.int v1.1)) from q1)
  refine tq_istore (M := mL_law b n xs) (pc := 1382) dL_law_1382 (L2 := [(5, .int v1.1), (0, .retAddr b), (1, .ref i1), (2, .ref i2), (3, .ref i3), (4, .int y4)]) (Nat.le_of_ble_eq_true rfl) rfl ?_
  refine tq_aload_n (M := mL_law b n xs) (pc := 1384) dL_law_1384 rfl ?_
  obtain ⟨⟨⟩, eu3, hf⟩ := tq_be hf
  obtain ⟨fsu3, eu3⟩ := tq_is_s eu3
  obtain ⟨v2, ev2, hf⟩ := tq_be hf
  refine tq_calV (M := mL_law b n xs) (pc := 1385) (S := []) tk_y_X11_path tk_v_X11_path tk_RL_250 dL_law_1385 [] rfl (S0 := _) rfl eu3 rfl (Nat.le_of_ble_eq_true rfl) (d1 := d - 1) (b1 := 0) (s1 := 0) (bc' := (0 + bc)) (bs' := (0 + bs)) (Q1 := fun r h9 => r = .inl (some (.int v2.1)) ∧ v2.2 = h9) (by omega) (by omega) (by omega) (w_X11_path (by omega) ev2 (fun _ _ q => q)) (fun E h9 q => nomatch (show (Sum.inr E : tq_R) = Sum.inl _ from q.1)) (fun r9 h9 q => ?_)
  obtain ⟨q1, rfl⟩ := q
  cases (show (Sum.inl r9 : tq_R) = Sum.inl (some (.int v2.1)) from q1)
  refine tq_istore (M := mL_law b n xs) (pc := 1388) dL_law_1388 (L2 := [(6, .int v2.1), (5, .int v1.1), (0, .retAddr b), (1, .ref i1), (2, .ref i2), (3, .ref i3), (4, .int y4)]) (Nat.le_of_ble_eq_true rfl) rfl ?_
  refine tq_aload_n (M := mL_law b n xs) (pc := 1390) dL_law_1390 rfl ?_
  obtain ⟨⟨⟩, eu5, hf⟩ := tq_be hf
  obtain ⟨fsu5, eu5⟩ := tq_is_s eu5
  obtain ⟨v4, ev4, hf⟩ := tq_be hf
  refine tq_calV (M := mL_law b n xs) (pc := 1391) (S := []) tk_y_X11_thrown tk_v_X11_thrown tk_RL_177 dL_law_1391 [] rfl (S0 := _) rfl eu5 rfl (Nat.le_of_ble_eq_true rfl) (d1 := d - 1) (b1 := 0) (s1 := 0) (bc' := (0 + bc)) (bs' := (0 + bs)) (Q1 := fun r h9 => r = .inl (some (.int v4)) ∧ v2.2 = h9) (by omega) (by omega) (by omega) (w_X11_thrown (by omega) ev4 (fun _ _ q => q)) (fun E h9 q => nomatch (show (Sum.inr E : tq_R) = Sum.inl _ from q.1)) (fun r9 h9 q => ?_)
  obtain ⟨q1, rfl⟩ := q
  cases (show (Sum.inl r9 : tq_R) = Sum.inl (some (.int v4)) from q1)
  refine tq_iload (M := mL_law b n xs) (pc := 1394) dL_law_1394 rfl ?_
  refine tq_icmp_eq (M := mL_law b n xs) (pc := 1396) (tgt := 1401) dL_law_1396 (by decide) (fun cc => ?_) (fun cc => ?_)
  · have hf := tq_ifp hf cc
    refine tq_iload (M := mL_law b n xs) (pc := 1401) dL_law_1401 rfl ?_
    refine tq_if_ne (M := mL_law b n xs) (pc := 1403) (tgt := 1418) dL_law_1403 (by decide) (fun cc => ?_) (fun cc => ?_)
    · have hf := tq_ifn hf cc
      refine tq_goto (M := mL_law b n xs) (pc := 1418) (tgt := 3605) dL_law_1418 (by decide) ?_
      obtain ⟨x6, ex6, hf⟩ := tq_le hf
      refine tq_iinc (M := mL_law b n xs) (pc := 3605) (v := x6) (L2 := [(4, .int x6), (6, .int v2.1), (5, .int v1.1), (0, .retAddr b), (1, .ref i1), (2, .ref i2), (3, .ref i3)]) dL_law_3605 rfl (by rw [ex6, tk_ki_5]) (Nat.le_of_ble_eq_true rfl) rfl ?_
      refine tq_goto (M := mL_law b n xs) (pc := 3608) (tgt := 23) dL_law_3608 (by decide) ?_
      refine tq_pick (L2 := [(0, .retAddr b), (1, .ref i1), (2, .ref i2), (3, .ref i3), (4, .int x6)]) [3, 4, 5, 6, 0] rfl ?_
      cases (Option.some.inj hf)
      exact tq_more (by omega) (by omega) (hc _ rfl)
    · have hf := tq_ifp hf cc
      refine tq_aload_n (M := mL_law b n xs) (pc := 1406) dL_law_1406 rfl ?_
      refine tq_iconst (M := mL_law b n xs) (pc := 1407) dL_law_1407 tk_ki_0 ?_
      obtain ⟨x7, ex7, hf⟩ := tq_be hf
      refine tq_laldF (M := mL_law b n xs) (pc := 1408) dL_law_1408 ex7 ?_
      refine tq_iload (M := mL_law b n xs) (pc := 1409) dL_law_1409 rfl ?_
      refine tq_i2l (M := mL_law b n xs) (pc := 1411) dL_law_1411 ?_
      refine tq_lcmp (M := mL_law b n xs) (pc := 1412) dL_law_1412 ?_
      refine tq_if_eq (M := mL_law b n xs) (pc := 1413) (tgt := 1418) dL_law_1413 (by decide) (fun cc => ?_) (fun cc => ?_)
      · have hf := tq_ifp hf cc
        refine tq_goto (M := mL_law b n xs) (pc := 1418) (tgt := 3605) dL_law_1418 (by decide) ?_
        obtain ⟨x8, ex8, hf⟩ := tq_le hf
        refine tq_iinc (M := mL_law b n xs) (pc := 3605) (v := x8) (L2 := [(4, .int x8), (6, .int v2.1), (5, .int v1.1), (0, .retAddr b), (1, .ref i1), (2, .ref i2), (3, .ref i3)]) dL_law_3605 rfl (by rw [ex8, tk_ki_5]) (Nat.le_of_ble_eq_true rfl) rfl ?_
        refine tq_goto (M := mL_law b n xs) (pc := 3608) (tgt := 23) dL_law_3608 (by decide) ?_
        refine tq_pick (L2 := [(0, .retAddr b), (1, .ref i1), (2, .ref i2), (3, .ref i3), (4, .int x8)]) [3, 4, 5, 6, 0] rfl ?_
        cases (Option.some.inj hf)
        exact tq_more (by omega) (by omega) (hc _ rfl)
      · have hf := tq_ifn hf cc
        refine tq_iconst (M := mL_law b n xs) (pc := 1416) dL_law_1416 tk_ki_0 ?_
        refine tq_zret (M := mL_law b n xs) (pc := 1417) dL_law_1417 rfl (Or.inl rfl) ?_
        cases (Option.some.inj hf)
        exact hx _ rfl
  · have hf := tq_ifn hf cc
    refine tq_iconst (M := mL_law b n xs) (pc := 1399) dL_law_1399 tk_ki_0 ?_
    refine tq_zret (M := mL_law b n xs) (pc := 1400) dL_law_1400 rfl (Or.inl rfl) ?_
    cases (Option.some.inj hf)
    exact hx _ rfl
def f_L_law_c1421 (n : Nat) (xs : Nat → Int32) (i1 i2 i3 : Nat) (y4 : Int32) (hh : tq_H) : Option ((Int32 × tq_H) ⊕ (Int32 × tq_H)) :=
  (tq_sx n xs (y4 + (1 : Int32))).bind fun x1 =>
  (tq_sx n xs (y4 + (2 : Int32))).bind fun x2 =>
  (tq_sx n xs (y4 + (3 : Int32))).bind fun x3 =>
  (tq_sx n xs (y4 + (4 : Int32))).bind fun x4 =>
  (f_L_step i1 x1 x2 x3 x4 i3 hh).bind fun v5 =>
  (tq_sx n xs (y4 + (1 : Int32))).bind fun x6 =>
  (tq_sx n xs (y4 + (2 : Int32))).bind fun x7 =>
  (tq_sx n xs (y4 + (3 : Int32))).bind fun x8 =>
  (tq_sx n xs (y4 + (4 : Int32))).bind fun x9 =>
  (tq_is v5.2 i2 11).bind fun _ =>
  (f_X11_step i2 x6 x7 x8 x9 v5.2).bind fun v10 =>
  (tq_is v10.2 i2 11).bind fun _ =>
  (f_X11_thrown i2 v10.2).bind fun v12 =>
  if v12 = v5.1 then
    if v5.1 = 0 then
      (tq_aj v10.2 i3 (0 : Int32)).bind fun x15 =>
      if (lg_cmp x15 (v10.1).toInt64) = 0 then
        tq_let (y4 + (5 : Int32)) fun x16 =>
        some (.inl (x16, v10.2))
      else
        some (.inr ((0 : Int32), v10.2))
    else
      tq_let (y4 + (5 : Int32)) fun x14 =>
      some (.inl (x14, v10.2))
  else
    some (.inr ((0 : Int32), v10.2))
set_option maxHeartbeats 4000000 in
set_option maxRecDepth 20000 in
theorem c_L_law_1421 {l : Launch} {d : Nat} (hd9 : 10 ≤ d) {b n : Nat} {xs : Nat → Int32} {i1 i2 i3 : Nat} {y4 : Int32} {hh : tq_H} {Q : tq_R → tq_H → Prop} {bc bs : Nat} {oo : (Int32 × tq_H) ⊕ (Int32 × tq_H)} (hf : f_L_law_c1421 n xs i1 i2 i3 y4 hh = some oo) (hc : ∀ s9, oo = .inl s9 → tq_W l (mL_law b n xs) d bc bs Q 23 [(0, .retAddr b), (1, .ref i1), (2, .ref i2), (3, .ref i3), (4, .int s9.1)] [] s9.2) (hx : ∀ e9, oo = .inr e9 → Q (.inl (some (.int e9.1))) e9.2) : tq_W l (mL_law b n xs) d (6 + bc) (36 + bs) Q 1421 [(0, .retAddr b), (1, .ref i1), (2, .ref i2), (3, .ref i3), (4, .int y4)] [] hh := by
  refine tq_aload_n (M := mL_law b n xs) (pc := 1421) dL_law_1421 rfl ?_
  refine tq_xload (M := mL_law b n xs) (pc := 1422) dL_law_1422 rfl ?_
  refine tq_iload (M := mL_law b n xs) (pc := 1423) dL_law_1423 rfl ?_
  refine tq_iconst (M := mL_law b n xs) (pc := 1425) dL_law_1425 tk_ki_1 ?_
  refine tq_iadd (M := mL_law b n xs) (pc := 1426) dL_law_1426 ?_
  obtain ⟨x1, ex1, hf⟩ := tq_be hf
  refine tq_xld (M := mL_law b n xs) (pc := 1427) dL_law_1427 (n := n) (xs := xs) rfl ex1 ?_
  refine tq_xload (M := mL_law b n xs) (pc := 1428) dL_law_1428 rfl ?_
  refine tq_iload (M := mL_law b n xs) (pc := 1429) dL_law_1429 rfl ?_
  refine tq_iconst (M := mL_law b n xs) (pc := 1431) dL_law_1431 tk_ki_2 ?_
  refine tq_iadd (M := mL_law b n xs) (pc := 1432) dL_law_1432 ?_
  obtain ⟨x2, ex2, hf⟩ := tq_be hf
  refine tq_xld (M := mL_law b n xs) (pc := 1433) dL_law_1433 (n := n) (xs := xs) rfl ex2 ?_
  refine tq_xload (M := mL_law b n xs) (pc := 1434) dL_law_1434 rfl ?_
  refine tq_iload (M := mL_law b n xs) (pc := 1435) dL_law_1435 rfl ?_
  refine tq_iconst (M := mL_law b n xs) (pc := 1437) dL_law_1437 tk_ki_3 ?_
  refine tq_iadd (M := mL_law b n xs) (pc := 1438) dL_law_1438 ?_
  obtain ⟨x3, ex3, hf⟩ := tq_be hf
  refine tq_xld (M := mL_law b n xs) (pc := 1439) dL_law_1439 (n := n) (xs := xs) rfl ex3 ?_
  refine tq_xload (M := mL_law b n xs) (pc := 1440) dL_law_1440 rfl ?_
  refine tq_iload (M := mL_law b n xs) (pc := 1441) dL_law_1441 rfl ?_
  refine tq_iconst (M := mL_law b n xs) (pc := 1443) dL_law_1443 tk_ki_4 ?_
  refine tq_iadd (M := mL_law b n xs) (pc := 1444) dL_law_1444 ?_
  obtain ⟨x4, ex4, hf⟩ := tq_be hf
  refine tq_xld (M := mL_law b n xs) (pc := 1445) dL_law_1445 (n := n) (xs := xs) rfl ex4 ?_
  refine tq_aload_n (M := mL_law b n xs) (pc := 1446) dL_law_1446 rfl ?_
  obtain ⟨v5, ev5, hf⟩ := tq_be hf
  refine tq_calSW (M := mL_law b n xs) (pc := 1447) (S := []) tk_w_L_step.1 tk_w_L_step.2.1 tk_w_L_step.2.2.1 tk_w_L_step.2.2.2.1 tk_w_L_step.2.2.2.2 tk_s_L_step tk_RL_251 dL_law_1447 [.ref i1, .int x1, .int x2, .int x3, .int x4, .ref i3] rfl (Nat.le_of_ble_eq_true rfl) (d1 := d - 1) (b1 := 6) (s1 := 36) (bc' := (0 + bc)) (bs' := (0 + bs)) (Q1 := fun r h9 => r = .inl (some (.int v5.1)) ∧ v5.2 = h9) (by omega) (by omega) (by omega) (w_L_step (by omega) ev5 (fun _ _ q => q)) (fun E h9 q => nomatch (show (Sum.inr E : tq_R) = Sum.inl _ from q.1)) (fun r9 h9 q => ?_)
  obtain ⟨q1, rfl⟩ := q
  cases (show (Sum.inl r9 : tq_R) = Sum.inl (some (.int v5.1)) from q1)
  refine tq_istore (M := mL_law b n xs) (pc := 1450) dL_law_1450 (L2 := [(5, .int v5.1), (0, .retAddr b), (1, .ref i1), (2, .ref i2), (3, .ref i3), (4, .int y4)]) (Nat.le_of_ble_eq_true rfl) rfl ?_
  refine tq_aload_n (M := mL_law b n xs) (pc := 1452) dL_law_1452 rfl ?_
  refine tq_xload (M := mL_law b n xs) (pc := 1453) dL_law_1453 rfl ?_
  refine tq_iload (M := mL_law b n xs) (pc := 1454) dL_law_1454 rfl ?_
  refine tq_iconst (M := mL_law b n xs) (pc := 1456) dL_law_1456 tk_ki_1 ?_
  refine tq_iadd (M := mL_law b n xs) (pc := 1457) dL_law_1457 ?_
  obtain ⟨x6, ex6, hf⟩ := tq_be hf
  refine tq_xld (M := mL_law b n xs) (pc := 1458) dL_law_1458 (n := n) (xs := xs) rfl ex6 ?_
  refine tq_xload (M := mL_law b n xs) (pc := 1459) dL_law_1459 rfl ?_
  refine tq_iload (M := mL_law b n xs) (pc := 1460) dL_law_1460 rfl ?_
  refine tq_iconst (M := mL_law b n xs) (pc := 1462) dL_law_1462 tk_ki_2 ?_
  refine tq_iadd (M := mL_law b n xs) (pc := 1463) dL_law_1463 ?_
  obtain ⟨x7, ex7, hf⟩ := tq_be hf
  refine tq_xld (M := mL_law b n xs) (pc := 1464) dL_law_1464 (n := n) (xs := xs) rfl ex7 ?_
  refine tq_xload (M := mL_law b n xs) (pc := 1465) dL_law_1465 rfl ?_
  refine tq_iload (M := mL_law b n xs) (pc := 1466) dL_law_1466 rfl ?_
  refine tq_iconst (M := mL_law b n xs) (pc := 1468) dL_law_1468 tk_ki_3 ?_
  refine tq_iadd (M := mL_law b n xs) (pc := 1469) dL_law_1469 ?_
  obtain ⟨x8, ex8, hf⟩ := tq_be hf
  refine tq_xld (M := mL_law b n xs) (pc := 1470) dL_law_1470 (n := n) (xs := xs) rfl ex8 ?_
  refine tq_xload (M := mL_law b n xs) (pc := 1471) dL_law_1471 rfl ?_
  refine tq_iload (M := mL_law b n xs) (pc := 1472) dL_law_1472 rfl ?_
  refine tq_iconst (M := mL_law b n xs) (pc := 1474) dL_law_1474 tk_ki_4 ?_
  refine tq_iadd (M := mL_law b n xs) (pc := 1475) dL_law_1475 ?_
  obtain ⟨x9, ex9, hf⟩ := tq_be hf
  refine tq_xld (M := mL_law b n xs) (pc := 1476) dL_law_1476 (n := n) (xs := xs) rfl ex9 ?_
  obtain ⟨⟨⟩, eu11, hf⟩ := tq_be hf
  obtain ⟨fsu11, eu11⟩ := tq_is_s eu11
  obtain ⟨v10, ev10, hf⟩ := tq_be hf
  refine tq_calV (M := mL_law b n xs) (pc := 1477) (S := []) tk_y_X11_step tk_v_X11_step tk_RL_254 dL_law_1477 [.int x6, .int x7, .int x8, .int x9] rfl (S0 := _) rfl eu11 rfl (Nat.le_of_ble_eq_true rfl) (d1 := d - 1) (b1 := 0) (s1 := 0) (bc' := (0 + bc)) (bs' := (0 + bs)) (Q1 := fun r h9 => r = .inl (some (.int v10.1)) ∧ v10.2 = h9) (by omega) (by omega) (by omega) (w_X11_step (by omega) ev10 (fun _ _ q => q)) (fun E h9 q => nomatch (show (Sum.inr E : tq_R) = Sum.inl _ from q.1)) (fun r9 h9 q => ?_)
  obtain ⟨q1, rfl⟩ := q
  cases (show (Sum.inl r9 : tq_R) = Sum.inl (some (.int v10.1)) from q1)
  refine tq_istore (M := mL_law b n xs) (pc := 1480) dL_law_1480 (L2 := [(6, .int v10.1), (5, .int v5.1), (0, .retAddr b), (1, .ref i1), (2, .ref i2), (3, .ref i3), (4, .int y4)]) (Nat.le_of_ble_eq_true rfl) rfl ?_
  refine tq_aload_n (M := mL_law b n xs) (pc := 1482) dL_law_1482 rfl ?_
  obtain ⟨⟨⟩, eu13, hf⟩ := tq_be hf
  obtain ⟨fsu13, eu13⟩ := tq_is_s eu13
  obtain ⟨v12, ev12, hf⟩ := tq_be hf
  refine tq_calV (M := mL_law b n xs) (pc := 1483) (S := []) tk_y_X11_thrown tk_v_X11_thrown tk_RL_177 dL_law_1483 [] rfl (S0 := _) rfl eu13 rfl (Nat.le_of_ble_eq_true rfl) (d1 := d - 1) (b1 := 0) (s1 := 0) (bc' := (0 + bc)) (bs' := (0 + bs)) (Q1 := fun r h9 => r = .inl (some (.int v12)) ∧ v10.2 = h9) (by omega) (by omega) (by omega) (w_X11_thrown (by omega) ev12 (fun _ _ q => q)) (fun E h9 q => nomatch (show (Sum.inr E : tq_R) = Sum.inl _ from q.1)) (fun r9 h9 q => ?_)
  obtain ⟨q1, rfl⟩ := q
  cases (show (Sum.inl r9 : tq_R) = Sum.inl (some (.int v12)) from q1)
  refine tq_iload (M := mL_law b n xs) (pc := 1486) dL_law_1486 rfl ?_
  refine tq_icmp_eq (M := mL_law b n xs) (pc := 1488) (tgt := 1493) dL_law_1488 (by decide) (fun cc => ?_) (fun cc => ?_)
  · have hf := tq_ifp hf cc
    refine tq_iload (M := mL_law b n xs) (pc := 1493) dL_law_1493 rfl ?_
    refine tq_if_ne (M := mL_law b n xs) (pc := 1495) (tgt := 1510) dL_law_1495 (by decide) (fun cc => ?_) (fun cc => ?_)
    · have hf := tq_ifn hf cc
      refine tq_goto (M := mL_law b n xs) (pc := 1510) (tgt := 3605) dL_law_1510 (by decide) ?_
      obtain ⟨x14, ex14, hf⟩ := tq_le hf
      refine tq_iinc (M := mL_law b n xs) (pc := 3605) (v := x14) (L2 := [(4, .int x14), (6, .int v10.1), (5, .int v5.1), (0, .retAddr b), (1, .ref i1), (2, .ref i2), (3, .ref i3)]) dL_law_3605 rfl (by rw [ex14, tk_ki_5]) (Nat.le_of_ble_eq_true rfl) rfl ?_
      refine tq_goto (M := mL_law b n xs) (pc := 3608) (tgt := 23) dL_law_3608 (by decide) ?_
      refine tq_pick (L2 := [(0, .retAddr b), (1, .ref i1), (2, .ref i2), (3, .ref i3), (4, .int x14)]) [3, 4, 5, 6, 0] rfl ?_
      cases (Option.some.inj hf)
      exact tq_more (by omega) (by omega) (hc _ rfl)
    · have hf := tq_ifp hf cc
      refine tq_aload_n (M := mL_law b n xs) (pc := 1498) dL_law_1498 rfl ?_
      refine tq_iconst (M := mL_law b n xs) (pc := 1499) dL_law_1499 tk_ki_0 ?_
      obtain ⟨x15, ex15, hf⟩ := tq_be hf
      refine tq_laldF (M := mL_law b n xs) (pc := 1500) dL_law_1500 ex15 ?_
      refine tq_iload (M := mL_law b n xs) (pc := 1501) dL_law_1501 rfl ?_
      refine tq_i2l (M := mL_law b n xs) (pc := 1503) dL_law_1503 ?_
      refine tq_lcmp (M := mL_law b n xs) (pc := 1504) dL_law_1504 ?_
      refine tq_if_eq (M := mL_law b n xs) (pc := 1505) (tgt := 1510) dL_law_1505 (by decide) (fun cc => ?_) (fun cc => ?_)
      · have hf := tq_ifp hf cc
        refine tq_goto (M := mL_law b n xs) (pc := 1510) (tgt := 3605) dL_law_1510 (by decide) ?_
        obtain ⟨x16, ex16, hf⟩ := tq_le hf
        refine tq_iinc (M := mL_law b n xs) (pc := 3605) (v := x16) (L2 := [(4, .int x16), (6, .int v10.1), (5, .int v5.1), (0, .retAddr b), (1, .ref i1), (2, .ref i2), (3, .ref i3)]) dL_law_3605 rfl (by rw [ex16, tk_ki_5]) (Nat.le_of_ble_eq_true rfl) rfl ?_
        refine tq_goto (M := mL_law b n xs) (pc := 3608) (tgt := 23) dL_law_3608 (by decide) ?_
        refine tq_pick (L2 := [(0, .retAddr b), (1, .ref i1), (2, .ref i2), (3, .ref i3), (4, .int x16)]) [3, 4, 5, 6, 0] rfl ?_
        cases (Option.some.inj hf)
        exact tq_more (by omega) (by omega) (hc _ rfl)
      · have hf := tq_ifn hf cc
        refine tq_iconst (M := mL_law b n xs) (pc := 1508) dL_law_1508 tk_ki_0 ?_
        refine tq_zret (M := mL_law b n xs) (pc := 1509) dL_law_1509 rfl (Or.inl rfl) ?_
        cases (Option.some.inj hf)
        exact hx _ rfl
  · have hf := tq_ifn hf cc
    refine tq_iconst (M := mL_law b n xs) (pc := 1491) dL_law_1491 tk_ki_0 ?_
    refine tq_zret (M := mL_law b n xs) (pc := 1492) dL_law_1492 rfl (Or.inl rfl) ?_
    cases (Option.some.inj hf)
    exact hx _ rfl
def f_L_law_c1513 (n : Nat) (xs : Nat → Int32) (i1 i2 i3 : Nat) (y4 : Int32) (hh : tq_H) : Option ((Int32 × tq_H) ⊕ (Int32 × tq_H)) :=
  (tq_sx n xs (y4 + (1 : Int32))).bind fun x1 =>
  (tq_sx n xs (y4 + (2 : Int32))).bind fun x2 =>
  (tq_sx n xs (y4 + (3 : Int32))).bind fun x3 =>
  (f_L_place i1 x1 x2 x3 i3 hh).bind fun v4 =>
  (tq_sx n xs (y4 + (1 : Int32))).bind fun x5 =>
  (tq_sx n xs (y4 + (2 : Int32))).bind fun x6 =>
  (tq_sx n xs (y4 + (3 : Int32))).bind fun x7 =>
  (tq_is v4.2 i2 11).bind fun _ =>
  (f_X11_place i2 x5 x6 x7 v4.2).bind fun v8 =>
  (tq_is v8.2 i2 11).bind fun _ =>
  (f_X11_thrown i2 v8.2).bind fun v10 =>
  if v10 = v4.1 then
    if v4.1 = 0 then
      (tq_aj v8.2 i3 (0 : Int32)).bind fun x13 =>
      if (lg_cmp x13 (v8.1).toInt64) = 0 then
        tq_let (y4 + (5 : Int32)) fun x14 =>
        some (.inl (x14, v8.2))
      else
        some (.inr ((0 : Int32), v8.2))
    else
      tq_let (y4 + (5 : Int32)) fun x12 =>
      some (.inl (x12, v8.2))
  else
    some (.inr ((0 : Int32), v8.2))
set_option maxHeartbeats 4000000 in
set_option maxRecDepth 20000 in
theorem c_L_law_1513 {l : Launch} {d : Nat} (hd9 : 10 ≤ d) {b n : Nat} {xs : Nat → Int32} {i1 i2 i3 : Nat} {y4 : Int32} {hh : tq_H} {Q : tq_R → tq_H → Prop} {bc bs : Nat} {oo : (Int32 × tq_H) ⊕ (Int32 × tq_H)} (hf : f_L_law_c1513 n xs i1 i2 i3 y4 hh = some oo) (hc : ∀ s9, oo = .inl s9 → tq_W l (mL_law b n xs) d bc bs Q 23 [(0, .retAddr b), (1, .ref i1), (2, .ref i2), (3, .ref i3), (4, .int s9.1)] [] s9.2) (hx : ∀ e9, oo = .inr e9 → Q (.inl (some (.int e9.1))) e9.2) : tq_W l (mL_law b n xs) d (5 + bc) (30 + bs) Q 1513 [(0, .retAddr b), (1, .ref i1), (2, .ref i2), (3, .ref i3), (4, .int y4)] [] hh := by
  refine tq_aload_n (M := mL_law b n xs) (pc := 1513) dL_law_1513 rfl ?_
  refine tq_xload (M := mL_law b n xs) (pc := 1514) dL_law_1514 rfl ?_
  refine tq_iload (M := mL_law b n xs) (pc := 1515) dL_law_1515 rfl ?_
  refine tq_iconst (M := mL_law b n xs) (pc := 1517) dL_law_1517 tk_ki_1 ?_
  refine tq_iadd (M := mL_law b n xs) (pc := 1518) dL_law_1518 ?_
  obtain ⟨x1, ex1, hf⟩ := tq_be hf
  refine tq_xld (M := mL_law b n xs) (pc := 1519) dL_law_1519 (n := n) (xs := xs) rfl ex1 ?_
  refine tq_xload (M := mL_law b n xs) (pc := 1520) dL_law_1520 rfl ?_
  refine tq_iload (M := mL_law b n xs) (pc := 1521) dL_law_1521 rfl ?_
  refine tq_iconst (M := mL_law b n xs) (pc := 1523) dL_law_1523 tk_ki_2 ?_
  refine tq_iadd (M := mL_law b n xs) (pc := 1524) dL_law_1524 ?_
  obtain ⟨x2, ex2, hf⟩ := tq_be hf
  refine tq_xld (M := mL_law b n xs) (pc := 1525) dL_law_1525 (n := n) (xs := xs) rfl ex2 ?_
  refine tq_xload (M := mL_law b n xs) (pc := 1526) dL_law_1526 rfl ?_
  refine tq_iload (M := mL_law b n xs) (pc := 1527) dL_law_1527 rfl ?_
  refine tq_iconst (M := mL_law b n xs) (pc := 1529) dL_law_1529 tk_ki_3 ?_
  refine tq_iadd (M := mL_law b n xs) (pc := 1530) dL_law_1530 ?_
  obtain ⟨x3, ex3, hf⟩ := tq_be hf
  refine tq_xld (M := mL_law b n xs) (pc := 1531) dL_law_1531 (n := n) (xs := xs) rfl ex3 ?_
  refine tq_aload_n (M := mL_law b n xs) (pc := 1532) dL_law_1532 rfl ?_
  obtain ⟨v4, ev4, hf⟩ := tq_be hf
  refine tq_calSW (M := mL_law b n xs) (pc := 1533) (S := []) tk_w_L_place.1 tk_w_L_place.2.1 tk_w_L_place.2.2.1 tk_w_L_place.2.2.2.1 tk_w_L_place.2.2.2.2 tk_s_L_place tk_RL_255 dL_law_1533 [.ref i1, .int x1, .int x2, .int x3, .ref i3] rfl (Nat.le_of_ble_eq_true rfl) (d1 := d - 1) (b1 := 5) (s1 := 30) (bc' := (0 + bc)) (bs' := (0 + bs)) (Q1 := fun r h9 => r = .inl (some (.int v4.1)) ∧ v4.2 = h9) (by omega) (by omega) (by omega) (w_L_place (by omega) ev4 (fun _ _ q => q)) (fun E h9 q => nomatch (show (Sum.inr E : tq_R) = Sum.inl _ from q.1)) (fun r9 h9 q => ?_)
  obtain ⟨q1, rfl⟩ := q
  cases (show (Sum.inl r9 : tq_R) = Sum.inl (some (.int v4.1)) from q1)
  refine tq_istore (M := mL_law b n xs) (pc := 1536) dL_law_1536 (L2 := [(5, .int v4.1), (0, .retAddr b), (1, .ref i1), (2, .ref i2), (3, .ref i3), (4, .int y4)]) (Nat.le_of_ble_eq_true rfl) rfl ?_
  refine tq_aload_n (M := mL_law b n xs) (pc := 1538) dL_law_1538 rfl ?_
  refine tq_xload (M := mL_law b n xs) (pc := 1539) dL_law_1539 rfl ?_
  refine tq_iload (M := mL_law b n xs) (pc := 1540) dL_law_1540 rfl ?_
  refine tq_iconst (M := mL_law b n xs) (pc := 1542) dL_law_1542 tk_ki_1 ?_
  refine tq_iadd (M := mL_law b n xs) (pc := 1543) dL_law_1543 ?_
  obtain ⟨x5, ex5, hf⟩ := tq_be hf
  refine tq_xld (M := mL_law b n xs) (pc := 1544) dL_law_1544 (n := n) (xs := xs) rfl ex5 ?_
  refine tq_xload (M := mL_law b n xs) (pc := 1545) dL_law_1545 rfl ?_
  refine tq_iload (M := mL_law b n xs) (pc := 1546) dL_law_1546 rfl ?_
  refine tq_iconst (M := mL_law b n xs) (pc := 1548) dL_law_1548 tk_ki_2 ?_
  refine tq_iadd (M := mL_law b n xs) (pc := 1549) dL_law_1549 ?_
  obtain ⟨x6, ex6, hf⟩ := tq_be hf
  refine tq_xld (M := mL_law b n xs) (pc := 1550) dL_law_1550 (n := n) (xs := xs) rfl ex6 ?_
  refine tq_xload (M := mL_law b n xs) (pc := 1551) dL_law_1551 rfl ?_
  refine tq_iload (M := mL_law b n xs) (pc := 1552) dL_law_1552 rfl ?_
  refine tq_iconst (M := mL_law b n xs) (pc := 1554) dL_law_1554 tk_ki_3 ?_
  refine tq_iadd (M := mL_law b n xs) (pc := 1555) dL_law_1555 ?_
  obtain ⟨x7, ex7, hf⟩ := tq_be hf
  refine tq_xld (M := mL_law b n xs) (pc := 1556) dL_law_1556 (n := n) (xs := xs) rfl ex7 ?_
  obtain ⟨⟨⟩, eu9, hf⟩ := tq_be hf
  obtain ⟨fsu9, eu9⟩ := tq_is_s eu9
  obtain ⟨v8, ev8, hf⟩ := tq_be hf
  refine tq_calV (M := mL_law b n xs) (pc := 1557) (S := []) tk_y_X11_place tk_v_X11_place tk_RL_257 dL_law_1557 [.int x5, .int x6, .int x7] rfl (S0 := _) rfl eu9 rfl (Nat.le_of_ble_eq_true rfl) (d1 := d - 1) (b1 := 0) (s1 := 0) (bc' := (0 + bc)) (bs' := (0 + bs)) (Q1 := fun r h9 => r = .inl (some (.int v8.1)) ∧ v8.2 = h9) (by omega) (by omega) (by omega) (w_X11_place (by omega) ev8 (fun _ _ q => q)) (fun E h9 q => nomatch (show (Sum.inr E : tq_R) = Sum.inl _ from q.1)) (fun r9 h9 q => ?_)
  obtain ⟨q1, rfl⟩ := q
  cases (show (Sum.inl r9 : tq_R) = Sum.inl (some (.int v8.1)) from q1)
  refine tq_istore (M := mL_law b n xs) (pc := 1560) dL_law_1560 (L2 := [(6, .int v8.1), (5, .int v4.1), (0, .retAddr b), (1, .ref i1), (2, .ref i2), (3, .ref i3), (4, .int y4)]) (Nat.le_of_ble_eq_true rfl) rfl ?_
  refine tq_aload_n (M := mL_law b n xs) (pc := 1562) dL_law_1562 rfl ?_
  obtain ⟨⟨⟩, eu11, hf⟩ := tq_be hf
  obtain ⟨fsu11, eu11⟩ := tq_is_s eu11
  obtain ⟨v10, ev10, hf⟩ := tq_be hf
  refine tq_calV (M := mL_law b n xs) (pc := 1563) (S := []) tk_y_X11_thrown tk_v_X11_thrown tk_RL_177 dL_law_1563 [] rfl (S0 := _) rfl eu11 rfl (Nat.le_of_ble_eq_true rfl) (d1 := d - 1) (b1 := 0) (s1 := 0) (bc' := (0 + bc)) (bs' := (0 + bs)) (Q1 := fun r h9 => r = .inl (some (.int v10)) ∧ v8.2 = h9) (by omega) (by omega) (by omega) (w_X11_thrown (by omega) ev10 (fun _ _ q => q)) (fun E h9 q => nomatch (show (Sum.inr E : tq_R) = Sum.inl _ from q.1)) (fun r9 h9 q => ?_)
  obtain ⟨q1, rfl⟩ := q
  cases (show (Sum.inl r9 : tq_R) = Sum.inl (some (.int v10)) from q1)
  refine tq_iload (M := mL_law b n xs) (pc := 1566) dL_law_1566 rfl ?_
  refine tq_icmp_eq (M := mL_law b n xs) (pc := 1568) (tgt := 1573) dL_law_1568 (by decide) (fun cc => ?_) (fun cc => ?_)
  · have hf := tq_ifp hf cc
    refine tq_iload (M := mL_law b n xs) (pc := 1573) dL_law_1573 rfl ?_
    refine tq_if_ne (M := mL_law b n xs) (pc := 1575) (tgt := 1590) dL_law_1575 (by decide) (fun cc => ?_) (fun cc => ?_)
    · have hf := tq_ifn hf cc
      refine tq_goto (M := mL_law b n xs) (pc := 1590) (tgt := 3605) dL_law_1590 (by decide) ?_
      obtain ⟨x12, ex12, hf⟩ := tq_le hf
      refine tq_iinc (M := mL_law b n xs) (pc := 3605) (v := x12) (L2 := [(4, .int x12), (6, .int v8.1), (5, .int v4.1), (0, .retAddr b), (1, .ref i1), (2, .ref i2), (3, .ref i3)]) dL_law_3605 rfl (by rw [ex12, tk_ki_5]) (Nat.le_of_ble_eq_true rfl) rfl ?_
      refine tq_goto (M := mL_law b n xs) (pc := 3608) (tgt := 23) dL_law_3608 (by decide) ?_
      refine tq_pick (L2 := [(0, .retAddr b), (1, .ref i1), (2, .ref i2), (3, .ref i3), (4, .int x12)]) [3, 4, 5, 6, 0] rfl ?_
      cases (Option.some.inj hf)
      exact tq_more (by omega) (by omega) (hc _ rfl)
    · have hf := tq_ifp hf cc
      refine tq_aload_n (M := mL_law b n xs) (pc := 1578) dL_law_1578 rfl ?_
      refine tq_iconst (M := mL_law b n xs) (pc := 1579) dL_law_1579 tk_ki_0 ?_
      obtain ⟨x13, ex13, hf⟩ := tq_be hf
      refine tq_laldF (M := mL_law b n xs) (pc := 1580) dL_law_1580 ex13 ?_
      refine tq_iload (M := mL_law b n xs) (pc := 1581) dL_law_1581 rfl ?_
      refine tq_i2l (M := mL_law b n xs) (pc := 1583) dL_law_1583 ?_
      refine tq_lcmp (M := mL_law b n xs) (pc := 1584) dL_law_1584 ?_
      refine tq_if_eq (M := mL_law b n xs) (pc := 1585) (tgt := 1590) dL_law_1585 (by decide) (fun cc => ?_) (fun cc => ?_)
      · have hf := tq_ifp hf cc
        refine tq_goto (M := mL_law b n xs) (pc := 1590) (tgt := 3605) dL_law_1590 (by decide) ?_
        obtain ⟨x14, ex14, hf⟩ := tq_le hf
        refine tq_iinc (M := mL_law b n xs) (pc := 3605) (v := x14) (L2 := [(4, .int x14), (6, .int v8.1), (5, .int v4.1), (0, .retAddr b), (1, .ref i1), (2, .ref i2), (3, .ref i3)]) dL_law_3605 rfl (by rw [ex14, tk_ki_5]) (Nat.le_of_ble_eq_true rfl) rfl ?_
        refine tq_goto (M := mL_law b n xs) (pc := 3608) (tgt := 23) dL_law_3608 (by decide) ?_
        refine tq_pick (L2 := [(0, .retAddr b), (1, .ref i1), (2, .ref i2), (3, .ref i3), (4, .int x14)]) [3, 4, 5, 6, 0] rfl ?_
        cases (Option.some.inj hf)
        exact tq_more (by omega) (by omega) (hc _ rfl)
      · have hf := tq_ifn hf cc
        refine tq_iconst (M := mL_law b n xs) (pc := 1588) dL_law_1588 tk_ki_0 ?_
        refine tq_zret (M := mL_law b n xs) (pc := 1589) dL_law_1589 rfl (Or.inl rfl) ?_
        cases (Option.some.inj hf)
        exact hx _ rfl
  · have hf := tq_ifn hf cc
    refine tq_iconst (M := mL_law b n xs) (pc := 1571) dL_law_1571 tk_ki_0 ?_
    refine tq_zret (M := mL_law b n xs) (pc := 1572) dL_law_1572 rfl (Or.inl rfl) ?_
    cases (Option.some.inj hf)
    exact hx _ rfl
def f_L_law_c1593 (n : Nat) (xs : Nat → Int32) (i1 i2 i3 : Nat) (y4 : Int32) (hh : tq_H) : Option ((Int32 × tq_H) ⊕ (Int32 × tq_H)) :=
  (tq_sx n xs (y4 + (1 : Int32))).bind fun x1 =>
  (f_L_last i1 x1 i3 hh).bind fun v2 =>
  (tq_sx n xs (y4 + (1 : Int32))).bind fun x3 =>
  (tq_is v2.2 i2 11).bind fun _ =>
  (f_X11_last i2 x3 v2.2).bind fun v4 =>
  (tq_is v4.2 i2 11).bind fun _ =>
  (f_X11_thrown i2 v4.2).bind fun v6 =>
  if v6 = v2.1 then
    if v2.1 = 0 then
      (tq_aj v4.2 i3 (0 : Int32)).bind fun x9 =>
      if (lg_cmp x9 (v4.1).toInt64) = 0 then
        tq_let (y4 + (5 : Int32)) fun x10 =>
        some (.inl (x10, v4.2))
      else
        some (.inr ((0 : Int32), v4.2))
    else
      tq_let (y4 + (5 : Int32)) fun x8 =>
      some (.inl (x8, v4.2))
  else
    some (.inr ((0 : Int32), v4.2))
set_option maxHeartbeats 4000000 in
set_option maxRecDepth 20000 in
theorem c_L_law_1593 {l : Launch} {d : Nat} (hd9 : 10 ≤ d) {b n : Nat} {xs : Nat → Int32} {i1 i2 i3 : Nat} {y4 : Int32} {hh : tq_H} {Q : tq_R → tq_H → Prop} {bc bs : Nat} {oo : (Int32 × tq_H) ⊕ (Int32 × tq_H)} (hf : f_L_law_c1593 n xs i1 i2 i3 y4 hh = some oo) (hc : ∀ s9, oo = .inl s9 → tq_W l (mL_law b n xs) d bc bs Q 23 [(0, .retAddr b), (1, .ref i1), (2, .ref i2), (3, .ref i3), (4, .int s9.1)] [] s9.2) (hx : ∀ e9, oo = .inr e9 → Q (.inl (some (.int e9.1))) e9.2) : tq_W l (mL_law b n xs) d (3 + bc) (18 + bs) Q 1593 [(0, .retAddr b), (1, .ref i1), (2, .ref i2), (3, .ref i3), (4, .int y4)] [] hh := by
  refine tq_aload_n (M := mL_law b n xs) (pc := 1593) dL_law_1593 rfl ?_
  refine tq_xload (M := mL_law b n xs) (pc := 1594) dL_law_1594 rfl ?_
  refine tq_iload (M := mL_law b n xs) (pc := 1595) dL_law_1595 rfl ?_
  refine tq_iconst (M := mL_law b n xs) (pc := 1597) dL_law_1597 tk_ki_1 ?_
  refine tq_iadd (M := mL_law b n xs) (pc := 1598) dL_law_1598 ?_
  obtain ⟨x1, ex1, hf⟩ := tq_be hf
  refine tq_xld (M := mL_law b n xs) (pc := 1599) dL_law_1599 (n := n) (xs := xs) rfl ex1 ?_
  refine tq_aload_n (M := mL_law b n xs) (pc := 1600) dL_law_1600 rfl ?_
  obtain ⟨v2, ev2, hf⟩ := tq_be hf
  refine tq_calSW (M := mL_law b n xs) (pc := 1601) (S := []) tk_w_L_last.1 tk_w_L_last.2.1 tk_w_L_last.2.2.1 tk_w_L_last.2.2.2.1 tk_w_L_last.2.2.2.2 tk_s_L_last tk_RL_258 dL_law_1601 [.ref i1, .int x1, .ref i3] rfl (Nat.le_of_ble_eq_true rfl) (d1 := d - 1) (b1 := 3) (s1 := 18) (bc' := (0 + bc)) (bs' := (0 + bs)) (Q1 := fun r h9 => r = .inl (some (.int v2.1)) ∧ v2.2 = h9) (by omega) (by omega) (by omega) (w_L_last (by omega) ev2 (fun _ _ q => q)) (fun E h9 q => nomatch (show (Sum.inr E : tq_R) = Sum.inl _ from q.1)) (fun r9 h9 q => ?_)
  obtain ⟨q1, rfl⟩ := q
  cases (show (Sum.inl r9 : tq_R) = Sum.inl (some (.int v2.1)) from q1)
  refine tq_istore (M := mL_law b n xs) (pc := 1604) dL_law_1604 (L2 := [(5, .int v2.1), (0, .retAddr b), (1, .ref i1), (2, .ref i2), (3, .ref i3), (4, .int y4)]) (Nat.le_of_ble_eq_true rfl) rfl ?_
  refine tq_aload_n (M := mL_law b n xs) (pc := 1606) dL_law_1606 rfl ?_
  refine tq_xload (M := mL_law b n xs) (pc := 1607) dL_law_1607 rfl ?_
  refine tq_iload (M := mL_law b n xs) (pc := 1608) dL_law_1608 rfl ?_
  refine tq_iconst (M := mL_law b n xs) (pc := 1610) dL_law_1610 tk_ki_1 ?_
  refine tq_iadd (M := mL_law b n xs) (pc := 1611) dL_law_1611 ?_
  obtain ⟨x3, ex3, hf⟩ := tq_be hf
  refine tq_xld (M := mL_law b n xs) (pc := 1612) dL_law_1612 (n := n) (xs := xs) rfl ex3 ?_
  obtain ⟨⟨⟩, eu5, hf⟩ := tq_be hf
  obtain ⟨fsu5, eu5⟩ := tq_is_s eu5
  obtain ⟨v4, ev4, hf⟩ := tq_be hf
  refine tq_calV (M := mL_law b n xs) (pc := 1613) (S := []) tk_y_X11_last tk_v_X11_last tk_RL_260 dL_law_1613 [.int x3] rfl (S0 := _) rfl eu5 rfl (Nat.le_of_ble_eq_true rfl) (d1 := d - 1) (b1 := 0) (s1 := 0) (bc' := (0 + bc)) (bs' := (0 + bs)) (Q1 := fun r h9 => r = .inl (some (.int v4.1)) ∧ v4.2 = h9) (by omega) (by omega) (by omega) (w_X11_last (by omega) ev4 (fun _ _ q => q)) (fun E h9 q => nomatch (show (Sum.inr E : tq_R) = Sum.inl _ from q.1)) (fun r9 h9 q => ?_)
  obtain ⟨q1, rfl⟩ := q
  cases (show (Sum.inl r9 : tq_R) = Sum.inl (some (.int v4.1)) from q1)
  refine tq_istore (M := mL_law b n xs) (pc := 1616) dL_law_1616 (L2 := [(6, .int v4.1), (5, .int v2.1), (0, .retAddr b), (1, .ref i1), (2, .ref i2), (3, .ref i3), (4, .int y4)]) (Nat.le_of_ble_eq_true rfl) rfl ?_
  refine tq_aload_n (M := mL_law b n xs) (pc := 1618) dL_law_1618 rfl ?_
  obtain ⟨⟨⟩, eu7, hf⟩ := tq_be hf
  obtain ⟨fsu7, eu7⟩ := tq_is_s eu7
  obtain ⟨v6, ev6, hf⟩ := tq_be hf
  refine tq_calV (M := mL_law b n xs) (pc := 1619) (S := []) tk_y_X11_thrown tk_v_X11_thrown tk_RL_177 dL_law_1619 [] rfl (S0 := _) rfl eu7 rfl (Nat.le_of_ble_eq_true rfl) (d1 := d - 1) (b1 := 0) (s1 := 0) (bc' := (0 + bc)) (bs' := (0 + bs)) (Q1 := fun r h9 => r = .inl (some (.int v6)) ∧ v4.2 = h9) (by omega) (by omega) (by omega) (w_X11_thrown (by omega) ev6 (fun _ _ q => q)) (fun E h9 q => nomatch (show (Sum.inr E : tq_R) = Sum.inl _ from q.1)) (fun r9 h9 q => ?_)
  obtain ⟨q1, rfl⟩ := q
  cases (show (Sum.inl r9 : tq_R) = Sum.inl (some (.int v6)) from q1)
  refine tq_iload (M := mL_law b n xs) (pc := 1622) dL_law_1622 rfl ?_
  refine tq_icmp_eq (M := mL_law b n xs) (pc := 1624) (tgt := 1629) dL_law_1624 (by decide) (fun cc => ?_) (fun cc => ?_)
  · have hf := tq_ifp hf cc
    refine tq_iload (M := mL_law b n xs) (pc := 1629) dL_law_1629 rfl ?_
    refine tq_if_ne (M := mL_law b n xs) (pc := 1631) (tgt := 1646) dL_law_1631 (by decide) (fun cc => ?_) (fun cc => ?_)
    · have hf := tq_ifn hf cc
      refine tq_goto (M := mL_law b n xs) (pc := 1646) (tgt := 3605) dL_law_1646 (by decide) ?_
      obtain ⟨x8, ex8, hf⟩ := tq_le hf
      refine tq_iinc (M := mL_law b n xs) (pc := 3605) (v := x8) (L2 := [(4, .int x8), (6, .int v4.1), (5, .int v2.1), (0, .retAddr b), (1, .ref i1), (2, .ref i2), (3, .ref i3)]) dL_law_3605 rfl (by rw [ex8, tk_ki_5]) (Nat.le_of_ble_eq_true rfl) rfl ?_
      refine tq_goto (M := mL_law b n xs) (pc := 3608) (tgt := 23) dL_law_3608 (by decide) ?_
      refine tq_pick (L2 := [(0, .retAddr b), (1, .ref i1), (2, .ref i2), (3, .ref i3), (4, .int x8)]) [3, 4, 5, 6, 0] rfl ?_
      cases (Option.some.inj hf)
      exact tq_more (by omega) (by omega) (hc _ rfl)
    · have hf := tq_ifp hf cc
      refine tq_aload_n (M := mL_law b n xs) (pc := 1634) dL_law_1634 rfl ?_
      refine tq_iconst (M := mL_law b n xs) (pc := 1635) dL_law_1635 tk_ki_0 ?_
      obtain ⟨x9, ex9, hf⟩ := tq_be hf
      refine tq_laldF (M := mL_law b n xs) (pc := 1636) dL_law_1636 ex9 ?_
      refine tq_iload (M := mL_law b n xs) (pc := 1637) dL_law_1637 rfl ?_
      refine tq_i2l (M := mL_law b n xs) (pc := 1639) dL_law_1639 ?_
      refine tq_lcmp (M := mL_law b n xs) (pc := 1640) dL_law_1640 ?_
      refine tq_if_eq (M := mL_law b n xs) (pc := 1641) (tgt := 1646) dL_law_1641 (by decide) (fun cc => ?_) (fun cc => ?_)
      · have hf := tq_ifp hf cc
        refine tq_goto (M := mL_law b n xs) (pc := 1646) (tgt := 3605) dL_law_1646 (by decide) ?_
        obtain ⟨x10, ex10, hf⟩ := tq_le hf
        refine tq_iinc (M := mL_law b n xs) (pc := 3605) (v := x10) (L2 := [(4, .int x10), (6, .int v4.1), (5, .int v2.1), (0, .retAddr b), (1, .ref i1), (2, .ref i2), (3, .ref i3)]) dL_law_3605 rfl (by rw [ex10, tk_ki_5]) (Nat.le_of_ble_eq_true rfl) rfl ?_
        refine tq_goto (M := mL_law b n xs) (pc := 3608) (tgt := 23) dL_law_3608 (by decide) ?_
        refine tq_pick (L2 := [(0, .retAddr b), (1, .ref i1), (2, .ref i2), (3, .ref i3), (4, .int x10)]) [3, 4, 5, 6, 0] rfl ?_
        cases (Option.some.inj hf)
        exact tq_more (by omega) (by omega) (hc _ rfl)
      · have hf := tq_ifn hf cc
        refine tq_iconst (M := mL_law b n xs) (pc := 1644) dL_law_1644 tk_ki_0 ?_
        refine tq_zret (M := mL_law b n xs) (pc := 1645) dL_law_1645 rfl (Or.inl rfl) ?_
        cases (Option.some.inj hf)
        exact hx _ rfl
  · have hf := tq_ifn hf cc
    refine tq_iconst (M := mL_law b n xs) (pc := 1627) dL_law_1627 tk_ki_0 ?_
    refine tq_zret (M := mL_law b n xs) (pc := 1628) dL_law_1628 rfl (Or.inl rfl) ?_
    cases (Option.some.inj hf)
    exact hx _ rfl
def f_L_law_c1649 (n : Nat) (xs : Nat → Int32) (i1 i2 i3 : Nat) (y4 : Int32) (hh : tq_H) : Option ((Int32 × tq_H) ⊕ (Int32 × tq_H)) :=
  (tq_sx n xs (y4 + (1 : Int32))).bind fun x1 =>
  (tq_sx n xs (y4 + (2 : Int32))).bind fun x2 =>
  (tq_sx n xs (y4 + (3 : Int32))).bind fun x3 =>
  tq_let (if x3 = 0 then (0 : Int32) else (1 : Int32)) fun p4 =>
  (f_L_has i1 x1 x2 p4 i3 hh).bind fun v5 =>
  (tq_sx n xs (y4 + (1 : Int32))).bind fun x6 =>
  (tq_sx n xs (y4 + (2 : Int32))).bind fun x7 =>
  (tq_sx n xs (y4 + (3 : Int32))).bind fun x8 =>
  tq_let (if x8 = 0 then (0 : Int32) else (1 : Int32)) fun p9 =>
  (tq_is v5.2 i2 11).bind fun _ =>
  (f_X11_has i2 x6 x7 p9 v5.2).bind fun v10 =>
  (tq_is v10.2 i2 11).bind fun _ =>
  (f_X11_thrown i2 v10.2).bind fun v12 =>
  if v12 = v5.1 then
    if v5.1 = 0 then
      (tq_aj v10.2 i3 (0 : Int32)).bind fun x15 =>
      if (lg_cmp x15 (v10.1).toInt64) = 0 then
        tq_let (y4 + (5 : Int32)) fun x16 =>
        some (.inl (x16, v10.2))
      else
        some (.inr ((0 : Int32), v10.2))
    else
      tq_let (y4 + (5 : Int32)) fun x14 =>
      some (.inl (x14, v10.2))
  else
    some (.inr ((0 : Int32), v10.2))
set_option maxHeartbeats 4000000 in
set_option maxRecDepth 20000 in
theorem c_L_law_1649 {l : Launch} {d : Nat} (hd9 : 10 ≤ d) {b n : Nat} {xs : Nat → Int32} {i1 i2 i3 : Nat} {y4 : Int32} {hh : tq_H} {Q : tq_R → tq_H → Prop} {bc bs : Nat} {oo : (Int32 × tq_H) ⊕ (Int32 × tq_H)} (hf : f_L_law_c1649 n xs i1 i2 i3 y4 hh = some oo) (hc : ∀ s9, oo = .inl s9 → tq_W l (mL_law b n xs) d bc bs Q 23 [(0, .retAddr b), (1, .ref i1), (2, .ref i2), (3, .ref i3), (4, .int s9.1)] [] s9.2) (hx : ∀ e9, oo = .inr e9 → Q (.inl (some (.int e9.1))) e9.2) : tq_W l (mL_law b n xs) d (4 + bc) (24 + bs) Q 1649 [(0, .retAddr b), (1, .ref i1), (2, .ref i2), (3, .ref i3), (4, .int y4)] [] hh := by
  refine tq_aload_n (M := mL_law b n xs) (pc := 1649) dL_law_1649 rfl ?_
  refine tq_xload (M := mL_law b n xs) (pc := 1650) dL_law_1650 rfl ?_
  refine tq_iload (M := mL_law b n xs) (pc := 1651) dL_law_1651 rfl ?_
  refine tq_iconst (M := mL_law b n xs) (pc := 1653) dL_law_1653 tk_ki_1 ?_
  refine tq_iadd (M := mL_law b n xs) (pc := 1654) dL_law_1654 ?_
  obtain ⟨x1, ex1, hf⟩ := tq_be hf
  refine tq_xld (M := mL_law b n xs) (pc := 1655) dL_law_1655 (n := n) (xs := xs) rfl ex1 ?_
  refine tq_xload (M := mL_law b n xs) (pc := 1656) dL_law_1656 rfl ?_
  refine tq_iload (M := mL_law b n xs) (pc := 1657) dL_law_1657 rfl ?_
  refine tq_iconst (M := mL_law b n xs) (pc := 1659) dL_law_1659 tk_ki_2 ?_
  refine tq_iadd (M := mL_law b n xs) (pc := 1660) dL_law_1660 ?_
  obtain ⟨x2, ex2, hf⟩ := tq_be hf
  refine tq_xld (M := mL_law b n xs) (pc := 1661) dL_law_1661 (n := n) (xs := xs) rfl ex2 ?_
  refine tq_xload (M := mL_law b n xs) (pc := 1662) dL_law_1662 rfl ?_
  refine tq_iload (M := mL_law b n xs) (pc := 1663) dL_law_1663 rfl ?_
  refine tq_iconst (M := mL_law b n xs) (pc := 1665) dL_law_1665 tk_ki_3 ?_
  refine tq_iadd (M := mL_law b n xs) (pc := 1666) dL_law_1666 ?_
  obtain ⟨x3, ex3, hf⟩ := tq_be hf
  refine tq_xld (M := mL_law b n xs) (pc := 1667) dL_law_1667 (n := n) (xs := xs) rfl ex3 ?_
  obtain ⟨p4, ep4, hf⟩ := tq_le hf
  have HJ1668 : tq_W l (mL_law b n xs) d (4 + bc) (24 + bs) Q 1676 [(0, .retAddr b), (1, .ref i1), (2, .ref i2), (3, .ref i3), (4, .int y4)] [.int p4, .int x2, .int x1, .ref i1] hh := by
    refine tq_aload_n (M := mL_law b n xs) (pc := 1676) dL_law_1676 rfl ?_
    obtain ⟨v5, ev5, hf⟩ := tq_be hf
    refine tq_calSW (M := mL_law b n xs) (pc := 1677) (S := []) tk_w_L_has.1 tk_w_L_has.2.1 tk_w_L_has.2.2.1 tk_w_L_has.2.2.2.1 tk_w_L_has.2.2.2.2 tk_s_L_has tk_RL_261 dL_law_1677 [.ref i1, .int x1, .int x2, .int p4, .ref i3] rfl (Nat.le_of_ble_eq_true rfl) (d1 := d - 1) (b1 := 4) (s1 := 24) (bc' := (0 + bc)) (bs' := (0 + bs)) (Q1 := fun r h9 => r = .inl (some (.int v5.1)) ∧ v5.2 = h9) (by omega) (by omega) (by omega) (w_L_has (by omega) ev5 (fun _ _ q => q)) (fun E h9 q => nomatch (show (Sum.inr E : tq_R) = Sum.inl _ from q.1)) (fun r9 h9 q => ?_)
    obtain ⟨q1, rfl⟩ := q
    cases (show (Sum.inl r9 : tq_R) = Sum.inl (some (.int v5.1)) from q1)
    refine tq_istore (M := mL_law b n xs) (pc := 1680) dL_law_1680 (L2 := [(5, .int v5.1), (0, .retAddr b), (1, .ref i1), (2, .ref i2), (3, .ref i3), (4, .int y4)]) (Nat.le_of_ble_eq_true rfl) rfl ?_
    refine tq_aload_n (M := mL_law b n xs) (pc := 1682) dL_law_1682 rfl ?_
    refine tq_xload (M := mL_law b n xs) (pc := 1683) dL_law_1683 rfl ?_
    refine tq_iload (M := mL_law b n xs) (pc := 1684) dL_law_1684 rfl ?_
    refine tq_iconst (M := mL_law b n xs) (pc := 1686) dL_law_1686 tk_ki_1 ?_
    refine tq_iadd (M := mL_law b n xs) (pc := 1687) dL_law_1687 ?_
    obtain ⟨x6, ex6, hf⟩ := tq_be hf
    refine tq_xld (M := mL_law b n xs) (pc := 1688) dL_law_1688 (n := n) (xs := xs) rfl ex6 ?_
    refine tq_xload (M := mL_law b n xs) (pc := 1689) dL_law_1689 rfl ?_
    refine tq_iload (M := mL_law b n xs) (pc := 1690) dL_law_1690 rfl ?_
    refine tq_iconst (M := mL_law b n xs) (pc := 1692) dL_law_1692 tk_ki_2 ?_
    refine tq_iadd (M := mL_law b n xs) (pc := 1693) dL_law_1693 ?_
    obtain ⟨x7, ex7, hf⟩ := tq_be hf
    refine tq_xld (M := mL_law b n xs) (pc := 1694) dL_law_1694 (n := n) (xs := xs) rfl ex7 ?_
    refine tq_xload (M := mL_law b n xs) (pc := 1695) dL_law_1695 rfl ?_
    refine tq_iload (M := mL_law b n xs) (pc := 1696) dL_law_1696 rfl ?_
    refine tq_iconst (M := mL_law b n xs) (pc := 1698) dL_law_1698 tk_ki_3 ?_
    refine tq_iadd (M := mL_law b n xs) (pc := 1699) dL_law_1699 ?_
    obtain ⟨x8, ex8, hf⟩ := tq_be hf
    refine tq_xld (M := mL_law b n xs) (pc := 1700) dL_law_1700 (n := n) (xs := xs) rfl ex8 ?_
    obtain ⟨p9, ep9, hf⟩ := tq_le hf
    have HJ1701 : tq_W l (mL_law b n xs) d (0 + bc) (0 + bs) Q 1709 [(0, .retAddr b), (1, .ref i1), (2, .ref i2), (3, .ref i3), (4, .int y4), (5, .int v5.1)] [.int p9, .int x7, .int x6, .ref i2] v5.2 := by
      obtain ⟨⟨⟩, eu11, hf⟩ := tq_be hf
      obtain ⟨fsu11, eu11⟩ := tq_is_s eu11
      obtain ⟨v10, ev10, hf⟩ := tq_be hf
      refine tq_calV (M := mL_law b n xs) (pc := 1709) (S := []) tk_y_X11_has tk_v_X11_has tk_RL_264 dL_law_1709 [.int x6, .int x7, .int p9] rfl (S0 := _) rfl eu11 rfl (Nat.le_of_ble_eq_true rfl) (d1 := d - 1) (b1 := 0) (s1 := 0) (bc' := (0 + bc)) (bs' := (0 + bs)) (Q1 := fun r h9 => r = .inl (some (.int v10.1)) ∧ v10.2 = h9) (by omega) (by omega) (by omega) (w_X11_has (by omega) ev10 (fun _ _ q => q)) (fun E h9 q => nomatch (show (Sum.inr E : tq_R) = Sum.inl _ from q.1)) (fun r9 h9 q => ?_)
      obtain ⟨q1, rfl⟩ := q
      cases (show (Sum.inl r9 : tq_R) = Sum.inl (some (.int v10.1)) from q1)
      refine tq_istore (M := mL_law b n xs) (pc := 1712) dL_law_1712 (L2 := [(6, .int v10.1), (0, .retAddr b), (1, .ref i1), (2, .ref i2), (3, .ref i3), (4, .int y4), (5, .int v5.1)]) (Nat.le_of_ble_eq_true rfl) rfl ?_
      refine tq_aload_n (M := mL_law b n xs) (pc := 1714) dL_law_1714 rfl ?_
      obtain ⟨⟨⟩, eu13, hf⟩ := tq_be hf
      obtain ⟨fsu13, eu13⟩ := tq_is_s eu13
      obtain ⟨v12, ev12, hf⟩ := tq_be hf
      refine tq_calV (M := mL_law b n xs) (pc := 1715) (S := []) tk_y_X11_thrown tk_v_X11_thrown tk_RL_177 dL_law_1715 [] rfl (S0 := _) rfl eu13 rfl (Nat.le_of_ble_eq_true rfl) (d1 := d - 1) (b1 := 0) (s1 := 0) (bc' := (0 + bc)) (bs' := (0 + bs)) (Q1 := fun r h9 => r = .inl (some (.int v12)) ∧ v10.2 = h9) (by omega) (by omega) (by omega) (w_X11_thrown (by omega) ev12 (fun _ _ q => q)) (fun E h9 q => nomatch (show (Sum.inr E : tq_R) = Sum.inl _ from q.1)) (fun r9 h9 q => ?_)
      obtain ⟨q1, rfl⟩ := q
      cases (show (Sum.inl r9 : tq_R) = Sum.inl (some (.int v12)) from q1)
      refine tq_iload (M := mL_law b n xs) (pc := 1718) dL_law_1718 rfl ?_
      refine tq_icmp_eq (M := mL_law b n xs) (pc := 1720) (tgt := 1725) dL_law_1720 (by decide) (fun cc => ?_) (fun cc => ?_)
      · have hf := tq_ifp hf cc
        refine tq_iload (M := mL_law b n xs) (pc := 1725) dL_law_1725 rfl ?_
        refine tq_if_ne (M := mL_law b n xs) (pc := 1727) (tgt := 1742) dL_law_1727 (by decide) (fun cc => ?_) (fun cc => ?_)
        · have hf := tq_ifn hf cc
          refine tq_goto (M := mL_law b n xs) (pc := 1742) (tgt := 3605) dL_law_1742 (by decide) ?_
          obtain ⟨x14, ex14, hf⟩ := tq_le hf
          refine tq_iinc (M := mL_law b n xs) (pc := 3605) (v := x14) (L2 := [(4, .int x14), (6, .int v10.1), (0, .retAddr b), (1, .ref i1), (2, .ref i2), (3, .ref i3), (5, .int v5.1)]) dL_law_3605 rfl (by rw [ex14, tk_ki_5]) (Nat.le_of_ble_eq_true rfl) rfl ?_
          refine tq_goto (M := mL_law b n xs) (pc := 3608) (tgt := 23) dL_law_3608 (by decide) ?_
          refine tq_pick (L2 := [(0, .retAddr b), (1, .ref i1), (2, .ref i2), (3, .ref i3), (4, .int x14)]) [2, 3, 4, 5, 0] rfl ?_
          cases (Option.some.inj hf)
          exact tq_more (by omega) (by omega) (hc _ rfl)
        · have hf := tq_ifp hf cc
          refine tq_aload_n (M := mL_law b n xs) (pc := 1730) dL_law_1730 rfl ?_
          refine tq_iconst (M := mL_law b n xs) (pc := 1731) dL_law_1731 tk_ki_0 ?_
          obtain ⟨x15, ex15, hf⟩ := tq_be hf
          refine tq_laldF (M := mL_law b n xs) (pc := 1732) dL_law_1732 ex15 ?_
          refine tq_iload (M := mL_law b n xs) (pc := 1733) dL_law_1733 rfl ?_
          refine tq_i2l (M := mL_law b n xs) (pc := 1735) dL_law_1735 ?_
          refine tq_lcmp (M := mL_law b n xs) (pc := 1736) dL_law_1736 ?_
          refine tq_if_eq (M := mL_law b n xs) (pc := 1737) (tgt := 1742) dL_law_1737 (by decide) (fun cc => ?_) (fun cc => ?_)
          · have hf := tq_ifp hf cc
            refine tq_goto (M := mL_law b n xs) (pc := 1742) (tgt := 3605) dL_law_1742 (by decide) ?_
            obtain ⟨x16, ex16, hf⟩ := tq_le hf
            refine tq_iinc (M := mL_law b n xs) (pc := 3605) (v := x16) (L2 := [(4, .int x16), (6, .int v10.1), (0, .retAddr b), (1, .ref i1), (2, .ref i2), (3, .ref i3), (5, .int v5.1)]) dL_law_3605 rfl (by rw [ex16, tk_ki_5]) (Nat.le_of_ble_eq_true rfl) rfl ?_
            refine tq_goto (M := mL_law b n xs) (pc := 3608) (tgt := 23) dL_law_3608 (by decide) ?_
            refine tq_pick (L2 := [(0, .retAddr b), (1, .ref i1), (2, .ref i2), (3, .ref i3), (4, .int x16)]) [2, 3, 4, 5, 0] rfl ?_
            cases (Option.some.inj hf)
            exact tq_more (by omega) (by omega) (hc _ rfl)
          · have hf := tq_ifn hf cc
            refine tq_iconst (M := mL_law b n xs) (pc := 1740) dL_law_1740 tk_ki_0 ?_
            refine tq_zret (M := mL_law b n xs) (pc := 1741) dL_law_1741 rfl (Or.inl rfl) ?_
            cases (Option.some.inj hf)
            exact hx _ rfl
      · have hf := tq_ifn hf cc
        refine tq_iconst (M := mL_law b n xs) (pc := 1723) dL_law_1723 tk_ki_0 ?_
        refine tq_zret (M := mL_law b n xs) (pc := 1724) dL_law_1724 rfl (Or.inl rfl) ?_
        cases (Option.some.inj hf)
        exact hx _ rfl
    refine tq_if_eq (M := mL_law b n xs) (pc := 1701) (tgt := 1708) dL_law_1701 (by decide) (fun cc => ?_) (fun cc => ?_)
    · have hf := tq_ifp ep9.symm cc
      refine tq_iconst (M := mL_law b n xs) (pc := 1708) dL_law_1708 tk_ki_0 ?_
      refine tq_pick (L2 := [(0, .retAddr b), (1, .ref i1), (2, .ref i2), (3, .ref i3), (4, .int y4), (5, .int v5.1)]) [1, 2, 3, 4, 5, 0] rfl ?_
      cases hf
      exact HJ1701
    · have hf := tq_ifn ep9.symm cc
      refine tq_iconst (M := mL_law b n xs) (pc := 1704) dL_law_1704 tk_ki_1 ?_
      refine tq_goto (M := mL_law b n xs) (pc := 1705) (tgt := 1709) dL_law_1705 (by decide) ?_
      refine tq_pick (L2 := [(0, .retAddr b), (1, .ref i1), (2, .ref i2), (3, .ref i3), (4, .int y4), (5, .int v5.1)]) [1, 2, 3, 4, 5, 0] rfl ?_
      cases hf
      exact HJ1701
  refine tq_if_eq (M := mL_law b n xs) (pc := 1668) (tgt := 1675) dL_law_1668 (by decide) (fun cc => ?_) (fun cc => ?_)
  · have hf := tq_ifp ep4.symm cc
    refine tq_iconst (M := mL_law b n xs) (pc := 1675) dL_law_1675 tk_ki_0 ?_
    cases hf
    exact HJ1668
  · have hf := tq_ifn ep4.symm cc
    refine tq_iconst (M := mL_law b n xs) (pc := 1671) dL_law_1671 tk_ki_1 ?_
    refine tq_goto (M := mL_law b n xs) (pc := 1672) (tgt := 1676) dL_law_1672 (by decide) ?_
    cases hf
    exact HJ1668
def f_L_law_c1745 (n : Nat) (xs : Nat → Int32) (i1 i2 i3 : Nat) (y4 : Int32) (hh : tq_H) : Option ((Int32 × tq_H) ⊕ (Int32 × tq_H)) :=
  (tq_sx n xs (y4 + (1 : Int32))).bind fun x1 =>
  (tq_sx n xs (y4 + (2 : Int32))).bind fun x2 =>
  (tq_sx n xs (y4 + (3 : Int32))).bind fun x3 =>
  (tq_sx n xs (y4 + (4 : Int32))).bind fun x4 =>
  (f_L_worth i1 x1 x2 x3 x4 i3 hh).bind fun v5 =>
  (tq_sx n xs (y4 + (1 : Int32))).bind fun x6 =>
  (tq_sx n xs (y4 + (2 : Int32))).bind fun x7 =>
  (tq_sx n xs (y4 + (3 : Int32))).bind fun x8 =>
  (tq_sx n xs (y4 + (4 : Int32))).bind fun x9 =>
  (tq_is v5.2 i2 11).bind fun _ =>
  (f_X11_worth i2 x6 x7 x8 x9 v5.2).bind fun v10 =>
  (tq_is v10.2 i2 11).bind fun _ =>
  (f_X11_thrown i2 v10.2).bind fun v12 =>
  if v12 = v5.1 then
    if v5.1 = 0 then
      (tq_aj v10.2 i3 (0 : Int32)).bind fun x15 =>
      if (lg_cmp x15 (v10.1).toInt64) = 0 then
        tq_let (y4 + (5 : Int32)) fun x16 =>
        some (.inl (x16, v10.2))
      else
        some (.inr ((0 : Int32), v10.2))
    else
      tq_let (y4 + (5 : Int32)) fun x14 =>
      some (.inl (x14, v10.2))
  else
    some (.inr ((0 : Int32), v10.2))
set_option maxHeartbeats 4000000 in
set_option maxRecDepth 20000 in
theorem c_L_law_1745 {l : Launch} {d : Nat} (hd9 : 10 ≤ d) {b n : Nat} {xs : Nat → Int32} {i1 i2 i3 : Nat} {y4 : Int32} {hh : tq_H} {Q : tq_R → tq_H → Prop} {bc bs : Nat} {oo : (Int32 × tq_H) ⊕ (Int32 × tq_H)} (hf : f_L_law_c1745 n xs i1 i2 i3 y4 hh = some oo) (hc : ∀ s9, oo = .inl s9 → tq_W l (mL_law b n xs) d bc bs Q 23 [(0, .retAddr b), (1, .ref i1), (2, .ref i2), (3, .ref i3), (4, .int s9.1)] [] s9.2) (hx : ∀ e9, oo = .inr e9 → Q (.inl (some (.int e9.1))) e9.2) : tq_W l (mL_law b n xs) d (6 + bc) (36 + bs) Q 1745 [(0, .retAddr b), (1, .ref i1), (2, .ref i2), (3, .ref i3), (4, .int y4)] [] hh := by
  refine tq_aload_n (M := mL_law b n xs) (pc := 1745) dL_law_1745 rfl ?_
  refine tq_xload (M := mL_law b n xs) (pc := 1746) dL_law_1746 rfl ?_
  refine tq_iload (M := mL_law b n xs) (pc := 1747) dL_law_1747 rfl ?_
  refine tq_iconst (M := mL_law b n xs) (pc := 1749) dL_law_1749 tk_ki_1 ?_
  refine tq_iadd (M := mL_law b n xs) (pc := 1750) dL_law_1750 ?_
  obtain ⟨x1, ex1, hf⟩ := tq_be hf
  refine tq_xld (M := mL_law b n xs) (pc := 1751) dL_law_1751 (n := n) (xs := xs) rfl ex1 ?_
  refine tq_xload (M := mL_law b n xs) (pc := 1752) dL_law_1752 rfl ?_
  refine tq_iload (M := mL_law b n xs) (pc := 1753) dL_law_1753 rfl ?_
  refine tq_iconst (M := mL_law b n xs) (pc := 1755) dL_law_1755 tk_ki_2 ?_
  refine tq_iadd (M := mL_law b n xs) (pc := 1756) dL_law_1756 ?_
  obtain ⟨x2, ex2, hf⟩ := tq_be hf
  refine tq_xld (M := mL_law b n xs) (pc := 1757) dL_law_1757 (n := n) (xs := xs) rfl ex2 ?_
  refine tq_xload (M := mL_law b n xs) (pc := 1758) dL_law_1758 rfl ?_
  refine tq_iload (M := mL_law b n xs) (pc := 1759) dL_law_1759 rfl ?_
  refine tq_iconst (M := mL_law b n xs) (pc := 1761) dL_law_1761 tk_ki_3 ?_
  refine tq_iadd (M := mL_law b n xs) (pc := 1762) dL_law_1762 ?_
  obtain ⟨x3, ex3, hf⟩ := tq_be hf
  refine tq_xld (M := mL_law b n xs) (pc := 1763) dL_law_1763 (n := n) (xs := xs) rfl ex3 ?_
  refine tq_xload (M := mL_law b n xs) (pc := 1764) dL_law_1764 rfl ?_
  refine tq_iload (M := mL_law b n xs) (pc := 1765) dL_law_1765 rfl ?_
  refine tq_iconst (M := mL_law b n xs) (pc := 1767) dL_law_1767 tk_ki_4 ?_
  refine tq_iadd (M := mL_law b n xs) (pc := 1768) dL_law_1768 ?_
  obtain ⟨x4, ex4, hf⟩ := tq_be hf
  refine tq_xld (M := mL_law b n xs) (pc := 1769) dL_law_1769 (n := n) (xs := xs) rfl ex4 ?_
  refine tq_aload_n (M := mL_law b n xs) (pc := 1770) dL_law_1770 rfl ?_
  obtain ⟨v5, ev5, hf⟩ := tq_be hf
  refine tq_calSW (M := mL_law b n xs) (pc := 1771) (S := []) tk_w_L_worth.1 tk_w_L_worth.2.1 tk_w_L_worth.2.2.1 tk_w_L_worth.2.2.2.1 tk_w_L_worth.2.2.2.2 tk_s_L_worth tk_RL_265 dL_law_1771 [.ref i1, .int x1, .int x2, .int x3, .int x4, .ref i3] rfl (Nat.le_of_ble_eq_true rfl) (d1 := d - 1) (b1 := 6) (s1 := 36) (bc' := (0 + bc)) (bs' := (0 + bs)) (Q1 := fun r h9 => r = .inl (some (.int v5.1)) ∧ v5.2 = h9) (by omega) (by omega) (by omega) (w_L_worth (by omega) ev5 (fun _ _ q => q)) (fun E h9 q => nomatch (show (Sum.inr E : tq_R) = Sum.inl _ from q.1)) (fun r9 h9 q => ?_)
  obtain ⟨q1, rfl⟩ := q
  cases (show (Sum.inl r9 : tq_R) = Sum.inl (some (.int v5.1)) from q1)
  refine tq_istore (M := mL_law b n xs) (pc := 1774) dL_law_1774 (L2 := [(5, .int v5.1), (0, .retAddr b), (1, .ref i1), (2, .ref i2), (3, .ref i3), (4, .int y4)]) (Nat.le_of_ble_eq_true rfl) rfl ?_
  refine tq_aload_n (M := mL_law b n xs) (pc := 1776) dL_law_1776 rfl ?_
  refine tq_xload (M := mL_law b n xs) (pc := 1777) dL_law_1777 rfl ?_
  refine tq_iload (M := mL_law b n xs) (pc := 1778) dL_law_1778 rfl ?_
  refine tq_iconst (M := mL_law b n xs) (pc := 1780) dL_law_1780 tk_ki_1 ?_
  refine tq_iadd (M := mL_law b n xs) (pc := 1781) dL_law_1781 ?_
  obtain ⟨x6, ex6, hf⟩ := tq_be hf
  refine tq_xld (M := mL_law b n xs) (pc := 1782) dL_law_1782 (n := n) (xs := xs) rfl ex6 ?_
  refine tq_xload (M := mL_law b n xs) (pc := 1783) dL_law_1783 rfl ?_
  refine tq_iload (M := mL_law b n xs) (pc := 1784) dL_law_1784 rfl ?_
  refine tq_iconst (M := mL_law b n xs) (pc := 1786) dL_law_1786 tk_ki_2 ?_
  refine tq_iadd (M := mL_law b n xs) (pc := 1787) dL_law_1787 ?_
  obtain ⟨x7, ex7, hf⟩ := tq_be hf
  refine tq_xld (M := mL_law b n xs) (pc := 1788) dL_law_1788 (n := n) (xs := xs) rfl ex7 ?_
  refine tq_xload (M := mL_law b n xs) (pc := 1789) dL_law_1789 rfl ?_
  refine tq_iload (M := mL_law b n xs) (pc := 1790) dL_law_1790 rfl ?_
  refine tq_iconst (M := mL_law b n xs) (pc := 1792) dL_law_1792 tk_ki_3 ?_
  refine tq_iadd (M := mL_law b n xs) (pc := 1793) dL_law_1793 ?_
  obtain ⟨x8, ex8, hf⟩ := tq_be hf
  refine tq_xld (M := mL_law b n xs) (pc := 1794) dL_law_1794 (n := n) (xs := xs) rfl ex8 ?_
  refine tq_xload (M := mL_law b n xs) (pc := 1795) dL_law_1795 rfl ?_
  refine tq_iload (M := mL_law b n xs) (pc := 1796) dL_law_1796 rfl ?_
  refine tq_iconst (M := mL_law b n xs) (pc := 1798) dL_law_1798 tk_ki_4 ?_
  refine tq_iadd (M := mL_law b n xs) (pc := 1799) dL_law_1799 ?_
  obtain ⟨x9, ex9, hf⟩ := tq_be hf
  refine tq_xld (M := mL_law b n xs) (pc := 1800) dL_law_1800 (n := n) (xs := xs) rfl ex9 ?_
  obtain ⟨⟨⟩, eu11, hf⟩ := tq_be hf
  obtain ⟨fsu11, eu11⟩ := tq_is_s eu11
  obtain ⟨v10, ev10, hf⟩ := tq_be hf
  refine tq_calV (M := mL_law b n xs) (pc := 1801) (S := []) tk_y_X11_worth tk_v_X11_worth tk_RL_267 dL_law_1801 [.int x6, .int x7, .int x8, .int x9] rfl (S0 := _) rfl eu11 rfl (Nat.le_of_ble_eq_true rfl) (d1 := d - 1) (b1 := 0) (s1 := 0) (bc' := (0 + bc)) (bs' := (0 + bs)) (Q1 := fun r h9 => r = .inl (some (.int v10.1)) ∧ v10.2 = h9) (by omega) (by omega) (by omega) (w_X11_worth (by omega) ev10 (fun _ _ q => q)) (fun E h9 q => nomatch (show (Sum.inr E : tq_R) = Sum.inl _ from q.1)) (fun r9 h9 q => ?_)
  obtain ⟨q1, rfl⟩ := q
  cases (show (Sum.inl r9 : tq_R) = Sum.inl (some (.int v10.1)) from q1)
  refine tq_istore (M := mL_law b n xs) (pc := 1804) dL_law_1804 (L2 := [(6, .int v10.1), (5, .int v5.1), (0, .retAddr b), (1, .ref i1), (2, .ref i2), (3, .ref i3), (4, .int y4)]) (Nat.le_of_ble_eq_true rfl) rfl ?_
  refine tq_aload_n (M := mL_law b n xs) (pc := 1806) dL_law_1806 rfl ?_
  obtain ⟨⟨⟩, eu13, hf⟩ := tq_be hf
  obtain ⟨fsu13, eu13⟩ := tq_is_s eu13
  obtain ⟨v12, ev12, hf⟩ := tq_be hf
  refine tq_calV (M := mL_law b n xs) (pc := 1807) (S := []) tk_y_X11_thrown tk_v_X11_thrown tk_RL_177 dL_law_1807 [] rfl (S0 := _) rfl eu13 rfl (Nat.le_of_ble_eq_true rfl) (d1 := d - 1) (b1 := 0) (s1 := 0) (bc' := (0 + bc)) (bs' := (0 + bs)) (Q1 := fun r h9 => r = .inl (some (.int v12)) ∧ v10.2 = h9) (by omega) (by omega) (by omega) (w_X11_thrown (by omega) ev12 (fun _ _ q => q)) (fun E h9 q => nomatch (show (Sum.inr E : tq_R) = Sum.inl _ from q.1)) (fun r9 h9 q => ?_)
  obtain ⟨q1, rfl⟩ := q
  cases (show (Sum.inl r9 : tq_R) = Sum.inl (some (.int v12)) from q1)
  refine tq_iload (M := mL_law b n xs) (pc := 1810) dL_law_1810 rfl ?_
  refine tq_icmp_eq (M := mL_law b n xs) (pc := 1812) (tgt := 1817) dL_law_1812 (by decide) (fun cc => ?_) (fun cc => ?_)
  · have hf := tq_ifp hf cc
    refine tq_iload (M := mL_law b n xs) (pc := 1817) dL_law_1817 rfl ?_
    refine tq_if_ne (M := mL_law b n xs) (pc := 1819) (tgt := 1834) dL_law_1819 (by decide) (fun cc => ?_) (fun cc => ?_)
    · have hf := tq_ifn hf cc
      refine tq_goto (M := mL_law b n xs) (pc := 1834) (tgt := 3605) dL_law_1834 (by decide) ?_
      obtain ⟨x14, ex14, hf⟩ := tq_le hf
      refine tq_iinc (M := mL_law b n xs) (pc := 3605) (v := x14) (L2 := [(4, .int x14), (6, .int v10.1), (5, .int v5.1), (0, .retAddr b), (1, .ref i1), (2, .ref i2), (3, .ref i3)]) dL_law_3605 rfl (by rw [ex14, tk_ki_5]) (Nat.le_of_ble_eq_true rfl) rfl ?_
      refine tq_goto (M := mL_law b n xs) (pc := 3608) (tgt := 23) dL_law_3608 (by decide) ?_
      refine tq_pick (L2 := [(0, .retAddr b), (1, .ref i1), (2, .ref i2), (3, .ref i3), (4, .int x14)]) [3, 4, 5, 6, 0] rfl ?_
      cases (Option.some.inj hf)
      exact tq_more (by omega) (by omega) (hc _ rfl)
    · have hf := tq_ifp hf cc
      refine tq_aload_n (M := mL_law b n xs) (pc := 1822) dL_law_1822 rfl ?_
      refine tq_iconst (M := mL_law b n xs) (pc := 1823) dL_law_1823 tk_ki_0 ?_
      obtain ⟨x15, ex15, hf⟩ := tq_be hf
      refine tq_laldF (M := mL_law b n xs) (pc := 1824) dL_law_1824 ex15 ?_
      refine tq_iload (M := mL_law b n xs) (pc := 1825) dL_law_1825 rfl ?_
      refine tq_i2l (M := mL_law b n xs) (pc := 1827) dL_law_1827 ?_
      refine tq_lcmp (M := mL_law b n xs) (pc := 1828) dL_law_1828 ?_
      refine tq_if_eq (M := mL_law b n xs) (pc := 1829) (tgt := 1834) dL_law_1829 (by decide) (fun cc => ?_) (fun cc => ?_)
      · have hf := tq_ifp hf cc
        refine tq_goto (M := mL_law b n xs) (pc := 1834) (tgt := 3605) dL_law_1834 (by decide) ?_
        obtain ⟨x16, ex16, hf⟩ := tq_le hf
        refine tq_iinc (M := mL_law b n xs) (pc := 3605) (v := x16) (L2 := [(4, .int x16), (6, .int v10.1), (5, .int v5.1), (0, .retAddr b), (1, .ref i1), (2, .ref i2), (3, .ref i3)]) dL_law_3605 rfl (by rw [ex16, tk_ki_5]) (Nat.le_of_ble_eq_true rfl) rfl ?_
        refine tq_goto (M := mL_law b n xs) (pc := 3608) (tgt := 23) dL_law_3608 (by decide) ?_
        refine tq_pick (L2 := [(0, .retAddr b), (1, .ref i1), (2, .ref i2), (3, .ref i3), (4, .int x16)]) [3, 4, 5, 6, 0] rfl ?_
        cases (Option.some.inj hf)
        exact tq_more (by omega) (by omega) (hc _ rfl)
      · have hf := tq_ifn hf cc
        refine tq_iconst (M := mL_law b n xs) (pc := 1832) dL_law_1832 tk_ki_0 ?_
        refine tq_zret (M := mL_law b n xs) (pc := 1833) dL_law_1833 rfl (Or.inl rfl) ?_
        cases (Option.some.inj hf)
        exact hx _ rfl
  · have hf := tq_ifn hf cc
    refine tq_iconst (M := mL_law b n xs) (pc := 1815) dL_law_1815 tk_ki_0 ?_
    refine tq_zret (M := mL_law b n xs) (pc := 1816) dL_law_1816 rfl (Or.inl rfl) ?_
    cases (Option.some.inj hf)
    exact hx _ rfl
def f_L_law_c1837 (n : Nat) (xs : Nat → Int32) (i1 i2 i3 : Nat) (y4 : Int32) (hh : tq_H) : Option ((Int32 × tq_H) ⊕ (Int32 × tq_H)) :=
  (tq_is hh i1 10).bind fun _ =>
  (f_X10_paths i1 hh).bind fun v1 =>
  (tq_is hh i2 11).bind fun _ =>
  (f_X11_paths i2 hh).bind fun v3 =>
  if v1 = v3.1 then
    tq_let (y4 + (5 : Int32)) fun x5 =>
    some (.inl (x5, v3.2))
  else
    some (.inr ((0 : Int32), v3.2))
set_option maxHeartbeats 4000000 in
set_option maxRecDepth 20000 in
theorem c_L_law_1837 {l : Launch} {d : Nat} (hd9 : 10 ≤ d) {b n : Nat} {xs : Nat → Int32} {i1 i2 i3 : Nat} {y4 : Int32} {hh : tq_H} {Q : tq_R → tq_H → Prop} {bc bs : Nat} {oo : (Int32 × tq_H) ⊕ (Int32 × tq_H)} (hf : f_L_law_c1837 n xs i1 i2 i3 y4 hh = some oo) (hc : ∀ s9, oo = .inl s9 → tq_W l (mL_law b n xs) d bc bs Q 23 [(0, .retAddr b), (1, .ref i1), (2, .ref i2), (3, .ref i3), (4, .int s9.1)] [] s9.2) (hx : ∀ e9, oo = .inr e9 → Q (.inl (some (.int e9.1))) e9.2) : tq_W l (mL_law b n xs) d (0 + bc) (0 + bs) Q 1837 [(0, .retAddr b), (1, .ref i1), (2, .ref i2), (3, .ref i3), (4, .int y4)] [] hh := by
  refine tq_aload_n (M := mL_law b n xs) (pc := 1837) dL_law_1837 rfl ?_
  obtain ⟨⟨⟩, eu2, hf⟩ := tq_be hf
  obtain ⟨fsu2, eu2⟩ := tq_is_s eu2
  obtain ⟨v1, ev1, hf⟩ := tq_be hf
  refine tq_calV (M := mL_law b n xs) (pc := 1838) (S := []) tk_y_X10_paths tk_v_X10_paths tk_RL_268 dL_law_1838 [] rfl (S0 := _) rfl eu2 rfl (Nat.le_of_ble_eq_true rfl) (d1 := d - 1) (b1 := 0) (s1 := 0) (bc' := (0 + bc)) (bs' := (0 + bs)) (Q1 := fun r h9 => r = .inl (some (.int v1)) ∧ hh = h9) (by omega) (by omega) (by omega) (w_X10_paths (by omega) ev1 (fun _ _ q => q)) (fun E h9 q => nomatch (show (Sum.inr E : tq_R) = Sum.inl _ from q.1)) (fun r9 h9 q => ?_)
  obtain ⟨q1, rfl⟩ := q
  cases (show (Sum.inl r9 : tq_R) = Sum.inl (some (.int v1)) from q1)
  refine tq_aload_n (M := mL_law b n xs) (pc := 1841) dL_law_1841 rfl ?_
  obtain ⟨⟨⟩, eu4, hf⟩ := tq_be hf
  obtain ⟨fsu4, eu4⟩ := tq_is_s eu4
  obtain ⟨v3, ev3, hf⟩ := tq_be hf
  refine tq_calV (M := mL_law b n xs) (pc := 1842) (S := [.int v1]) tk_y_X11_paths tk_v_X11_paths tk_RL_271 dL_law_1842 [] rfl (S0 := _) rfl eu4 rfl (Nat.le_of_ble_eq_true rfl) (d1 := d - 1) (b1 := 0) (s1 := 0) (bc' := (0 + bc)) (bs' := (0 + bs)) (Q1 := fun r h9 => r = .inl (some (.int v3.1)) ∧ v3.2 = h9) (by omega) (by omega) (by omega) (w_X11_paths (by omega) ev3 (fun _ _ q => q)) (fun E h9 q => nomatch (show (Sum.inr E : tq_R) = Sum.inl _ from q.1)) (fun r9 h9 q => ?_)
  obtain ⟨q1, rfl⟩ := q
  cases (show (Sum.inl r9 : tq_R) = Sum.inl (some (.int v3.1)) from q1)
  refine tq_icmp_eq (M := mL_law b n xs) (pc := 1845) (tgt := 3605) dL_law_1845 (by decide) (fun cc => ?_) (fun cc => ?_)
  · have hf := tq_ifp hf cc
    obtain ⟨x5, ex5, hf⟩ := tq_le hf
    refine tq_iinc (M := mL_law b n xs) (pc := 3605) (v := x5) (L2 := [(4, .int x5), (0, .retAddr b), (1, .ref i1), (2, .ref i2), (3, .ref i3)]) dL_law_3605 rfl (by rw [ex5, tk_ki_5]) (Nat.le_of_ble_eq_true rfl) rfl ?_
    refine tq_goto (M := mL_law b n xs) (pc := 3608) (tgt := 23) dL_law_3608 (by decide) ?_
    refine tq_pick (L2 := [(0, .retAddr b), (1, .ref i1), (2, .ref i2), (3, .ref i3), (4, .int x5)]) [1, 2, 3, 4, 0] rfl ?_
    cases (Option.some.inj hf)
    exact tq_more (by omega) (by omega) (hc _ rfl)
  · have hf := tq_ifn hf cc
    refine tq_iconst (M := mL_law b n xs) (pc := 1848) dL_law_1848 tk_ki_0 ?_
    refine tq_zret (M := mL_law b n xs) (pc := 1849) dL_law_1849 rfl (Or.inl rfl) ?_
    cases (Option.some.inj hf)
    exact hx _ rfl
def f_L_law_c1850 (n : Nat) (xs : Nat → Int32) (i1 i2 i3 : Nat) (y4 : Int32) (hh : tq_H) : Option ((Int32 × tq_H) ⊕ (Int32 × tq_H)) :=
  (tq_sx n xs (y4 + (1 : Int32))).bind fun x1 =>
  tq_let (if x1 = 0 then (0 : Int32) else (1 : Int32)) fun p2 =>
  (tq_is hh i1 10).bind fun _ =>
  (f_X10_readAsReader i1 p2 hh).bind fun v3 =>
  (tq_sx n xs (y4 + (1 : Int32))).bind fun x5 =>
  tq_let (if x5 = 0 then (0 : Int32) else (1 : Int32)) fun p6 =>
  (tq_is v3.2 i2 11).bind fun _ =>
  (f_X11_readAsReader i2 p6 v3.2).bind fun v7 =>
  if v3.1 = v7.1 then
    tq_let (y4 + (5 : Int32)) fun x9 =>
    some (.inl (x9, v7.2))
  else
    some (.inr ((0 : Int32), v7.2))
set_option maxHeartbeats 4000000 in
set_option maxRecDepth 20000 in
theorem c_L_law_1850 {l : Launch} {d : Nat} (hd9 : 10 ≤ d) {b n : Nat} {xs : Nat → Int32} {i1 i2 i3 : Nat} {y4 : Int32} {hh : tq_H} {Q : tq_R → tq_H → Prop} {bc bs : Nat} {oo : (Int32 × tq_H) ⊕ (Int32 × tq_H)} (hf : f_L_law_c1850 n xs i1 i2 i3 y4 hh = some oo) (hc : ∀ s9, oo = .inl s9 → tq_W l (mL_law b n xs) d bc bs Q 23 [(0, .retAddr b), (1, .ref i1), (2, .ref i2), (3, .ref i3), (4, .int s9.1)] [] s9.2) (hx : ∀ e9, oo = .inr e9 → Q (.inl (some (.int e9.1))) e9.2) : tq_W l (mL_law b n xs) d (0 + bc) (0 + bs) Q 1850 [(0, .retAddr b), (1, .ref i1), (2, .ref i2), (3, .ref i3), (4, .int y4)] [] hh := by
  refine tq_aload_n (M := mL_law b n xs) (pc := 1850) dL_law_1850 rfl ?_
  refine tq_xload (M := mL_law b n xs) (pc := 1851) dL_law_1851 rfl ?_
  refine tq_iload (M := mL_law b n xs) (pc := 1852) dL_law_1852 rfl ?_
  refine tq_iconst (M := mL_law b n xs) (pc := 1854) dL_law_1854 tk_ki_1 ?_
  refine tq_iadd (M := mL_law b n xs) (pc := 1855) dL_law_1855 ?_
  obtain ⟨x1, ex1, hf⟩ := tq_be hf
  refine tq_xld (M := mL_law b n xs) (pc := 1856) dL_law_1856 (n := n) (xs := xs) rfl ex1 ?_
  obtain ⟨p2, ep2, hf⟩ := tq_le hf
  have HJ1857 : tq_W l (mL_law b n xs) d (0 + bc) (0 + bs) Q 1865 [(0, .retAddr b), (1, .ref i1), (2, .ref i2), (3, .ref i3), (4, .int y4)] [.int p2, .ref i1] hh := by
    obtain ⟨⟨⟩, eu4, hf⟩ := tq_be hf
    obtain ⟨fsu4, eu4⟩ := tq_is_s eu4
    obtain ⟨v3, ev3, hf⟩ := tq_be hf
    refine tq_calV (M := mL_law b n xs) (pc := 1865) (S := []) tk_y_X10_readAsReader tk_v_X10_readAsReader tk_RL_272 dL_law_1865 [.int p2] rfl (S0 := _) rfl eu4 rfl (Nat.le_of_ble_eq_true rfl) (d1 := d - 1) (b1 := 0) (s1 := 0) (bc' := (0 + bc)) (bs' := (0 + bs)) (Q1 := fun r h9 => r = .inl (some (.int v3.1)) ∧ v3.2 = h9) (by omega) (by omega) (by omega) (w_X10_readAsReader (by omega) ev3 (fun _ _ q => q)) (fun E h9 q => nomatch (show (Sum.inr E : tq_R) = Sum.inl _ from q.1)) (fun r9 h9 q => ?_)
    obtain ⟨q1, rfl⟩ := q
    cases (show (Sum.inl r9 : tq_R) = Sum.inl (some (.int v3.1)) from q1)
    refine tq_aload_n (M := mL_law b n xs) (pc := 1868) dL_law_1868 rfl ?_
    refine tq_xload (M := mL_law b n xs) (pc := 1869) dL_law_1869 rfl ?_
    refine tq_iload (M := mL_law b n xs) (pc := 1870) dL_law_1870 rfl ?_
    refine tq_iconst (M := mL_law b n xs) (pc := 1872) dL_law_1872 tk_ki_1 ?_
    refine tq_iadd (M := mL_law b n xs) (pc := 1873) dL_law_1873 ?_
    obtain ⟨x5, ex5, hf⟩ := tq_be hf
    refine tq_xld (M := mL_law b n xs) (pc := 1874) dL_law_1874 (n := n) (xs := xs) rfl ex5 ?_
    obtain ⟨p6, ep6, hf⟩ := tq_le hf
    have HJ1875 : tq_W l (mL_law b n xs) d (0 + bc) (0 + bs) Q 1883 [(0, .retAddr b), (1, .ref i1), (2, .ref i2), (3, .ref i3), (4, .int y4)] [.int p6, .ref i2, .int v3.1] v3.2 := by
      obtain ⟨⟨⟩, eu8, hf⟩ := tq_be hf
      obtain ⟨fsu8, eu8⟩ := tq_is_s eu8
      obtain ⟨v7, ev7, hf⟩ := tq_be hf
      refine tq_calV (M := mL_law b n xs) (pc := 1883) (S := [.int v3.1]) tk_y_X11_readAsReader tk_v_X11_readAsReader tk_RL_275 dL_law_1883 [.int p6] rfl (S0 := _) rfl eu8 rfl (Nat.le_of_ble_eq_true rfl) (d1 := d - 1) (b1 := 0) (s1 := 0) (bc' := (0 + bc)) (bs' := (0 + bs)) (Q1 := fun r h9 => r = .inl (some (.int v7.1)) ∧ v7.2 = h9) (by omega) (by omega) (by omega) (w_X11_readAsReader (by omega) ev7 (fun _ _ q => q)) (fun E h9 q => nomatch (show (Sum.inr E : tq_R) = Sum.inl _ from q.1)) (fun r9 h9 q => ?_)
      obtain ⟨q1, rfl⟩ := q
      cases (show (Sum.inl r9 : tq_R) = Sum.inl (some (.int v7.1)) from q1)
      refine tq_icmp_eq (M := mL_law b n xs) (pc := 1886) (tgt := 3605) dL_law_1886 (by decide) (fun cc => ?_) (fun cc => ?_)
      · have hf := tq_ifp hf cc
        obtain ⟨x9, ex9, hf⟩ := tq_le hf
        refine tq_iinc (M := mL_law b n xs) (pc := 3605) (v := x9) (L2 := [(4, .int x9), (0, .retAddr b), (1, .ref i1), (2, .ref i2), (3, .ref i3)]) dL_law_3605 rfl (by rw [ex9, tk_ki_5]) (Nat.le_of_ble_eq_true rfl) rfl ?_
        refine tq_goto (M := mL_law b n xs) (pc := 3608) (tgt := 23) dL_law_3608 (by decide) ?_
        refine tq_pick (L2 := [(0, .retAddr b), (1, .ref i1), (2, .ref i2), (3, .ref i3), (4, .int x9)]) [1, 2, 3, 4, 0] rfl ?_
        cases (Option.some.inj hf)
        exact tq_more (by omega) (by omega) (hc _ rfl)
      · have hf := tq_ifn hf cc
        refine tq_iconst (M := mL_law b n xs) (pc := 1889) dL_law_1889 tk_ki_0 ?_
        refine tq_zret (M := mL_law b n xs) (pc := 1890) dL_law_1890 rfl (Or.inl rfl) ?_
        cases (Option.some.inj hf)
        exact hx _ rfl
    refine tq_if_eq (M := mL_law b n xs) (pc := 1875) (tgt := 1882) dL_law_1875 (by decide) (fun cc => ?_) (fun cc => ?_)
    · have hf := tq_ifp ep6.symm cc
      refine tq_iconst (M := mL_law b n xs) (pc := 1882) dL_law_1882 tk_ki_0 ?_
      cases hf
      exact HJ1875
    · have hf := tq_ifn ep6.symm cc
      refine tq_iconst (M := mL_law b n xs) (pc := 1878) dL_law_1878 tk_ki_1 ?_
      refine tq_goto (M := mL_law b n xs) (pc := 1879) (tgt := 1883) dL_law_1879 (by decide) ?_
      cases hf
      exact HJ1875
  refine tq_if_eq (M := mL_law b n xs) (pc := 1857) (tgt := 1864) dL_law_1857 (by decide) (fun cc => ?_) (fun cc => ?_)
  · have hf := tq_ifp ep2.symm cc
    refine tq_iconst (M := mL_law b n xs) (pc := 1864) dL_law_1864 tk_ki_0 ?_
    cases hf
    exact HJ1857
  · have hf := tq_ifn ep2.symm cc
    refine tq_iconst (M := mL_law b n xs) (pc := 1860) dL_law_1860 tk_ki_1 ?_
    refine tq_goto (M := mL_law b n xs) (pc := 1861) (tgt := 1865) dL_law_1861 (by decide) ?_
    cases hf
    exact HJ1857
def f_L_law_c1891 (n : Nat) (xs : Nat → Int32) (i1 i2 i3 : Nat) (y4 : Int32) (hh : tq_H) : Option ((Int32 × tq_H) ⊕ (Int32 × tq_H)) :=
  (tq_sx n xs (y4 + (1 : Int32))).bind fun x1 =>
  (tq_sx n xs (y4 + (2 : Int32))).bind fun x2 =>
  (f_L_found i1 x1 x2 i3 hh).bind fun v3 =>
  (tq_sx n xs (y4 + (1 : Int32))).bind fun x4 =>
  (tq_sx n xs (y4 + (2 : Int32))).bind fun x5 =>
  (tq_is v3.2 i2 11).bind fun _ =>
  (f_X11_found i2 x4 x5 v3.2).bind fun v6 =>
  (tq_is v6.2 i2 11).bind fun _ =>
  (f_X11_thrown i2 v6.2).bind fun v8 =>
  if v8 = v3.1 then
    if v3.1 = 0 then
      (tq_aj v6.2 i3 (0 : Int32)).bind fun x11 =>
      if (lg_cmp x11 (v6.1).toInt64) = 0 then
        tq_let (y4 + (5 : Int32)) fun x12 =>
        some (.inl (x12, v6.2))
      else
        some (.inr ((0 : Int32), v6.2))
    else
      tq_let (y4 + (5 : Int32)) fun x10 =>
      some (.inl (x10, v6.2))
  else
    some (.inr ((0 : Int32), v6.2))
set_option maxHeartbeats 4000000 in
set_option maxRecDepth 20000 in
theorem c_L_law_1891 {l : Launch} {d : Nat} (hd9 : 10 ≤ d) {b n : Nat} {xs : Nat → Int32} {i1 i2 i3 : Nat} {y4 : Int32} {hh : tq_H} {Q : tq_R → tq_H → Prop} {bc bs : Nat} {oo : (Int32 × tq_H) ⊕ (Int32 × tq_H)} (hf : f_L_law_c1891 n xs i1 i2 i3 y4 hh = some oo) (hc : ∀ s9, oo = .inl s9 → tq_W l (mL_law b n xs) d bc bs Q 23 [(0, .retAddr b), (1, .ref i1), (2, .ref i2), (3, .ref i3), (4, .int s9.1)] [] s9.2) (hx : ∀ e9, oo = .inr e9 → Q (.inl (some (.int e9.1))) e9.2) : tq_W l (mL_law b n xs) d (3 + bc) (18 + bs) Q 1891 [(0, .retAddr b), (1, .ref i1), (2, .ref i2), (3, .ref i3), (4, .int y4)] [] hh := by
  refine tq_aload_n (M := mL_law b n xs) (pc := 1891) dL_law_1891 rfl ?_
  refine tq_xload (M := mL_law b n xs) (pc := 1892) dL_law_1892 rfl ?_
  refine tq_iload (M := mL_law b n xs) (pc := 1893) dL_law_1893 rfl ?_
  refine tq_iconst (M := mL_law b n xs) (pc := 1895) dL_law_1895 tk_ki_1 ?_
  refine tq_iadd (M := mL_law b n xs) (pc := 1896) dL_law_1896 ?_
  obtain ⟨x1, ex1, hf⟩ := tq_be hf
  refine tq_xld (M := mL_law b n xs) (pc := 1897) dL_law_1897 (n := n) (xs := xs) rfl ex1 ?_
  refine tq_xload (M := mL_law b n xs) (pc := 1898) dL_law_1898 rfl ?_
  refine tq_iload (M := mL_law b n xs) (pc := 1899) dL_law_1899 rfl ?_
  refine tq_iconst (M := mL_law b n xs) (pc := 1901) dL_law_1901 tk_ki_2 ?_
  refine tq_iadd (M := mL_law b n xs) (pc := 1902) dL_law_1902 ?_
  obtain ⟨x2, ex2, hf⟩ := tq_be hf
  refine tq_xld (M := mL_law b n xs) (pc := 1903) dL_law_1903 (n := n) (xs := xs) rfl ex2 ?_
  refine tq_aload_n (M := mL_law b n xs) (pc := 1904) dL_law_1904 rfl ?_
  obtain ⟨v3, ev3, hf⟩ := tq_be hf
  refine tq_calSW (M := mL_law b n xs) (pc := 1905) (S := []) tk_w_L_found.1 tk_w_L_found.2.1 tk_w_L_found.2.2.1 tk_w_L_found.2.2.2.1 tk_w_L_found.2.2.2.2 tk_s_L_found tk_RL_276 dL_law_1905 [.ref i1, .int x1, .int x2, .ref i3] rfl (Nat.le_of_ble_eq_true rfl) (d1 := d - 1) (b1 := 3) (s1 := 18) (bc' := (0 + bc)) (bs' := (0 + bs)) (Q1 := fun r h9 => r = .inl (some (.int v3.1)) ∧ v3.2 = h9) (by omega) (by omega) (by omega) (w_L_found (by omega) ev3 (fun _ _ q => q)) (fun E h9 q => nomatch (show (Sum.inr E : tq_R) = Sum.inl _ from q.1)) (fun r9 h9 q => ?_)
  obtain ⟨q1, rfl⟩ := q
  cases (show (Sum.inl r9 : tq_R) = Sum.inl (some (.int v3.1)) from q1)
  refine tq_istore (M := mL_law b n xs) (pc := 1908) dL_law_1908 (L2 := [(5, .int v3.1), (0, .retAddr b), (1, .ref i1), (2, .ref i2), (3, .ref i3), (4, .int y4)]) (Nat.le_of_ble_eq_true rfl) rfl ?_
  refine tq_aload_n (M := mL_law b n xs) (pc := 1910) dL_law_1910 rfl ?_
  refine tq_xload (M := mL_law b n xs) (pc := 1911) dL_law_1911 rfl ?_
  refine tq_iload (M := mL_law b n xs) (pc := 1912) dL_law_1912 rfl ?_
  refine tq_iconst (M := mL_law b n xs) (pc := 1914) dL_law_1914 tk_ki_1 ?_
  refine tq_iadd (M := mL_law b n xs) (pc := 1915) dL_law_1915 ?_
  obtain ⟨x4, ex4, hf⟩ := tq_be hf
  refine tq_xld (M := mL_law b n xs) (pc := 1916) dL_law_1916 (n := n) (xs := xs) rfl ex4 ?_
  refine tq_xload (M := mL_law b n xs) (pc := 1917) dL_law_1917 rfl ?_
  refine tq_iload (M := mL_law b n xs) (pc := 1918) dL_law_1918 rfl ?_
  refine tq_iconst (M := mL_law b n xs) (pc := 1920) dL_law_1920 tk_ki_2 ?_
  refine tq_iadd (M := mL_law b n xs) (pc := 1921) dL_law_1921 ?_
  obtain ⟨x5, ex5, hf⟩ := tq_be hf
  refine tq_xld (M := mL_law b n xs) (pc := 1922) dL_law_1922 (n := n) (xs := xs) rfl ex5 ?_
  obtain ⟨⟨⟩, eu7, hf⟩ := tq_be hf
  obtain ⟨fsu7, eu7⟩ := tq_is_s eu7
  obtain ⟨v6, ev6, hf⟩ := tq_be hf
  refine tq_calV (M := mL_law b n xs) (pc := 1923) (S := []) tk_y_X11_found tk_v_X11_found tk_RL_278 dL_law_1923 [.int x4, .int x5] rfl (S0 := _) rfl eu7 rfl (Nat.le_of_ble_eq_true rfl) (d1 := d - 1) (b1 := 0) (s1 := 0) (bc' := (0 + bc)) (bs' := (0 + bs)) (Q1 := fun r h9 => r = .inl (some (.int v6.1)) ∧ v6.2 = h9) (by omega) (by omega) (by omega) (w_X11_found (by omega) ev6 (fun _ _ q => q)) (fun E h9 q => nomatch (show (Sum.inr E : tq_R) = Sum.inl _ from q.1)) (fun r9 h9 q => ?_)
  obtain ⟨q1, rfl⟩ := q
  cases (show (Sum.inl r9 : tq_R) = Sum.inl (some (.int v6.1)) from q1)
  refine tq_istore (M := mL_law b n xs) (pc := 1926) dL_law_1926 (L2 := [(6, .int v6.1), (5, .int v3.1), (0, .retAddr b), (1, .ref i1), (2, .ref i2), (3, .ref i3), (4, .int y4)]) (Nat.le_of_ble_eq_true rfl) rfl ?_
  refine tq_aload_n (M := mL_law b n xs) (pc := 1928) dL_law_1928 rfl ?_
  obtain ⟨⟨⟩, eu9, hf⟩ := tq_be hf
  obtain ⟨fsu9, eu9⟩ := tq_is_s eu9
  obtain ⟨v8, ev8, hf⟩ := tq_be hf
  refine tq_calV (M := mL_law b n xs) (pc := 1929) (S := []) tk_y_X11_thrown tk_v_X11_thrown tk_RL_177 dL_law_1929 [] rfl (S0 := _) rfl eu9 rfl (Nat.le_of_ble_eq_true rfl) (d1 := d - 1) (b1 := 0) (s1 := 0) (bc' := (0 + bc)) (bs' := (0 + bs)) (Q1 := fun r h9 => r = .inl (some (.int v8)) ∧ v6.2 = h9) (by omega) (by omega) (by omega) (w_X11_thrown (by omega) ev8 (fun _ _ q => q)) (fun E h9 q => nomatch (show (Sum.inr E : tq_R) = Sum.inl _ from q.1)) (fun r9 h9 q => ?_)
  obtain ⟨q1, rfl⟩ := q
  cases (show (Sum.inl r9 : tq_R) = Sum.inl (some (.int v8)) from q1)
  refine tq_iload (M := mL_law b n xs) (pc := 1932) dL_law_1932 rfl ?_
  refine tq_icmp_eq (M := mL_law b n xs) (pc := 1934) (tgt := 1939) dL_law_1934 (by decide) (fun cc => ?_) (fun cc => ?_)
  · have hf := tq_ifp hf cc
    refine tq_iload (M := mL_law b n xs) (pc := 1939) dL_law_1939 rfl ?_
    refine tq_if_ne (M := mL_law b n xs) (pc := 1941) (tgt := 1956) dL_law_1941 (by decide) (fun cc => ?_) (fun cc => ?_)
    · have hf := tq_ifn hf cc
      refine tq_goto (M := mL_law b n xs) (pc := 1956) (tgt := 3605) dL_law_1956 (by decide) ?_
      obtain ⟨x10, ex10, hf⟩ := tq_le hf
      refine tq_iinc (M := mL_law b n xs) (pc := 3605) (v := x10) (L2 := [(4, .int x10), (6, .int v6.1), (5, .int v3.1), (0, .retAddr b), (1, .ref i1), (2, .ref i2), (3, .ref i3)]) dL_law_3605 rfl (by rw [ex10, tk_ki_5]) (Nat.le_of_ble_eq_true rfl) rfl ?_
      refine tq_goto (M := mL_law b n xs) (pc := 3608) (tgt := 23) dL_law_3608 (by decide) ?_
      refine tq_pick (L2 := [(0, .retAddr b), (1, .ref i1), (2, .ref i2), (3, .ref i3), (4, .int x10)]) [3, 4, 5, 6, 0] rfl ?_
      cases (Option.some.inj hf)
      exact tq_more (by omega) (by omega) (hc _ rfl)
    · have hf := tq_ifp hf cc
      refine tq_aload_n (M := mL_law b n xs) (pc := 1944) dL_law_1944 rfl ?_
      refine tq_iconst (M := mL_law b n xs) (pc := 1945) dL_law_1945 tk_ki_0 ?_
      obtain ⟨x11, ex11, hf⟩ := tq_be hf
      refine tq_laldF (M := mL_law b n xs) (pc := 1946) dL_law_1946 ex11 ?_
      refine tq_iload (M := mL_law b n xs) (pc := 1947) dL_law_1947 rfl ?_
      refine tq_i2l (M := mL_law b n xs) (pc := 1949) dL_law_1949 ?_
      refine tq_lcmp (M := mL_law b n xs) (pc := 1950) dL_law_1950 ?_
      refine tq_if_eq (M := mL_law b n xs) (pc := 1951) (tgt := 1956) dL_law_1951 (by decide) (fun cc => ?_) (fun cc => ?_)
      · have hf := tq_ifp hf cc
        refine tq_goto (M := mL_law b n xs) (pc := 1956) (tgt := 3605) dL_law_1956 (by decide) ?_
        obtain ⟨x12, ex12, hf⟩ := tq_le hf
        refine tq_iinc (M := mL_law b n xs) (pc := 3605) (v := x12) (L2 := [(4, .int x12), (6, .int v6.1), (5, .int v3.1), (0, .retAddr b), (1, .ref i1), (2, .ref i2), (3, .ref i3)]) dL_law_3605 rfl (by rw [ex12, tk_ki_5]) (Nat.le_of_ble_eq_true rfl) rfl ?_
        refine tq_goto (M := mL_law b n xs) (pc := 3608) (tgt := 23) dL_law_3608 (by decide) ?_
        refine tq_pick (L2 := [(0, .retAddr b), (1, .ref i1), (2, .ref i2), (3, .ref i3), (4, .int x12)]) [3, 4, 5, 6, 0] rfl ?_
        cases (Option.some.inj hf)
        exact tq_more (by omega) (by omega) (hc _ rfl)
      · have hf := tq_ifn hf cc
        refine tq_iconst (M := mL_law b n xs) (pc := 1954) dL_law_1954 tk_ki_0 ?_
        refine tq_zret (M := mL_law b n xs) (pc := 1955) dL_law_1955 rfl (Or.inl rfl) ?_
        cases (Option.some.inj hf)
        exact hx _ rfl
  · have hf := tq_ifn hf cc
    refine tq_iconst (M := mL_law b n xs) (pc := 1937) dL_law_1937 tk_ki_0 ?_
    refine tq_zret (M := mL_law b n xs) (pc := 1938) dL_law_1938 rfl (Or.inl rfl) ?_
    cases (Option.some.inj hf)
    exact hx _ rfl
def f_L_law_c1959 (n : Nat) (xs : Nat → Int32) (i1 i2 i3 : Nat) (y4 : Int32) (hh : tq_H) : Option ((Int32 × tq_H) ⊕ (Int32 × tq_H)) :=
  (tq_sx n xs (y4 + (1 : Int32))).bind fun x1 =>
  (tq_sx n xs (y4 + (2 : Int32))).bind fun x2 =>
  (f_L_foundAnew i1 x1 x2 i3 hh).bind fun v3 =>
  (tq_sx n xs (y4 + (1 : Int32))).bind fun x4 =>
  (tq_sx n xs (y4 + (2 : Int32))).bind fun x5 =>
  (tq_is v3.2 i2 11).bind fun _ =>
  (f_X11_foundAnew i2 x4 x5 v3.2).bind fun v6 =>
  (tq_is v6.2 i2 11).bind fun _ =>
  (f_X11_thrown i2 v6.2).bind fun v8 =>
  if v8 = v3.1 then
    if v3.1 = 0 then
      (tq_aj v6.2 i3 (0 : Int32)).bind fun x11 =>
      if (lg_cmp x11 (v6.1).toInt64) = 0 then
        tq_let (y4 + (5 : Int32)) fun x12 =>
        some (.inl (x12, v6.2))
      else
        some (.inr ((0 : Int32), v6.2))
    else
      tq_let (y4 + (5 : Int32)) fun x10 =>
      some (.inl (x10, v6.2))
  else
    some (.inr ((0 : Int32), v6.2))
set_option maxHeartbeats 4000000 in
set_option maxRecDepth 20000 in
theorem c_L_law_1959 {l : Launch} {d : Nat} (hd9 : 10 ≤ d) {b n : Nat} {xs : Nat → Int32} {i1 i2 i3 : Nat} {y4 : Int32} {hh : tq_H} {Q : tq_R → tq_H → Prop} {bc bs : Nat} {oo : (Int32 × tq_H) ⊕ (Int32 × tq_H)} (hf : f_L_law_c1959 n xs i1 i2 i3 y4 hh = some oo) (hc : ∀ s9, oo = .inl s9 → tq_W l (mL_law b n xs) d bc bs Q 23 [(0, .retAddr b), (1, .ref i1), (2, .ref i2), (3, .ref i3), (4, .int s9.1)] [] s9.2) (hx : ∀ e9, oo = .inr e9 → Q (.inl (some (.int e9.1))) e9.2) : tq_W l (mL_law b n xs) d (3 + bc) (18 + bs) Q 1959 [(0, .retAddr b), (1, .ref i1), (2, .ref i2), (3, .ref i3), (4, .int y4)] [] hh := by
  refine tq_aload_n (M := mL_law b n xs) (pc := 1959) dL_law_1959 rfl ?_
  refine tq_xload (M := mL_law b n xs) (pc := 1960) dL_law_1960 rfl ?_
  refine tq_iload (M := mL_law b n xs) (pc := 1961) dL_law_1961 rfl ?_
  refine tq_iconst (M := mL_law b n xs) (pc := 1963) dL_law_1963 tk_ki_1 ?_
  refine tq_iadd (M := mL_law b n xs) (pc := 1964) dL_law_1964 ?_
  obtain ⟨x1, ex1, hf⟩ := tq_be hf
  refine tq_xld (M := mL_law b n xs) (pc := 1965) dL_law_1965 (n := n) (xs := xs) rfl ex1 ?_
  refine tq_xload (M := mL_law b n xs) (pc := 1966) dL_law_1966 rfl ?_
  refine tq_iload (M := mL_law b n xs) (pc := 1967) dL_law_1967 rfl ?_
  refine tq_iconst (M := mL_law b n xs) (pc := 1969) dL_law_1969 tk_ki_2 ?_
  refine tq_iadd (M := mL_law b n xs) (pc := 1970) dL_law_1970 ?_
  obtain ⟨x2, ex2, hf⟩ := tq_be hf
  refine tq_xld (M := mL_law b n xs) (pc := 1971) dL_law_1971 (n := n) (xs := xs) rfl ex2 ?_
  refine tq_aload_n (M := mL_law b n xs) (pc := 1972) dL_law_1972 rfl ?_
  obtain ⟨v3, ev3, hf⟩ := tq_be hf
  refine tq_calSW (M := mL_law b n xs) (pc := 1973) (S := []) tk_w_L_foundAnew.1 tk_w_L_foundAnew.2.1 tk_w_L_foundAnew.2.2.1 tk_w_L_foundAnew.2.2.2.1 tk_w_L_foundAnew.2.2.2.2 tk_s_L_foundAnew tk_RL_279 dL_law_1973 [.ref i1, .int x1, .int x2, .ref i3] rfl (Nat.le_of_ble_eq_true rfl) (d1 := d - 1) (b1 := 3) (s1 := 18) (bc' := (0 + bc)) (bs' := (0 + bs)) (Q1 := fun r h9 => r = .inl (some (.int v3.1)) ∧ v3.2 = h9) (by omega) (by omega) (by omega) (w_L_foundAnew (by omega) ev3 (fun _ _ q => q)) (fun E h9 q => nomatch (show (Sum.inr E : tq_R) = Sum.inl _ from q.1)) (fun r9 h9 q => ?_)
  obtain ⟨q1, rfl⟩ := q
  cases (show (Sum.inl r9 : tq_R) = Sum.inl (some (.int v3.1)) from q1)
  refine tq_istore (M := mL_law b n xs) (pc := 1976) dL_law_1976 (L2 := [(5, .int v3.1), (0, .retAddr b), (1, .ref i1), (2, .ref i2), (3, .ref i3), (4, .int y4)]) (Nat.le_of_ble_eq_true rfl) rfl ?_
  refine tq_aload_n (M := mL_law b n xs) (pc := 1978) dL_law_1978 rfl ?_
  refine tq_xload (M := mL_law b n xs) (pc := 1979) dL_law_1979 rfl ?_
  refine tq_iload (M := mL_law b n xs) (pc := 1980) dL_law_1980 rfl ?_
  refine tq_iconst (M := mL_law b n xs) (pc := 1982) dL_law_1982 tk_ki_1 ?_
  refine tq_iadd (M := mL_law b n xs) (pc := 1983) dL_law_1983 ?_
  obtain ⟨x4, ex4, hf⟩ := tq_be hf
  refine tq_xld (M := mL_law b n xs) (pc := 1984) dL_law_1984 (n := n) (xs := xs) rfl ex4 ?_
  refine tq_xload (M := mL_law b n xs) (pc := 1985) dL_law_1985 rfl ?_
  refine tq_iload (M := mL_law b n xs) (pc := 1986) dL_law_1986 rfl ?_
  refine tq_iconst (M := mL_law b n xs) (pc := 1988) dL_law_1988 tk_ki_2 ?_
  refine tq_iadd (M := mL_law b n xs) (pc := 1989) dL_law_1989 ?_
  obtain ⟨x5, ex5, hf⟩ := tq_be hf
  refine tq_xld (M := mL_law b n xs) (pc := 1990) dL_law_1990 (n := n) (xs := xs) rfl ex5 ?_
  obtain ⟨⟨⟩, eu7, hf⟩ := tq_be hf
  obtain ⟨fsu7, eu7⟩ := tq_is_s eu7
  obtain ⟨v6, ev6, hf⟩ := tq_be hf
  refine tq_calV (M := mL_law b n xs) (pc := 1991) (S := []) tk_y_X11_foundAnew tk_v_X11_foundAnew tk_RL_281 dL_law_1991 [.int x4, .int x5] rfl (S0 := _) rfl eu7 rfl (Nat.le_of_ble_eq_true rfl) (d1 := d - 1) (b1 := 0) (s1 := 0) (bc' := (0 + bc)) (bs' := (0 + bs)) (Q1 := fun r h9 => r = .inl (some (.int v6.1)) ∧ v6.2 = h9) (by omega) (by omega) (by omega) (w_X11_foundAnew (by omega) ev6 (fun _ _ q => q)) (fun E h9 q => nomatch (show (Sum.inr E : tq_R) = Sum.inl _ from q.1)) (fun r9 h9 q => ?_)
  obtain ⟨q1, rfl⟩ := q
  cases (show (Sum.inl r9 : tq_R) = Sum.inl (some (.int v6.1)) from q1)
  refine tq_istore (M := mL_law b n xs) (pc := 1994) dL_law_1994 (L2 := [(6, .int v6.1), (5, .int v3.1), (0, .retAddr b), (1, .ref i1), (2, .ref i2), (3, .ref i3), (4, .int y4)]) (Nat.le_of_ble_eq_true rfl) rfl ?_
  refine tq_aload_n (M := mL_law b n xs) (pc := 1996) dL_law_1996 rfl ?_
  obtain ⟨⟨⟩, eu9, hf⟩ := tq_be hf
  obtain ⟨fsu9, eu9⟩ := tq_is_s eu9
  obtain ⟨v8, ev8, hf⟩ := tq_be hf
  refine tq_calV (M := mL_law b n xs) (pc := 1997) (S := []) tk_y_X11_thrown tk_v_X11_thrown tk_RL_177 dL_law_1997 [] rfl (S0 := _) rfl eu9 rfl (Nat.le_of_ble_eq_true rfl) (d1 := d - 1) (b1 := 0) (s1 := 0) (bc' := (0 + bc)) (bs' := (0 + bs)) (Q1 := fun r h9 => r = .inl (some (.int v8)) ∧ v6.2 = h9) (by omega) (by omega) (by omega) (w_X11_thrown (by omega) ev8 (fun _ _ q => q)) (fun E h9 q => nomatch (show (Sum.inr E : tq_R) = Sum.inl _ from q.1)) (fun r9 h9 q => ?_)
  obtain ⟨q1, rfl⟩ := q
  cases (show (Sum.inl r9 : tq_R) = Sum.inl (some (.int v8)) from q1)
  refine tq_iload (M := mL_law b n xs) (pc := 2000) dL_law_2000 rfl ?_
  refine tq_icmp_eq (M := mL_law b n xs) (pc := 2002) (tgt := 2007) dL_law_2002 (by decide) (fun cc => ?_) (fun cc => ?_)
  · have hf := tq_ifp hf cc
    refine tq_iload (M := mL_law b n xs) (pc := 2007) dL_law_2007 rfl ?_
    refine tq_if_ne (M := mL_law b n xs) (pc := 2009) (tgt := 2024) dL_law_2009 (by decide) (fun cc => ?_) (fun cc => ?_)
    · have hf := tq_ifn hf cc
      refine tq_goto (M := mL_law b n xs) (pc := 2024) (tgt := 3605) dL_law_2024 (by decide) ?_
      obtain ⟨x10, ex10, hf⟩ := tq_le hf
      refine tq_iinc (M := mL_law b n xs) (pc := 3605) (v := x10) (L2 := [(4, .int x10), (6, .int v6.1), (5, .int v3.1), (0, .retAddr b), (1, .ref i1), (2, .ref i2), (3, .ref i3)]) dL_law_3605 rfl (by rw [ex10, tk_ki_5]) (Nat.le_of_ble_eq_true rfl) rfl ?_
      refine tq_goto (M := mL_law b n xs) (pc := 3608) (tgt := 23) dL_law_3608 (by decide) ?_
      refine tq_pick (L2 := [(0, .retAddr b), (1, .ref i1), (2, .ref i2), (3, .ref i3), (4, .int x10)]) [3, 4, 5, 6, 0] rfl ?_
      cases (Option.some.inj hf)
      exact tq_more (by omega) (by omega) (hc _ rfl)
    · have hf := tq_ifp hf cc
      refine tq_aload_n (M := mL_law b n xs) (pc := 2012) dL_law_2012 rfl ?_
      refine tq_iconst (M := mL_law b n xs) (pc := 2013) dL_law_2013 tk_ki_0 ?_
      obtain ⟨x11, ex11, hf⟩ := tq_be hf
      refine tq_laldF (M := mL_law b n xs) (pc := 2014) dL_law_2014 ex11 ?_
      refine tq_iload (M := mL_law b n xs) (pc := 2015) dL_law_2015 rfl ?_
      refine tq_i2l (M := mL_law b n xs) (pc := 2017) dL_law_2017 ?_
      refine tq_lcmp (M := mL_law b n xs) (pc := 2018) dL_law_2018 ?_
      refine tq_if_eq (M := mL_law b n xs) (pc := 2019) (tgt := 2024) dL_law_2019 (by decide) (fun cc => ?_) (fun cc => ?_)
      · have hf := tq_ifp hf cc
        refine tq_goto (M := mL_law b n xs) (pc := 2024) (tgt := 3605) dL_law_2024 (by decide) ?_
        obtain ⟨x12, ex12, hf⟩ := tq_le hf
        refine tq_iinc (M := mL_law b n xs) (pc := 3605) (v := x12) (L2 := [(4, .int x12), (6, .int v6.1), (5, .int v3.1), (0, .retAddr b), (1, .ref i1), (2, .ref i2), (3, .ref i3)]) dL_law_3605 rfl (by rw [ex12, tk_ki_5]) (Nat.le_of_ble_eq_true rfl) rfl ?_
        refine tq_goto (M := mL_law b n xs) (pc := 3608) (tgt := 23) dL_law_3608 (by decide) ?_
        refine tq_pick (L2 := [(0, .retAddr b), (1, .ref i1), (2, .ref i2), (3, .ref i3), (4, .int x12)]) [3, 4, 5, 6, 0] rfl ?_
        cases (Option.some.inj hf)
        exact tq_more (by omega) (by omega) (hc _ rfl)
      · have hf := tq_ifn hf cc
        refine tq_iconst (M := mL_law b n xs) (pc := 2022) dL_law_2022 tk_ki_0 ?_
        refine tq_zret (M := mL_law b n xs) (pc := 2023) dL_law_2023 rfl (Or.inl rfl) ?_
        cases (Option.some.inj hf)
        exact hx _ rfl
  · have hf := tq_ifn hf cc
    refine tq_iconst (M := mL_law b n xs) (pc := 2005) dL_law_2005 tk_ki_0 ?_
    refine tq_zret (M := mL_law b n xs) (pc := 2006) dL_law_2006 rfl (Or.inl rfl) ?_
    cases (Option.some.inj hf)
    exact hx _ rfl
def f_L_law_c2027 (n : Nat) (xs : Nat → Int32) (i1 i2 i3 : Nat) (y4 : Int32) (hh : tq_H) : Option ((Int32 × tq_H) ⊕ (Int32 × tq_H)) :=
  (tq_sx n xs (y4 + (1 : Int32))).bind fun x1 =>
  (tq_sx n xs (y4 + (2 : Int32))).bind fun x2 =>
  (f_L_foundAt i1 x1 x2 i3 hh).bind fun v3 =>
  (tq_sx n xs (y4 + (1 : Int32))).bind fun x4 =>
  (tq_sx n xs (y4 + (2 : Int32))).bind fun x5 =>
  (tq_is v3.2 i2 11).bind fun _ =>
  (f_X11_foundAt i2 x4 x5 v3.2).bind fun v6 =>
  (tq_is v6.2 i2 11).bind fun _ =>
  (f_X11_thrown i2 v6.2).bind fun v8 =>
  if v8 = v3.1 then
    if v3.1 = 0 then
      (tq_aj v6.2 i3 (0 : Int32)).bind fun x11 =>
      if (lg_cmp x11 (v6.1).toInt64) = 0 then
        tq_let (y4 + (5 : Int32)) fun x12 =>
        some (.inl (x12, v6.2))
      else
        some (.inr ((0 : Int32), v6.2))
    else
      tq_let (y4 + (5 : Int32)) fun x10 =>
      some (.inl (x10, v6.2))
  else
    some (.inr ((0 : Int32), v6.2))
set_option maxHeartbeats 4000000 in
set_option maxRecDepth 20000 in
theorem c_L_law_2027 {l : Launch} {d : Nat} (hd9 : 10 ≤ d) {b n : Nat} {xs : Nat → Int32} {i1 i2 i3 : Nat} {y4 : Int32} {hh : tq_H} {Q : tq_R → tq_H → Prop} {bc bs : Nat} {oo : (Int32 × tq_H) ⊕ (Int32 × tq_H)} (hf : f_L_law_c2027 n xs i1 i2 i3 y4 hh = some oo) (hc : ∀ s9, oo = .inl s9 → tq_W l (mL_law b n xs) d bc bs Q 23 [(0, .retAddr b), (1, .ref i1), (2, .ref i2), (3, .ref i3), (4, .int s9.1)] [] s9.2) (hx : ∀ e9, oo = .inr e9 → Q (.inl (some (.int e9.1))) e9.2) : tq_W l (mL_law b n xs) d (2 + bc) (12 + bs) Q 2027 [(0, .retAddr b), (1, .ref i1), (2, .ref i2), (3, .ref i3), (4, .int y4)] [] hh := by
  refine tq_aload_n (M := mL_law b n xs) (pc := 2027) dL_law_2027 rfl ?_
  refine tq_xload (M := mL_law b n xs) (pc := 2028) dL_law_2028 rfl ?_
  refine tq_iload (M := mL_law b n xs) (pc := 2029) dL_law_2029 rfl ?_
  refine tq_iconst (M := mL_law b n xs) (pc := 2031) dL_law_2031 tk_ki_1 ?_
  refine tq_iadd (M := mL_law b n xs) (pc := 2032) dL_law_2032 ?_
  obtain ⟨x1, ex1, hf⟩ := tq_be hf
  refine tq_xld (M := mL_law b n xs) (pc := 2033) dL_law_2033 (n := n) (xs := xs) rfl ex1 ?_
  refine tq_xload (M := mL_law b n xs) (pc := 2034) dL_law_2034 rfl ?_
  refine tq_iload (M := mL_law b n xs) (pc := 2035) dL_law_2035 rfl ?_
  refine tq_iconst (M := mL_law b n xs) (pc := 2037) dL_law_2037 tk_ki_2 ?_
  refine tq_iadd (M := mL_law b n xs) (pc := 2038) dL_law_2038 ?_
  obtain ⟨x2, ex2, hf⟩ := tq_be hf
  refine tq_xld (M := mL_law b n xs) (pc := 2039) dL_law_2039 (n := n) (xs := xs) rfl ex2 ?_
  refine tq_aload_n (M := mL_law b n xs) (pc := 2040) dL_law_2040 rfl ?_
  obtain ⟨v3, ev3, hf⟩ := tq_be hf
  refine tq_calSW (M := mL_law b n xs) (pc := 2041) (S := []) tk_w_L_foundAt.1 tk_w_L_foundAt.2.1 tk_w_L_foundAt.2.2.1 tk_w_L_foundAt.2.2.2.1 tk_w_L_foundAt.2.2.2.2 tk_s_L_foundAt tk_RL_282 dL_law_2041 [.ref i1, .int x1, .int x2, .ref i3] rfl (Nat.le_of_ble_eq_true rfl) (d1 := d - 1) (b1 := 2) (s1 := 12) (bc' := (0 + bc)) (bs' := (0 + bs)) (Q1 := fun r h9 => r = .inl (some (.int v3.1)) ∧ v3.2 = h9) (by omega) (by omega) (by omega) (w_L_foundAt (by omega) ev3 (fun _ _ q => q)) (fun E h9 q => nomatch (show (Sum.inr E : tq_R) = Sum.inl _ from q.1)) (fun r9 h9 q => ?_)
  obtain ⟨q1, rfl⟩ := q
  cases (show (Sum.inl r9 : tq_R) = Sum.inl (some (.int v3.1)) from q1)
  refine tq_istore (M := mL_law b n xs) (pc := 2044) dL_law_2044 (L2 := [(5, .int v3.1), (0, .retAddr b), (1, .ref i1), (2, .ref i2), (3, .ref i3), (4, .int y4)]) (Nat.le_of_ble_eq_true rfl) rfl ?_
  refine tq_aload_n (M := mL_law b n xs) (pc := 2046) dL_law_2046 rfl ?_
  refine tq_xload (M := mL_law b n xs) (pc := 2047) dL_law_2047 rfl ?_
  refine tq_iload (M := mL_law b n xs) (pc := 2048) dL_law_2048 rfl ?_
  refine tq_iconst (M := mL_law b n xs) (pc := 2050) dL_law_2050 tk_ki_1 ?_
  refine tq_iadd (M := mL_law b n xs) (pc := 2051) dL_law_2051 ?_
  obtain ⟨x4, ex4, hf⟩ := tq_be hf
  refine tq_xld (M := mL_law b n xs) (pc := 2052) dL_law_2052 (n := n) (xs := xs) rfl ex4 ?_
  refine tq_xload (M := mL_law b n xs) (pc := 2053) dL_law_2053 rfl ?_
  refine tq_iload (M := mL_law b n xs) (pc := 2054) dL_law_2054 rfl ?_
  refine tq_iconst (M := mL_law b n xs) (pc := 2056) dL_law_2056 tk_ki_2 ?_
  refine tq_iadd (M := mL_law b n xs) (pc := 2057) dL_law_2057 ?_
  obtain ⟨x5, ex5, hf⟩ := tq_be hf
  refine tq_xld (M := mL_law b n xs) (pc := 2058) dL_law_2058 (n := n) (xs := xs) rfl ex5 ?_
  obtain ⟨⟨⟩, eu7, hf⟩ := tq_be hf
  obtain ⟨fsu7, eu7⟩ := tq_is_s eu7
  obtain ⟨v6, ev6, hf⟩ := tq_be hf
  refine tq_calV (M := mL_law b n xs) (pc := 2059) (S := []) tk_y_X11_foundAt tk_v_X11_foundAt tk_RL_284 dL_law_2059 [.int x4, .int x5] rfl (S0 := _) rfl eu7 rfl (Nat.le_of_ble_eq_true rfl) (d1 := d - 1) (b1 := 0) (s1 := 0) (bc' := (0 + bc)) (bs' := (0 + bs)) (Q1 := fun r h9 => r = .inl (some (.int v6.1)) ∧ v6.2 = h9) (by omega) (by omega) (by omega) (w_X11_foundAt (by omega) ev6 (fun _ _ q => q)) (fun E h9 q => nomatch (show (Sum.inr E : tq_R) = Sum.inl _ from q.1)) (fun r9 h9 q => ?_)
  obtain ⟨q1, rfl⟩ := q
  cases (show (Sum.inl r9 : tq_R) = Sum.inl (some (.int v6.1)) from q1)
  refine tq_istore (M := mL_law b n xs) (pc := 2062) dL_law_2062 (L2 := [(6, .int v6.1), (5, .int v3.1), (0, .retAddr b), (1, .ref i1), (2, .ref i2), (3, .ref i3), (4, .int y4)]) (Nat.le_of_ble_eq_true rfl) rfl ?_
  refine tq_aload_n (M := mL_law b n xs) (pc := 2064) dL_law_2064 rfl ?_
  obtain ⟨⟨⟩, eu9, hf⟩ := tq_be hf
  obtain ⟨fsu9, eu9⟩ := tq_is_s eu9
  obtain ⟨v8, ev8, hf⟩ := tq_be hf
  refine tq_calV (M := mL_law b n xs) (pc := 2065) (S := []) tk_y_X11_thrown tk_v_X11_thrown tk_RL_177 dL_law_2065 [] rfl (S0 := _) rfl eu9 rfl (Nat.le_of_ble_eq_true rfl) (d1 := d - 1) (b1 := 0) (s1 := 0) (bc' := (0 + bc)) (bs' := (0 + bs)) (Q1 := fun r h9 => r = .inl (some (.int v8)) ∧ v6.2 = h9) (by omega) (by omega) (by omega) (w_X11_thrown (by omega) ev8 (fun _ _ q => q)) (fun E h9 q => nomatch (show (Sum.inr E : tq_R) = Sum.inl _ from q.1)) (fun r9 h9 q => ?_)
  obtain ⟨q1, rfl⟩ := q
  cases (show (Sum.inl r9 : tq_R) = Sum.inl (some (.int v8)) from q1)
  refine tq_iload (M := mL_law b n xs) (pc := 2068) dL_law_2068 rfl ?_
  refine tq_icmp_eq (M := mL_law b n xs) (pc := 2070) (tgt := 2075) dL_law_2070 (by decide) (fun cc => ?_) (fun cc => ?_)
  · have hf := tq_ifp hf cc
    refine tq_iload (M := mL_law b n xs) (pc := 2075) dL_law_2075 rfl ?_
    refine tq_if_ne (M := mL_law b n xs) (pc := 2077) (tgt := 2092) dL_law_2077 (by decide) (fun cc => ?_) (fun cc => ?_)
    · have hf := tq_ifn hf cc
      refine tq_goto (M := mL_law b n xs) (pc := 2092) (tgt := 3605) dL_law_2092 (by decide) ?_
      obtain ⟨x10, ex10, hf⟩ := tq_le hf
      refine tq_iinc (M := mL_law b n xs) (pc := 3605) (v := x10) (L2 := [(4, .int x10), (6, .int v6.1), (5, .int v3.1), (0, .retAddr b), (1, .ref i1), (2, .ref i2), (3, .ref i3)]) dL_law_3605 rfl (by rw [ex10, tk_ki_5]) (Nat.le_of_ble_eq_true rfl) rfl ?_
      refine tq_goto (M := mL_law b n xs) (pc := 3608) (tgt := 23) dL_law_3608 (by decide) ?_
      refine tq_pick (L2 := [(0, .retAddr b), (1, .ref i1), (2, .ref i2), (3, .ref i3), (4, .int x10)]) [3, 4, 5, 6, 0] rfl ?_
      cases (Option.some.inj hf)
      exact tq_more (by omega) (by omega) (hc _ rfl)
    · have hf := tq_ifp hf cc
      refine tq_aload_n (M := mL_law b n xs) (pc := 2080) dL_law_2080 rfl ?_
      refine tq_iconst (M := mL_law b n xs) (pc := 2081) dL_law_2081 tk_ki_0 ?_
      obtain ⟨x11, ex11, hf⟩ := tq_be hf
      refine tq_laldF (M := mL_law b n xs) (pc := 2082) dL_law_2082 ex11 ?_
      refine tq_iload (M := mL_law b n xs) (pc := 2083) dL_law_2083 rfl ?_
      refine tq_i2l (M := mL_law b n xs) (pc := 2085) dL_law_2085 ?_
      refine tq_lcmp (M := mL_law b n xs) (pc := 2086) dL_law_2086 ?_
      refine tq_if_eq (M := mL_law b n xs) (pc := 2087) (tgt := 2092) dL_law_2087 (by decide) (fun cc => ?_) (fun cc => ?_)
      · have hf := tq_ifp hf cc
        refine tq_goto (M := mL_law b n xs) (pc := 2092) (tgt := 3605) dL_law_2092 (by decide) ?_
        obtain ⟨x12, ex12, hf⟩ := tq_le hf
        refine tq_iinc (M := mL_law b n xs) (pc := 3605) (v := x12) (L2 := [(4, .int x12), (6, .int v6.1), (5, .int v3.1), (0, .retAddr b), (1, .ref i1), (2, .ref i2), (3, .ref i3)]) dL_law_3605 rfl (by rw [ex12, tk_ki_5]) (Nat.le_of_ble_eq_true rfl) rfl ?_
        refine tq_goto (M := mL_law b n xs) (pc := 3608) (tgt := 23) dL_law_3608 (by decide) ?_
        refine tq_pick (L2 := [(0, .retAddr b), (1, .ref i1), (2, .ref i2), (3, .ref i3), (4, .int x12)]) [3, 4, 5, 6, 0] rfl ?_
        cases (Option.some.inj hf)
        exact tq_more (by omega) (by omega) (hc _ rfl)
      · have hf := tq_ifn hf cc
        refine tq_iconst (M := mL_law b n xs) (pc := 2090) dL_law_2090 tk_ki_0 ?_
        refine tq_zret (M := mL_law b n xs) (pc := 2091) dL_law_2091 rfl (Or.inl rfl) ?_
        cases (Option.some.inj hf)
        exact hx _ rfl
  · have hf := tq_ifn hf cc
    refine tq_iconst (M := mL_law b n xs) (pc := 2073) dL_law_2073 tk_ki_0 ?_
    refine tq_zret (M := mL_law b n xs) (pc := 2074) dL_law_2074 rfl (Or.inl rfl) ?_
    cases (Option.some.inj hf)
    exact hx _ rfl
def f_L_law_c2095 (n : Nat) (xs : Nat → Int32) (i1 i2 i3 : Nat) (y4 : Int32) (hh : tq_H) : Option ((Int32 × tq_H) ⊕ (Int32 × tq_H)) :=
  (tq_sx n xs (y4 + (1 : Int32))).bind fun x1 =>
  (tq_sx n xs (y4 + (2 : Int32))).bind fun x2 =>
  (f_L_ordered i1 x1 x2 i3 hh).bind fun v3 =>
  (tq_sx n xs (y4 + (1 : Int32))).bind fun x4 =>
  (tq_sx n xs (y4 + (2 : Int32))).bind fun x5 =>
  (tq_is v3.2 i2 11).bind fun _ =>
  (f_X11_ordered i2 x4 x5 v3.2).bind fun v6 =>
  (tq_is v6.2 i2 11).bind fun _ =>
  (f_X11_thrown i2 v6.2).bind fun v8 =>
  if v8 = v3.1 then
    if v3.1 = 0 then
      (tq_aj v6.2 i3 (0 : Int32)).bind fun x11 =>
      if (lg_cmp x11 (v6.1).toInt64) = 0 then
        tq_let (y4 + (5 : Int32)) fun x12 =>
        some (.inl (x12, v6.2))
      else
        some (.inr ((0 : Int32), v6.2))
    else
      tq_let (y4 + (5 : Int32)) fun x10 =>
      some (.inl (x10, v6.2))
  else
    some (.inr ((0 : Int32), v6.2))
set_option maxHeartbeats 4000000 in
set_option maxRecDepth 20000 in
theorem c_L_law_2095 {l : Launch} {d : Nat} (hd9 : 10 ≤ d) {b n : Nat} {xs : Nat → Int32} {i1 i2 i3 : Nat} {y4 : Int32} {hh : tq_H} {Q : tq_R → tq_H → Prop} {bc bs : Nat} {oo : (Int32 × tq_H) ⊕ (Int32 × tq_H)} (hf : f_L_law_c2095 n xs i1 i2 i3 y4 hh = some oo) (hc : ∀ s9, oo = .inl s9 → tq_W l (mL_law b n xs) d bc bs Q 23 [(0, .retAddr b), (1, .ref i1), (2, .ref i2), (3, .ref i3), (4, .int s9.1)] [] s9.2) (hx : ∀ e9, oo = .inr e9 → Q (.inl (some (.int e9.1))) e9.2) : tq_W l (mL_law b n xs) d (2 + bc) (12 + bs) Q 2095 [(0, .retAddr b), (1, .ref i1), (2, .ref i2), (3, .ref i3), (4, .int y4)] [] hh := by
  refine tq_aload_n (M := mL_law b n xs) (pc := 2095) dL_law_2095 rfl ?_
  refine tq_xload (M := mL_law b n xs) (pc := 2096) dL_law_2096 rfl ?_
  refine tq_iload (M := mL_law b n xs) (pc := 2097) dL_law_2097 rfl ?_
  refine tq_iconst (M := mL_law b n xs) (pc := 2099) dL_law_2099 tk_ki_1 ?_
  refine tq_iadd (M := mL_law b n xs) (pc := 2100) dL_law_2100 ?_
  obtain ⟨x1, ex1, hf⟩ := tq_be hf
  refine tq_xld (M := mL_law b n xs) (pc := 2101) dL_law_2101 (n := n) (xs := xs) rfl ex1 ?_
  refine tq_xload (M := mL_law b n xs) (pc := 2102) dL_law_2102 rfl ?_
  refine tq_iload (M := mL_law b n xs) (pc := 2103) dL_law_2103 rfl ?_
  refine tq_iconst (M := mL_law b n xs) (pc := 2105) dL_law_2105 tk_ki_2 ?_
  refine tq_iadd (M := mL_law b n xs) (pc := 2106) dL_law_2106 ?_
  obtain ⟨x2, ex2, hf⟩ := tq_be hf
  refine tq_xld (M := mL_law b n xs) (pc := 2107) dL_law_2107 (n := n) (xs := xs) rfl ex2 ?_
  refine tq_aload_n (M := mL_law b n xs) (pc := 2108) dL_law_2108 rfl ?_
  obtain ⟨v3, ev3, hf⟩ := tq_be hf
  refine tq_calSW (M := mL_law b n xs) (pc := 2109) (S := []) tk_w_L_ordered.1 tk_w_L_ordered.2.1 tk_w_L_ordered.2.2.1 tk_w_L_ordered.2.2.2.1 tk_w_L_ordered.2.2.2.2 tk_s_L_ordered tk_RL_285 dL_law_2109 [.ref i1, .int x1, .int x2, .ref i3] rfl (Nat.le_of_ble_eq_true rfl) (d1 := d - 1) (b1 := 2) (s1 := 12) (bc' := (0 + bc)) (bs' := (0 + bs)) (Q1 := fun r h9 => r = .inl (some (.int v3.1)) ∧ v3.2 = h9) (by omega) (by omega) (by omega) (w_L_ordered (by omega) ev3 (fun _ _ q => q)) (fun E h9 q => nomatch (show (Sum.inr E : tq_R) = Sum.inl _ from q.1)) (fun r9 h9 q => ?_)
  obtain ⟨q1, rfl⟩ := q
  cases (show (Sum.inl r9 : tq_R) = Sum.inl (some (.int v3.1)) from q1)
  refine tq_istore (M := mL_law b n xs) (pc := 2112) dL_law_2112 (L2 := [(5, .int v3.1), (0, .retAddr b), (1, .ref i1), (2, .ref i2), (3, .ref i3), (4, .int y4)]) (Nat.le_of_ble_eq_true rfl) rfl ?_
  refine tq_aload_n (M := mL_law b n xs) (pc := 2114) dL_law_2114 rfl ?_
  refine tq_xload (M := mL_law b n xs) (pc := 2115) dL_law_2115 rfl ?_
  refine tq_iload (M := mL_law b n xs) (pc := 2116) dL_law_2116 rfl ?_
  refine tq_iconst (M := mL_law b n xs) (pc := 2118) dL_law_2118 tk_ki_1 ?_
  refine tq_iadd (M := mL_law b n xs) (pc := 2119) dL_law_2119 ?_
  obtain ⟨x4, ex4, hf⟩ := tq_be hf
  refine tq_xld (M := mL_law b n xs) (pc := 2120) dL_law_2120 (n := n) (xs := xs) rfl ex4 ?_
  refine tq_xload (M := mL_law b n xs) (pc := 2121) dL_law_2121 rfl ?_
  refine tq_iload (M := mL_law b n xs) (pc := 2122) dL_law_2122 rfl ?_
  refine tq_iconst (M := mL_law b n xs) (pc := 2124) dL_law_2124 tk_ki_2 ?_
  refine tq_iadd (M := mL_law b n xs) (pc := 2125) dL_law_2125 ?_
  obtain ⟨x5, ex5, hf⟩ := tq_be hf
  refine tq_xld (M := mL_law b n xs) (pc := 2126) dL_law_2126 (n := n) (xs := xs) rfl ex5 ?_
  obtain ⟨⟨⟩, eu7, hf⟩ := tq_be hf
  obtain ⟨fsu7, eu7⟩ := tq_is_s eu7
  obtain ⟨v6, ev6, hf⟩ := tq_be hf
  refine tq_calV (M := mL_law b n xs) (pc := 2127) (S := []) tk_y_X11_ordered tk_v_X11_ordered tk_RL_287 dL_law_2127 [.int x4, .int x5] rfl (S0 := _) rfl eu7 rfl (Nat.le_of_ble_eq_true rfl) (d1 := d - 1) (b1 := 0) (s1 := 0) (bc' := (0 + bc)) (bs' := (0 + bs)) (Q1 := fun r h9 => r = .inl (some (.int v6.1)) ∧ v6.2 = h9) (by omega) (by omega) (by omega) (w_X11_ordered (by omega) ev6 (fun _ _ q => q)) (fun E h9 q => nomatch (show (Sum.inr E : tq_R) = Sum.inl _ from q.1)) (fun r9 h9 q => ?_)
  obtain ⟨q1, rfl⟩ := q
  cases (show (Sum.inl r9 : tq_R) = Sum.inl (some (.int v6.1)) from q1)
  refine tq_istore (M := mL_law b n xs) (pc := 2130) dL_law_2130 (L2 := [(6, .int v6.1), (5, .int v3.1), (0, .retAddr b), (1, .ref i1), (2, .ref i2), (3, .ref i3), (4, .int y4)]) (Nat.le_of_ble_eq_true rfl) rfl ?_
  refine tq_aload_n (M := mL_law b n xs) (pc := 2132) dL_law_2132 rfl ?_
  obtain ⟨⟨⟩, eu9, hf⟩ := tq_be hf
  obtain ⟨fsu9, eu9⟩ := tq_is_s eu9
  obtain ⟨v8, ev8, hf⟩ := tq_be hf
  refine tq_calV (M := mL_law b n xs) (pc := 2133) (S := []) tk_y_X11_thrown tk_v_X11_thrown tk_RL_177 dL_law_2133 [] rfl (S0 := _) rfl eu9 rfl (Nat.le_of_ble_eq_true rfl) (d1 := d - 1) (b1 := 0) (s1 := 0) (bc' := (0 + bc)) (bs' := (0 + bs)) (Q1 := fun r h9 => r = .inl (some (.int v8)) ∧ v6.2 = h9) (by omega) (by omega) (by omega) (w_X11_thrown (by omega) ev8 (fun _ _ q => q)) (fun E h9 q => nomatch (show (Sum.inr E : tq_R) = Sum.inl _ from q.1)) (fun r9 h9 q => ?_)
  obtain ⟨q1, rfl⟩ := q
  cases (show (Sum.inl r9 : tq_R) = Sum.inl (some (.int v8)) from q1)
  refine tq_iload (M := mL_law b n xs) (pc := 2136) dL_law_2136 rfl ?_
  refine tq_icmp_eq (M := mL_law b n xs) (pc := 2138) (tgt := 2143) dL_law_2138 (by decide) (fun cc => ?_) (fun cc => ?_)
  · have hf := tq_ifp hf cc
    refine tq_iload (M := mL_law b n xs) (pc := 2143) dL_law_2143 rfl ?_
    refine tq_if_ne (M := mL_law b n xs) (pc := 2145) (tgt := 2160) dL_law_2145 (by decide) (fun cc => ?_) (fun cc => ?_)
    · have hf := tq_ifn hf cc
      refine tq_goto (M := mL_law b n xs) (pc := 2160) (tgt := 3605) dL_law_2160 (by decide) ?_
      obtain ⟨x10, ex10, hf⟩ := tq_le hf
      refine tq_iinc (M := mL_law b n xs) (pc := 3605) (v := x10) (L2 := [(4, .int x10), (6, .int v6.1), (5, .int v3.1), (0, .retAddr b), (1, .ref i1), (2, .ref i2), (3, .ref i3)]) dL_law_3605 rfl (by rw [ex10, tk_ki_5]) (Nat.le_of_ble_eq_true rfl) rfl ?_
      refine tq_goto (M := mL_law b n xs) (pc := 3608) (tgt := 23) dL_law_3608 (by decide) ?_
      refine tq_pick (L2 := [(0, .retAddr b), (1, .ref i1), (2, .ref i2), (3, .ref i3), (4, .int x10)]) [3, 4, 5, 6, 0] rfl ?_
      cases (Option.some.inj hf)
      exact tq_more (by omega) (by omega) (hc _ rfl)
    · have hf := tq_ifp hf cc
      refine tq_aload_n (M := mL_law b n xs) (pc := 2148) dL_law_2148 rfl ?_
      refine tq_iconst (M := mL_law b n xs) (pc := 2149) dL_law_2149 tk_ki_0 ?_
      obtain ⟨x11, ex11, hf⟩ := tq_be hf
      refine tq_laldF (M := mL_law b n xs) (pc := 2150) dL_law_2150 ex11 ?_
      refine tq_iload (M := mL_law b n xs) (pc := 2151) dL_law_2151 rfl ?_
      refine tq_i2l (M := mL_law b n xs) (pc := 2153) dL_law_2153 ?_
      refine tq_lcmp (M := mL_law b n xs) (pc := 2154) dL_law_2154 ?_
      refine tq_if_eq (M := mL_law b n xs) (pc := 2155) (tgt := 2160) dL_law_2155 (by decide) (fun cc => ?_) (fun cc => ?_)
      · have hf := tq_ifp hf cc
        refine tq_goto (M := mL_law b n xs) (pc := 2160) (tgt := 3605) dL_law_2160 (by decide) ?_
        obtain ⟨x12, ex12, hf⟩ := tq_le hf
        refine tq_iinc (M := mL_law b n xs) (pc := 3605) (v := x12) (L2 := [(4, .int x12), (6, .int v6.1), (5, .int v3.1), (0, .retAddr b), (1, .ref i1), (2, .ref i2), (3, .ref i3)]) dL_law_3605 rfl (by rw [ex12, tk_ki_5]) (Nat.le_of_ble_eq_true rfl) rfl ?_
        refine tq_goto (M := mL_law b n xs) (pc := 3608) (tgt := 23) dL_law_3608 (by decide) ?_
        refine tq_pick (L2 := [(0, .retAddr b), (1, .ref i1), (2, .ref i2), (3, .ref i3), (4, .int x12)]) [3, 4, 5, 6, 0] rfl ?_
        cases (Option.some.inj hf)
        exact tq_more (by omega) (by omega) (hc _ rfl)
      · have hf := tq_ifn hf cc
        refine tq_iconst (M := mL_law b n xs) (pc := 2158) dL_law_2158 tk_ki_0 ?_
        refine tq_zret (M := mL_law b n xs) (pc := 2159) dL_law_2159 rfl (Or.inl rfl) ?_
        cases (Option.some.inj hf)
        exact hx _ rfl
  · have hf := tq_ifn hf cc
    refine tq_iconst (M := mL_law b n xs) (pc := 2141) dL_law_2141 tk_ki_0 ?_
    refine tq_zret (M := mL_law b n xs) (pc := 2142) dL_law_2142 rfl (Or.inl rfl) ?_
    cases (Option.some.inj hf)
    exact hx _ rfl
def f_L_law_c2163 (n : Nat) (xs : Nat → Int32) (i1 i2 i3 : Nat) (y4 : Int32) (hh : tq_H) : Option ((Int32 × tq_H) ⊕ (Int32 × tq_H)) :=
  (tq_sx n xs (y4 + (1 : Int32))).bind fun x1 =>
  (f_L_groups i1 x1 i3 hh).bind fun v2 =>
  (tq_sx n xs (y4 + (1 : Int32))).bind fun x3 =>
  (tq_is v2.2 i2 11).bind fun _ =>
  (f_X11_groups i2 x3 v2.2).bind fun v4 =>
  (tq_is v4.2 i2 11).bind fun _ =>
  (f_X11_thrown i2 v4.2).bind fun v6 =>
  if v6 = v2.1 then
    if v2.1 = 0 then
      (tq_aj v4.2 i3 (0 : Int32)).bind fun x9 =>
      if (lg_cmp x9 (v4.1).toInt64) = 0 then
        tq_let (y4 + (5 : Int32)) fun x10 =>
        some (.inl (x10, v4.2))
      else
        some (.inr ((0 : Int32), v4.2))
    else
      tq_let (y4 + (5 : Int32)) fun x8 =>
      some (.inl (x8, v4.2))
  else
    some (.inr ((0 : Int32), v4.2))
set_option maxHeartbeats 4000000 in
set_option maxRecDepth 20000 in
theorem c_L_law_2163 {l : Launch} {d : Nat} (hd9 : 10 ≤ d) {b n : Nat} {xs : Nat → Int32} {i1 i2 i3 : Nat} {y4 : Int32} {hh : tq_H} {Q : tq_R → tq_H → Prop} {bc bs : Nat} {oo : (Int32 × tq_H) ⊕ (Int32 × tq_H)} (hf : f_L_law_c2163 n xs i1 i2 i3 y4 hh = some oo) (hc : ∀ s9, oo = .inl s9 → tq_W l (mL_law b n xs) d bc bs Q 23 [(0, .retAddr b), (1, .ref i1), (2, .ref i2), (3, .ref i3), (4, .int s9.1)] [] s9.2) (hx : ∀ e9, oo = .inr e9 → Q (.inl (some (.int e9.1))) e9.2) : tq_W l (mL_law b n xs) d (1 + bc) (6 + bs) Q 2163 [(0, .retAddr b), (1, .ref i1), (2, .ref i2), (3, .ref i3), (4, .int y4)] [] hh := by
  refine tq_aload_n (M := mL_law b n xs) (pc := 2163) dL_law_2163 rfl ?_
  refine tq_xload (M := mL_law b n xs) (pc := 2164) dL_law_2164 rfl ?_
  refine tq_iload (M := mL_law b n xs) (pc := 2165) dL_law_2165 rfl ?_
  refine tq_iconst (M := mL_law b n xs) (pc := 2167) dL_law_2167 tk_ki_1 ?_
  refine tq_iadd (M := mL_law b n xs) (pc := 2168) dL_law_2168 ?_
  obtain ⟨x1, ex1, hf⟩ := tq_be hf
  refine tq_xld (M := mL_law b n xs) (pc := 2169) dL_law_2169 (n := n) (xs := xs) rfl ex1 ?_
  refine tq_aload_n (M := mL_law b n xs) (pc := 2170) dL_law_2170 rfl ?_
  obtain ⟨v2, ev2, hf⟩ := tq_be hf
  refine tq_calSW (M := mL_law b n xs) (pc := 2171) (S := []) tk_w_L_groups.1 tk_w_L_groups.2.1 tk_w_L_groups.2.2.1 tk_w_L_groups.2.2.2.1 tk_w_L_groups.2.2.2.2 tk_s_L_groups tk_RL_288 dL_law_2171 [.ref i1, .int x1, .ref i3] rfl (Nat.le_of_ble_eq_true rfl) (d1 := d - 1) (b1 := 1) (s1 := 6) (bc' := (0 + bc)) (bs' := (0 + bs)) (Q1 := fun r h9 => r = .inl (some (.int v2.1)) ∧ v2.2 = h9) (by omega) (by omega) (by omega) (w_L_groups (by omega) ev2 (fun _ _ q => q)) (fun E h9 q => nomatch (show (Sum.inr E : tq_R) = Sum.inl _ from q.1)) (fun r9 h9 q => ?_)
  obtain ⟨q1, rfl⟩ := q
  cases (show (Sum.inl r9 : tq_R) = Sum.inl (some (.int v2.1)) from q1)
  refine tq_istore (M := mL_law b n xs) (pc := 2174) dL_law_2174 (L2 := [(5, .int v2.1), (0, .retAddr b), (1, .ref i1), (2, .ref i2), (3, .ref i3), (4, .int y4)]) (Nat.le_of_ble_eq_true rfl) rfl ?_
  refine tq_aload_n (M := mL_law b n xs) (pc := 2176) dL_law_2176 rfl ?_
  refine tq_xload (M := mL_law b n xs) (pc := 2177) dL_law_2177 rfl ?_
  refine tq_iload (M := mL_law b n xs) (pc := 2178) dL_law_2178 rfl ?_
  refine tq_iconst (M := mL_law b n xs) (pc := 2180) dL_law_2180 tk_ki_1 ?_
  refine tq_iadd (M := mL_law b n xs) (pc := 2181) dL_law_2181 ?_
  obtain ⟨x3, ex3, hf⟩ := tq_be hf
  refine tq_xld (M := mL_law b n xs) (pc := 2182) dL_law_2182 (n := n) (xs := xs) rfl ex3 ?_
  obtain ⟨⟨⟩, eu5, hf⟩ := tq_be hf
  obtain ⟨fsu5, eu5⟩ := tq_is_s eu5
  obtain ⟨v4, ev4, hf⟩ := tq_be hf
  refine tq_calV (M := mL_law b n xs) (pc := 2183) (S := []) tk_y_X11_groups tk_v_X11_groups tk_RL_290 dL_law_2183 [.int x3] rfl (S0 := _) rfl eu5 rfl (Nat.le_of_ble_eq_true rfl) (d1 := d - 1) (b1 := 0) (s1 := 0) (bc' := (0 + bc)) (bs' := (0 + bs)) (Q1 := fun r h9 => r = .inl (some (.int v4.1)) ∧ v4.2 = h9) (by omega) (by omega) (by omega) (w_X11_groups (by omega) ev4 (fun _ _ q => q)) (fun E h9 q => nomatch (show (Sum.inr E : tq_R) = Sum.inl _ from q.1)) (fun r9 h9 q => ?_)
  obtain ⟨q1, rfl⟩ := q
  cases (show (Sum.inl r9 : tq_R) = Sum.inl (some (.int v4.1)) from q1)
  refine tq_istore (M := mL_law b n xs) (pc := 2186) dL_law_2186 (L2 := [(6, .int v4.1), (5, .int v2.1), (0, .retAddr b), (1, .ref i1), (2, .ref i2), (3, .ref i3), (4, .int y4)]) (Nat.le_of_ble_eq_true rfl) rfl ?_
  refine tq_aload_n (M := mL_law b n xs) (pc := 2188) dL_law_2188 rfl ?_
  obtain ⟨⟨⟩, eu7, hf⟩ := tq_be hf
  obtain ⟨fsu7, eu7⟩ := tq_is_s eu7
  obtain ⟨v6, ev6, hf⟩ := tq_be hf
  refine tq_calV (M := mL_law b n xs) (pc := 2189) (S := []) tk_y_X11_thrown tk_v_X11_thrown tk_RL_177 dL_law_2189 [] rfl (S0 := _) rfl eu7 rfl (Nat.le_of_ble_eq_true rfl) (d1 := d - 1) (b1 := 0) (s1 := 0) (bc' := (0 + bc)) (bs' := (0 + bs)) (Q1 := fun r h9 => r = .inl (some (.int v6)) ∧ v4.2 = h9) (by omega) (by omega) (by omega) (w_X11_thrown (by omega) ev6 (fun _ _ q => q)) (fun E h9 q => nomatch (show (Sum.inr E : tq_R) = Sum.inl _ from q.1)) (fun r9 h9 q => ?_)
  obtain ⟨q1, rfl⟩ := q
  cases (show (Sum.inl r9 : tq_R) = Sum.inl (some (.int v6)) from q1)
  refine tq_iload (M := mL_law b n xs) (pc := 2192) dL_law_2192 rfl ?_
  refine tq_icmp_eq (M := mL_law b n xs) (pc := 2194) (tgt := 2199) dL_law_2194 (by decide) (fun cc => ?_) (fun cc => ?_)
  · have hf := tq_ifp hf cc
    refine tq_iload (M := mL_law b n xs) (pc := 2199) dL_law_2199 rfl ?_
    refine tq_if_ne (M := mL_law b n xs) (pc := 2201) (tgt := 2216) dL_law_2201 (by decide) (fun cc => ?_) (fun cc => ?_)
    · have hf := tq_ifn hf cc
      refine tq_goto (M := mL_law b n xs) (pc := 2216) (tgt := 3605) dL_law_2216 (by decide) ?_
      obtain ⟨x8, ex8, hf⟩ := tq_le hf
      refine tq_iinc (M := mL_law b n xs) (pc := 3605) (v := x8) (L2 := [(4, .int x8), (6, .int v4.1), (5, .int v2.1), (0, .retAddr b), (1, .ref i1), (2, .ref i2), (3, .ref i3)]) dL_law_3605 rfl (by rw [ex8, tk_ki_5]) (Nat.le_of_ble_eq_true rfl) rfl ?_
      refine tq_goto (M := mL_law b n xs) (pc := 3608) (tgt := 23) dL_law_3608 (by decide) ?_
      refine tq_pick (L2 := [(0, .retAddr b), (1, .ref i1), (2, .ref i2), (3, .ref i3), (4, .int x8)]) [3, 4, 5, 6, 0] rfl ?_
      cases (Option.some.inj hf)
      exact tq_more (by omega) (by omega) (hc _ rfl)
    · have hf := tq_ifp hf cc
      refine tq_aload_n (M := mL_law b n xs) (pc := 2204) dL_law_2204 rfl ?_
      refine tq_iconst (M := mL_law b n xs) (pc := 2205) dL_law_2205 tk_ki_0 ?_
      obtain ⟨x9, ex9, hf⟩ := tq_be hf
      refine tq_laldF (M := mL_law b n xs) (pc := 2206) dL_law_2206 ex9 ?_
      refine tq_iload (M := mL_law b n xs) (pc := 2207) dL_law_2207 rfl ?_
      refine tq_i2l (M := mL_law b n xs) (pc := 2209) dL_law_2209 ?_
      refine tq_lcmp (M := mL_law b n xs) (pc := 2210) dL_law_2210 ?_
      refine tq_if_eq (M := mL_law b n xs) (pc := 2211) (tgt := 2216) dL_law_2211 (by decide) (fun cc => ?_) (fun cc => ?_)
      · have hf := tq_ifp hf cc
        refine tq_goto (M := mL_law b n xs) (pc := 2216) (tgt := 3605) dL_law_2216 (by decide) ?_
        obtain ⟨x10, ex10, hf⟩ := tq_le hf
        refine tq_iinc (M := mL_law b n xs) (pc := 3605) (v := x10) (L2 := [(4, .int x10), (6, .int v4.1), (5, .int v2.1), (0, .retAddr b), (1, .ref i1), (2, .ref i2), (3, .ref i3)]) dL_law_3605 rfl (by rw [ex10, tk_ki_5]) (Nat.le_of_ble_eq_true rfl) rfl ?_
        refine tq_goto (M := mL_law b n xs) (pc := 3608) (tgt := 23) dL_law_3608 (by decide) ?_
        refine tq_pick (L2 := [(0, .retAddr b), (1, .ref i1), (2, .ref i2), (3, .ref i3), (4, .int x10)]) [3, 4, 5, 6, 0] rfl ?_
        cases (Option.some.inj hf)
        exact tq_more (by omega) (by omega) (hc _ rfl)
      · have hf := tq_ifn hf cc
        refine tq_iconst (M := mL_law b n xs) (pc := 2214) dL_law_2214 tk_ki_0 ?_
        refine tq_zret (M := mL_law b n xs) (pc := 2215) dL_law_2215 rfl (Or.inl rfl) ?_
        cases (Option.some.inj hf)
        exact hx _ rfl
  · have hf := tq_ifn hf cc
    refine tq_iconst (M := mL_law b n xs) (pc := 2197) dL_law_2197 tk_ki_0 ?_
    refine tq_zret (M := mL_law b n xs) (pc := 2198) dL_law_2198 rfl (Or.inl rfl) ?_
    cases (Option.some.inj hf)
    exact hx _ rfl
def f_L_law_c2219 (n : Nat) (xs : Nat → Int32) (i1 i2 i3 : Nat) (y4 : Int32) (hh : tq_H) : Option ((Int32 × tq_H) ⊕ (Int32 × tq_H)) :=
  (tq_sx n xs (y4 + (1 : Int32))).bind fun x1 =>
  (tq_sx n xs (y4 + (2 : Int32))).bind fun x2 =>
  (f_L_nameType i1 x1 x2 i3 hh).bind fun v3 =>
  (tq_sx n xs (y4 + (1 : Int32))).bind fun x4 =>
  (tq_sx n xs (y4 + (2 : Int32))).bind fun x5 =>
  (tq_is v3.2 i2 11).bind fun _ =>
  (f_X11_nameType i2 x4 x5 v3.2).bind fun v6 =>
  (tq_is v6.2 i2 11).bind fun _ =>
  (f_X11_thrown i2 v6.2).bind fun v8 =>
  if v8 = v3.1 then
    if v3.1 = 0 then
      (tq_aj v6.2 i3 (0 : Int32)).bind fun x11 =>
      if (lg_cmp x11 (v6.1).toInt64) = 0 then
        tq_let (y4 + (5 : Int32)) fun x12 =>
        some (.inl (x12, v6.2))
      else
        some (.inr ((0 : Int32), v6.2))
    else
      tq_let (y4 + (5 : Int32)) fun x10 =>
      some (.inl (x10, v6.2))
  else
    some (.inr ((0 : Int32), v6.2))
set_option maxHeartbeats 4000000 in
set_option maxRecDepth 20000 in
theorem c_L_law_2219 {l : Launch} {d : Nat} (hd9 : 10 ≤ d) {b n : Nat} {xs : Nat → Int32} {i1 i2 i3 : Nat} {y4 : Int32} {hh : tq_H} {Q : tq_R → tq_H → Prop} {bc bs : Nat} {oo : (Int32 × tq_H) ⊕ (Int32 × tq_H)} (hf : f_L_law_c2219 n xs i1 i2 i3 y4 hh = some oo) (hc : ∀ s9, oo = .inl s9 → tq_W l (mL_law b n xs) d bc bs Q 23 [(0, .retAddr b), (1, .ref i1), (2, .ref i2), (3, .ref i3), (4, .int s9.1)] [] s9.2) (hx : ∀ e9, oo = .inr e9 → Q (.inl (some (.int e9.1))) e9.2) : tq_W l (mL_law b n xs) d (3 + bc) (18 + bs) Q 2219 [(0, .retAddr b), (1, .ref i1), (2, .ref i2), (3, .ref i3), (4, .int y4)] [] hh := by
  refine tq_aload_n (M := mL_law b n xs) (pc := 2219) dL_law_2219 rfl ?_
  refine tq_xload (M := mL_law b n xs) (pc := 2220) dL_law_2220 rfl ?_
  refine tq_iload (M := mL_law b n xs) (pc := 2221) dL_law_2221 rfl ?_
  refine tq_iconst (M := mL_law b n xs) (pc := 2223) dL_law_2223 tk_ki_1 ?_
  refine tq_iadd (M := mL_law b n xs) (pc := 2224) dL_law_2224 ?_
  obtain ⟨x1, ex1, hf⟩ := tq_be hf
  refine tq_xld (M := mL_law b n xs) (pc := 2225) dL_law_2225 (n := n) (xs := xs) rfl ex1 ?_
  refine tq_xload (M := mL_law b n xs) (pc := 2226) dL_law_2226 rfl ?_
  refine tq_iload (M := mL_law b n xs) (pc := 2227) dL_law_2227 rfl ?_
  refine tq_iconst (M := mL_law b n xs) (pc := 2229) dL_law_2229 tk_ki_2 ?_
  refine tq_iadd (M := mL_law b n xs) (pc := 2230) dL_law_2230 ?_
  obtain ⟨x2, ex2, hf⟩ := tq_be hf
  refine tq_xld (M := mL_law b n xs) (pc := 2231) dL_law_2231 (n := n) (xs := xs) rfl ex2 ?_
  refine tq_aload_n (M := mL_law b n xs) (pc := 2232) dL_law_2232 rfl ?_
  obtain ⟨v3, ev3, hf⟩ := tq_be hf
  refine tq_calSW (M := mL_law b n xs) (pc := 2233) (S := []) tk_w_L_nameType.1 tk_w_L_nameType.2.1 tk_w_L_nameType.2.2.1 tk_w_L_nameType.2.2.2.1 tk_w_L_nameType.2.2.2.2 tk_s_L_nameType tk_RL_291 dL_law_2233 [.ref i1, .int x1, .int x2, .ref i3] rfl (Nat.le_of_ble_eq_true rfl) (d1 := d - 1) (b1 := 3) (s1 := 18) (bc' := (0 + bc)) (bs' := (0 + bs)) (Q1 := fun r h9 => r = .inl (some (.int v3.1)) ∧ v3.2 = h9) (by omega) (by omega) (by omega) (w_L_nameType (by omega) ev3 (fun _ _ q => q)) (fun E h9 q => nomatch (show (Sum.inr E : tq_R) = Sum.inl _ from q.1)) (fun r9 h9 q => ?_)
  obtain ⟨q1, rfl⟩ := q
  cases (show (Sum.inl r9 : tq_R) = Sum.inl (some (.int v3.1)) from q1)
  refine tq_istore (M := mL_law b n xs) (pc := 2236) dL_law_2236 (L2 := [(5, .int v3.1), (0, .retAddr b), (1, .ref i1), (2, .ref i2), (3, .ref i3), (4, .int y4)]) (Nat.le_of_ble_eq_true rfl) rfl ?_
  refine tq_aload_n (M := mL_law b n xs) (pc := 2238) dL_law_2238 rfl ?_
  refine tq_xload (M := mL_law b n xs) (pc := 2239) dL_law_2239 rfl ?_
  refine tq_iload (M := mL_law b n xs) (pc := 2240) dL_law_2240 rfl ?_
  refine tq_iconst (M := mL_law b n xs) (pc := 2242) dL_law_2242 tk_ki_1 ?_
  refine tq_iadd (M := mL_law b n xs) (pc := 2243) dL_law_2243 ?_
  obtain ⟨x4, ex4, hf⟩ := tq_be hf
  refine tq_xld (M := mL_law b n xs) (pc := 2244) dL_law_2244 (n := n) (xs := xs) rfl ex4 ?_
  refine tq_xload (M := mL_law b n xs) (pc := 2245) dL_law_2245 rfl ?_
  refine tq_iload (M := mL_law b n xs) (pc := 2246) dL_law_2246 rfl ?_
  refine tq_iconst (M := mL_law b n xs) (pc := 2248) dL_law_2248 tk_ki_2 ?_
  refine tq_iadd (M := mL_law b n xs) (pc := 2249) dL_law_2249 ?_
  obtain ⟨x5, ex5, hf⟩ := tq_be hf
  refine tq_xld (M := mL_law b n xs) (pc := 2250) dL_law_2250 (n := n) (xs := xs) rfl ex5 ?_
  obtain ⟨⟨⟩, eu7, hf⟩ := tq_be hf
  obtain ⟨fsu7, eu7⟩ := tq_is_s eu7
  obtain ⟨v6, ev6, hf⟩ := tq_be hf
  refine tq_calV (M := mL_law b n xs) (pc := 2251) (S := []) tk_y_X11_nameType tk_v_X11_nameType tk_RL_293 dL_law_2251 [.int x4, .int x5] rfl (S0 := _) rfl eu7 rfl (Nat.le_of_ble_eq_true rfl) (d1 := d - 1) (b1 := 0) (s1 := 0) (bc' := (0 + bc)) (bs' := (0 + bs)) (Q1 := fun r h9 => r = .inl (some (.int v6.1)) ∧ v6.2 = h9) (by omega) (by omega) (by omega) (w_X11_nameType (by omega) ev6 (fun _ _ q => q)) (fun E h9 q => nomatch (show (Sum.inr E : tq_R) = Sum.inl _ from q.1)) (fun r9 h9 q => ?_)
  obtain ⟨q1, rfl⟩ := q
  cases (show (Sum.inl r9 : tq_R) = Sum.inl (some (.int v6.1)) from q1)
  refine tq_istore (M := mL_law b n xs) (pc := 2254) dL_law_2254 (L2 := [(6, .int v6.1), (5, .int v3.1), (0, .retAddr b), (1, .ref i1), (2, .ref i2), (3, .ref i3), (4, .int y4)]) (Nat.le_of_ble_eq_true rfl) rfl ?_
  refine tq_aload_n (M := mL_law b n xs) (pc := 2256) dL_law_2256 rfl ?_
  obtain ⟨⟨⟩, eu9, hf⟩ := tq_be hf
  obtain ⟨fsu9, eu9⟩ := tq_is_s eu9
  obtain ⟨v8, ev8, hf⟩ := tq_be hf
  refine tq_calV (M := mL_law b n xs) (pc := 2257) (S := []) tk_y_X11_thrown tk_v_X11_thrown tk_RL_177 dL_law_2257 [] rfl (S0 := _) rfl eu9 rfl (Nat.le_of_ble_eq_true rfl) (d1 := d - 1) (b1 := 0) (s1 := 0) (bc' := (0 + bc)) (bs' := (0 + bs)) (Q1 := fun r h9 => r = .inl (some (.int v8)) ∧ v6.2 = h9) (by omega) (by omega) (by omega) (w_X11_thrown (by omega) ev8 (fun _ _ q => q)) (fun E h9 q => nomatch (show (Sum.inr E : tq_R) = Sum.inl _ from q.1)) (fun r9 h9 q => ?_)
  obtain ⟨q1, rfl⟩ := q
  cases (show (Sum.inl r9 : tq_R) = Sum.inl (some (.int v8)) from q1)
  refine tq_iload (M := mL_law b n xs) (pc := 2260) dL_law_2260 rfl ?_
  refine tq_icmp_eq (M := mL_law b n xs) (pc := 2262) (tgt := 2267) dL_law_2262 (by decide) (fun cc => ?_) (fun cc => ?_)
  · have hf := tq_ifp hf cc
    refine tq_iload (M := mL_law b n xs) (pc := 2267) dL_law_2267 rfl ?_
    refine tq_if_ne (M := mL_law b n xs) (pc := 2269) (tgt := 2284) dL_law_2269 (by decide) (fun cc => ?_) (fun cc => ?_)
    · have hf := tq_ifn hf cc
      refine tq_goto (M := mL_law b n xs) (pc := 2284) (tgt := 3605) dL_law_2284 (by decide) ?_
      obtain ⟨x10, ex10, hf⟩ := tq_le hf
      refine tq_iinc (M := mL_law b n xs) (pc := 3605) (v := x10) (L2 := [(4, .int x10), (6, .int v6.1), (5, .int v3.1), (0, .retAddr b), (1, .ref i1), (2, .ref i2), (3, .ref i3)]) dL_law_3605 rfl (by rw [ex10, tk_ki_5]) (Nat.le_of_ble_eq_true rfl) rfl ?_
      refine tq_goto (M := mL_law b n xs) (pc := 3608) (tgt := 23) dL_law_3608 (by decide) ?_
      refine tq_pick (L2 := [(0, .retAddr b), (1, .ref i1), (2, .ref i2), (3, .ref i3), (4, .int x10)]) [3, 4, 5, 6, 0] rfl ?_
      cases (Option.some.inj hf)
      exact tq_more (by omega) (by omega) (hc _ rfl)
    · have hf := tq_ifp hf cc
      refine tq_aload_n (M := mL_law b n xs) (pc := 2272) dL_law_2272 rfl ?_
      refine tq_iconst (M := mL_law b n xs) (pc := 2273) dL_law_2273 tk_ki_0 ?_
      obtain ⟨x11, ex11, hf⟩ := tq_be hf
      refine tq_laldF (M := mL_law b n xs) (pc := 2274) dL_law_2274 ex11 ?_
      refine tq_iload (M := mL_law b n xs) (pc := 2275) dL_law_2275 rfl ?_
      refine tq_i2l (M := mL_law b n xs) (pc := 2277) dL_law_2277 ?_
      refine tq_lcmp (M := mL_law b n xs) (pc := 2278) dL_law_2278 ?_
      refine tq_if_eq (M := mL_law b n xs) (pc := 2279) (tgt := 2284) dL_law_2279 (by decide) (fun cc => ?_) (fun cc => ?_)
      · have hf := tq_ifp hf cc
        refine tq_goto (M := mL_law b n xs) (pc := 2284) (tgt := 3605) dL_law_2284 (by decide) ?_
        obtain ⟨x12, ex12, hf⟩ := tq_le hf
        refine tq_iinc (M := mL_law b n xs) (pc := 3605) (v := x12) (L2 := [(4, .int x12), (6, .int v6.1), (5, .int v3.1), (0, .retAddr b), (1, .ref i1), (2, .ref i2), (3, .ref i3)]) dL_law_3605 rfl (by rw [ex12, tk_ki_5]) (Nat.le_of_ble_eq_true rfl) rfl ?_
        refine tq_goto (M := mL_law b n xs) (pc := 3608) (tgt := 23) dL_law_3608 (by decide) ?_
        refine tq_pick (L2 := [(0, .retAddr b), (1, .ref i1), (2, .ref i2), (3, .ref i3), (4, .int x12)]) [3, 4, 5, 6, 0] rfl ?_
        cases (Option.some.inj hf)
        exact tq_more (by omega) (by omega) (hc _ rfl)
      · have hf := tq_ifn hf cc
        refine tq_iconst (M := mL_law b n xs) (pc := 2282) dL_law_2282 tk_ki_0 ?_
        refine tq_zret (M := mL_law b n xs) (pc := 2283) dL_law_2283 rfl (Or.inl rfl) ?_
        cases (Option.some.inj hf)
        exact hx _ rfl
  · have hf := tq_ifn hf cc
    refine tq_iconst (M := mL_law b n xs) (pc := 2265) dL_law_2265 tk_ki_0 ?_
    refine tq_zret (M := mL_law b n xs) (pc := 2266) dL_law_2266 rfl (Or.inl rfl) ?_
    cases (Option.some.inj hf)
    exact hx _ rfl
def f_L_law_c2287 (n : Nat) (xs : Nat → Int32) (i1 i2 i3 : Nat) (y4 : Int32) (hh : tq_H) : Option ((Int32 × tq_H) ⊕ (Int32 × tq_H)) :=
  (tq_sx n xs (y4 + (1 : Int32))).bind fun x1 =>
  (tq_sx n xs (y4 + (2 : Int32))).bind fun x2 =>
  (tq_sx n xs (y4 + (3 : Int32))).bind fun x3 =>
  (tq_sx n xs (y4 + (4 : Int32))).bind fun x4 =>
  (f_L_arc i1 x1 x2 x3 x4 i3 hh).bind fun v5 =>
  (tq_sx n xs (y4 + (1 : Int32))).bind fun x6 =>
  (tq_sx n xs (y4 + (2 : Int32))).bind fun x7 =>
  (tq_sx n xs (y4 + (3 : Int32))).bind fun x8 =>
  (tq_sx n xs (y4 + (4 : Int32))).bind fun x9 =>
  (tq_is v5.2 i2 11).bind fun _ =>
  (f_X11_arc i2 x6 x7 x8 x9 v5.2).bind fun v10 =>
  (tq_is v10.2 i2 11).bind fun _ =>
  (f_X11_thrown i2 v10.2).bind fun v12 =>
  if v12 = v5.1 then
    if v5.1 = 0 then
      (tq_aj v10.2 i3 (0 : Int32)).bind fun x15 =>
      tq_let (if v10.1 = 0 then (0 : Int64) else (1 : Int64)) fun p16 =>
      if (lg_cmp x15 p16) = 0 then
        tq_let (y4 + (5 : Int32)) fun x17 =>
        some (.inl (x17, v10.2))
      else
        some (.inr ((0 : Int32), v10.2))
    else
      tq_let (y4 + (5 : Int32)) fun x14 =>
      some (.inl (x14, v10.2))
  else
    some (.inr ((0 : Int32), v10.2))
set_option maxHeartbeats 4000000 in
set_option maxRecDepth 20000 in
theorem c_L_law_2287 {l : Launch} {d : Nat} (hd9 : 10 ≤ d) {b n : Nat} {xs : Nat → Int32} {i1 i2 i3 : Nat} {y4 : Int32} {hh : tq_H} {Q : tq_R → tq_H → Prop} {bc bs : Nat} {oo : (Int32 × tq_H) ⊕ (Int32 × tq_H)} (hf : f_L_law_c2287 n xs i1 i2 i3 y4 hh = some oo) (hc : ∀ s9, oo = .inl s9 → tq_W l (mL_law b n xs) d bc bs Q 23 [(0, .retAddr b), (1, .ref i1), (2, .ref i2), (3, .ref i3), (4, .int s9.1)] [] s9.2) (hx : ∀ e9, oo = .inr e9 → Q (.inl (some (.int e9.1))) e9.2) : tq_W l (mL_law b n xs) d (5 + bc) (30 + bs) Q 2287 [(0, .retAddr b), (1, .ref i1), (2, .ref i2), (3, .ref i3), (4, .int y4)] [] hh := by
  refine tq_aload_n (M := mL_law b n xs) (pc := 2287) dL_law_2287 rfl ?_
  refine tq_xload (M := mL_law b n xs) (pc := 2288) dL_law_2288 rfl ?_
  refine tq_iload (M := mL_law b n xs) (pc := 2289) dL_law_2289 rfl ?_
  refine tq_iconst (M := mL_law b n xs) (pc := 2291) dL_law_2291 tk_ki_1 ?_
  refine tq_iadd (M := mL_law b n xs) (pc := 2292) dL_law_2292 ?_
  obtain ⟨x1, ex1, hf⟩ := tq_be hf
  refine tq_xld (M := mL_law b n xs) (pc := 2293) dL_law_2293 (n := n) (xs := xs) rfl ex1 ?_
  refine tq_xload (M := mL_law b n xs) (pc := 2294) dL_law_2294 rfl ?_
  refine tq_iload (M := mL_law b n xs) (pc := 2295) dL_law_2295 rfl ?_
  refine tq_iconst (M := mL_law b n xs) (pc := 2297) dL_law_2297 tk_ki_2 ?_
  refine tq_iadd (M := mL_law b n xs) (pc := 2298) dL_law_2298 ?_
  obtain ⟨x2, ex2, hf⟩ := tq_be hf
  refine tq_xld (M := mL_law b n xs) (pc := 2299) dL_law_2299 (n := n) (xs := xs) rfl ex2 ?_
  refine tq_xload (M := mL_law b n xs) (pc := 2300) dL_law_2300 rfl ?_
  refine tq_iload (M := mL_law b n xs) (pc := 2301) dL_law_2301 rfl ?_
  refine tq_iconst (M := mL_law b n xs) (pc := 2303) dL_law_2303 tk_ki_3 ?_
  refine tq_iadd (M := mL_law b n xs) (pc := 2304) dL_law_2304 ?_
  obtain ⟨x3, ex3, hf⟩ := tq_be hf
  refine tq_xld (M := mL_law b n xs) (pc := 2305) dL_law_2305 (n := n) (xs := xs) rfl ex3 ?_
  refine tq_xload (M := mL_law b n xs) (pc := 2306) dL_law_2306 rfl ?_
  refine tq_iload (M := mL_law b n xs) (pc := 2307) dL_law_2307 rfl ?_
  refine tq_iconst (M := mL_law b n xs) (pc := 2309) dL_law_2309 tk_ki_4 ?_
  refine tq_iadd (M := mL_law b n xs) (pc := 2310) dL_law_2310 ?_
  obtain ⟨x4, ex4, hf⟩ := tq_be hf
  refine tq_xld (M := mL_law b n xs) (pc := 2311) dL_law_2311 (n := n) (xs := xs) rfl ex4 ?_
  refine tq_aload_n (M := mL_law b n xs) (pc := 2312) dL_law_2312 rfl ?_
  obtain ⟨v5, ev5, hf⟩ := tq_be hf
  refine tq_calSW (M := mL_law b n xs) (pc := 2313) (S := []) tk_w_L_arc.1 tk_w_L_arc.2.1 tk_w_L_arc.2.2.1 tk_w_L_arc.2.2.2.1 tk_w_L_arc.2.2.2.2 tk_s_L_arc tk_RL_294 dL_law_2313 [.ref i1, .int x1, .int x2, .int x3, .int x4, .ref i3] rfl (Nat.le_of_ble_eq_true rfl) (d1 := d - 1) (b1 := 5) (s1 := 30) (bc' := (0 + bc)) (bs' := (0 + bs)) (Q1 := fun r h9 => r = .inl (some (.int v5.1)) ∧ v5.2 = h9) (by omega) (by omega) (by omega) (w_L_arc (by omega) ev5 (fun _ _ q => q)) (fun E h9 q => nomatch (show (Sum.inr E : tq_R) = Sum.inl _ from q.1)) (fun r9 h9 q => ?_)
  obtain ⟨q1, rfl⟩ := q
  cases (show (Sum.inl r9 : tq_R) = Sum.inl (some (.int v5.1)) from q1)
  refine tq_istore (M := mL_law b n xs) (pc := 2316) dL_law_2316 (L2 := [(5, .int v5.1), (0, .retAddr b), (1, .ref i1), (2, .ref i2), (3, .ref i3), (4, .int y4)]) (Nat.le_of_ble_eq_true rfl) rfl ?_
  refine tq_aload_n (M := mL_law b n xs) (pc := 2318) dL_law_2318 rfl ?_
  refine tq_xload (M := mL_law b n xs) (pc := 2319) dL_law_2319 rfl ?_
  refine tq_iload (M := mL_law b n xs) (pc := 2320) dL_law_2320 rfl ?_
  refine tq_iconst (M := mL_law b n xs) (pc := 2322) dL_law_2322 tk_ki_1 ?_
  refine tq_iadd (M := mL_law b n xs) (pc := 2323) dL_law_2323 ?_
  obtain ⟨x6, ex6, hf⟩ := tq_be hf
  refine tq_xld (M := mL_law b n xs) (pc := 2324) dL_law_2324 (n := n) (xs := xs) rfl ex6 ?_
  refine tq_xload (M := mL_law b n xs) (pc := 2325) dL_law_2325 rfl ?_
  refine tq_iload (M := mL_law b n xs) (pc := 2326) dL_law_2326 rfl ?_
  refine tq_iconst (M := mL_law b n xs) (pc := 2328) dL_law_2328 tk_ki_2 ?_
  refine tq_iadd (M := mL_law b n xs) (pc := 2329) dL_law_2329 ?_
  obtain ⟨x7, ex7, hf⟩ := tq_be hf
  refine tq_xld (M := mL_law b n xs) (pc := 2330) dL_law_2330 (n := n) (xs := xs) rfl ex7 ?_
  refine tq_xload (M := mL_law b n xs) (pc := 2331) dL_law_2331 rfl ?_
  refine tq_iload (M := mL_law b n xs) (pc := 2332) dL_law_2332 rfl ?_
  refine tq_iconst (M := mL_law b n xs) (pc := 2334) dL_law_2334 tk_ki_3 ?_
  refine tq_iadd (M := mL_law b n xs) (pc := 2335) dL_law_2335 ?_
  obtain ⟨x8, ex8, hf⟩ := tq_be hf
  refine tq_xld (M := mL_law b n xs) (pc := 2336) dL_law_2336 (n := n) (xs := xs) rfl ex8 ?_
  refine tq_xload (M := mL_law b n xs) (pc := 2337) dL_law_2337 rfl ?_
  refine tq_iload (M := mL_law b n xs) (pc := 2338) dL_law_2338 rfl ?_
  refine tq_iconst (M := mL_law b n xs) (pc := 2340) dL_law_2340 tk_ki_4 ?_
  refine tq_iadd (M := mL_law b n xs) (pc := 2341) dL_law_2341 ?_
  obtain ⟨x9, ex9, hf⟩ := tq_be hf
  refine tq_xld (M := mL_law b n xs) (pc := 2342) dL_law_2342 (n := n) (xs := xs) rfl ex9 ?_
  obtain ⟨⟨⟩, eu11, hf⟩ := tq_be hf
  obtain ⟨fsu11, eu11⟩ := tq_is_s eu11
  obtain ⟨v10, ev10, hf⟩ := tq_be hf
  refine tq_calV (M := mL_law b n xs) (pc := 2343) (S := []) tk_y_X11_arc tk_v_X11_arc tk_RL_296 dL_law_2343 [.int x6, .int x7, .int x8, .int x9] rfl (S0 := _) rfl eu11 rfl (Nat.le_of_ble_eq_true rfl) (d1 := d - 1) (b1 := 0) (s1 := 0) (bc' := (0 + bc)) (bs' := (0 + bs)) (Q1 := fun r h9 => r = .inl (some (.int v10.1)) ∧ v10.2 = h9) (by omega) (by omega) (by omega) (w_X11_arc (by omega) ev10 (fun _ _ q => q)) (fun E h9 q => nomatch (show (Sum.inr E : tq_R) = Sum.inl _ from q.1)) (fun r9 h9 q => ?_)
  obtain ⟨q1, rfl⟩ := q
  cases (show (Sum.inl r9 : tq_R) = Sum.inl (some (.int v10.1)) from q1)
  refine tq_istore (M := mL_law b n xs) (pc := 2346) dL_law_2346 (L2 := [(6, .int v10.1), (5, .int v5.1), (0, .retAddr b), (1, .ref i1), (2, .ref i2), (3, .ref i3), (4, .int y4)]) (Nat.le_of_ble_eq_true rfl) rfl ?_
  refine tq_aload_n (M := mL_law b n xs) (pc := 2348) dL_law_2348 rfl ?_
  obtain ⟨⟨⟩, eu13, hf⟩ := tq_be hf
  obtain ⟨fsu13, eu13⟩ := tq_is_s eu13
  obtain ⟨v12, ev12, hf⟩ := tq_be hf
  refine tq_calV (M := mL_law b n xs) (pc := 2349) (S := []) tk_y_X11_thrown tk_v_X11_thrown tk_RL_177 dL_law_2349 [] rfl (S0 := _) rfl eu13 rfl (Nat.le_of_ble_eq_true rfl) (d1 := d - 1) (b1 := 0) (s1 := 0) (bc' := (0 + bc)) (bs' := (0 + bs)) (Q1 := fun r h9 => r = .inl (some (.int v12)) ∧ v10.2 = h9) (by omega) (by omega) (by omega) (w_X11_thrown (by omega) ev12 (fun _ _ q => q)) (fun E h9 q => nomatch (show (Sum.inr E : tq_R) = Sum.inl _ from q.1)) (fun r9 h9 q => ?_)
  obtain ⟨q1, rfl⟩ := q
  cases (show (Sum.inl r9 : tq_R) = Sum.inl (some (.int v12)) from q1)
  refine tq_iload (M := mL_law b n xs) (pc := 2352) dL_law_2352 rfl ?_
  refine tq_icmp_eq (M := mL_law b n xs) (pc := 2354) (tgt := 2359) dL_law_2354 (by decide) (fun cc => ?_) (fun cc => ?_)
  · have hf := tq_ifp hf cc
    refine tq_iload (M := mL_law b n xs) (pc := 2359) dL_law_2359 rfl ?_
    refine tq_if_ne (M := mL_law b n xs) (pc := 2361) (tgt := 2383) dL_law_2361 (by decide) (fun cc => ?_) (fun cc => ?_)
    · have hf := tq_ifn hf cc
      refine tq_goto (M := mL_law b n xs) (pc := 2383) (tgt := 3605) dL_law_2383 (by decide) ?_
      obtain ⟨x14, ex14, hf⟩ := tq_le hf
      refine tq_iinc (M := mL_law b n xs) (pc := 3605) (v := x14) (L2 := [(4, .int x14), (6, .int v10.1), (5, .int v5.1), (0, .retAddr b), (1, .ref i1), (2, .ref i2), (3, .ref i3)]) dL_law_3605 rfl (by rw [ex14, tk_ki_5]) (Nat.le_of_ble_eq_true rfl) rfl ?_
      refine tq_goto (M := mL_law b n xs) (pc := 3608) (tgt := 23) dL_law_3608 (by decide) ?_
      refine tq_pick (L2 := [(0, .retAddr b), (1, .ref i1), (2, .ref i2), (3, .ref i3), (4, .int x14)]) [3, 4, 5, 6, 0] rfl ?_
      cases (Option.some.inj hf)
      exact tq_more (by omega) (by omega) (hc _ rfl)
    · have hf := tq_ifp hf cc
      refine tq_aload_n (M := mL_law b n xs) (pc := 2364) dL_law_2364 rfl ?_
      refine tq_iconst (M := mL_law b n xs) (pc := 2365) dL_law_2365 tk_ki_0 ?_
      obtain ⟨x15, ex15, hf⟩ := tq_be hf
      refine tq_laldF (M := mL_law b n xs) (pc := 2366) dL_law_2366 ex15 ?_
      refine tq_iload (M := mL_law b n xs) (pc := 2367) dL_law_2367 rfl ?_
      obtain ⟨p16, ep16, hf⟩ := tq_le hf
      have HJ2369 : tq_W l (mL_law b n xs) d (0 + bc) (0 + bs) Q 2377 [(0, .retAddr b), (1, .ref i1), (2, .ref i2), (3, .ref i3), (4, .int y4)] [.long p16, .long x15] v10.2 := by
        refine tq_lcmp (M := mL_law b n xs) (pc := 2377) dL_law_2377 ?_
        refine tq_if_eq (M := mL_law b n xs) (pc := 2378) (tgt := 2383) dL_law_2378 (by decide) (fun cc => ?_) (fun cc => ?_)
        · have hf := tq_ifp hf cc
          refine tq_goto (M := mL_law b n xs) (pc := 2383) (tgt := 3605) dL_law_2383 (by decide) ?_
          obtain ⟨x17, ex17, hf⟩ := tq_le hf
          refine tq_iinc (M := mL_law b n xs) (pc := 3605) (v := x17) (L2 := [(4, .int x17), (0, .retAddr b), (1, .ref i1), (2, .ref i2), (3, .ref i3)]) dL_law_3605 rfl (by rw [ex17, tk_ki_5]) (Nat.le_of_ble_eq_true rfl) rfl ?_
          refine tq_goto (M := mL_law b n xs) (pc := 3608) (tgt := 23) dL_law_3608 (by decide) ?_
          refine tq_pick (L2 := [(0, .retAddr b), (1, .ref i1), (2, .ref i2), (3, .ref i3), (4, .int x17)]) [1, 2, 3, 4, 0] rfl ?_
          cases (Option.some.inj hf)
          exact tq_more (by omega) (by omega) (hc _ rfl)
        · have hf := tq_ifn hf cc
          refine tq_iconst (M := mL_law b n xs) (pc := 2381) dL_law_2381 tk_ki_0 ?_
          refine tq_zret (M := mL_law b n xs) (pc := 2382) dL_law_2382 rfl (Or.inl rfl) ?_
          cases (Option.some.inj hf)
          exact hx _ rfl
      refine tq_if_eq (M := mL_law b n xs) (pc := 2369) (tgt := 2376) dL_law_2369 (by decide) (fun cc => ?_) (fun cc => ?_)
      · have hf := tq_ifp ep16.symm cc
        refine tq_lconst (M := mL_law b n xs) (pc := 2376) dL_law_2376 tk_kl_0 ?_
        refine tq_pick (L2 := [(0, .retAddr b), (1, .ref i1), (2, .ref i2), (3, .ref i3), (4, .int y4)]) [2, 3, 4, 5, 6] rfl ?_
        cases hf
        exact HJ2369
      · have hf := tq_ifn ep16.symm cc
        refine tq_lconst (M := mL_law b n xs) (pc := 2372) dL_law_2372 tk_kl_1 ?_
        refine tq_goto (M := mL_law b n xs) (pc := 2373) (tgt := 2377) dL_law_2373 (by decide) ?_
        refine tq_pick (L2 := [(0, .retAddr b), (1, .ref i1), (2, .ref i2), (3, .ref i3), (4, .int y4)]) [2, 3, 4, 5, 6] rfl ?_
        cases hf
        exact HJ2369
  · have hf := tq_ifn hf cc
    refine tq_iconst (M := mL_law b n xs) (pc := 2357) dL_law_2357 tk_ki_0 ?_
    refine tq_zret (M := mL_law b n xs) (pc := 2358) dL_law_2358 rfl (Or.inl rfl) ?_
    cases (Option.some.inj hf)
    exact hx _ rfl
def f_L_law_c2386 (n : Nat) (xs : Nat → Int32) (i1 i2 i3 : Nat) (y4 : Int32) (hh : tq_H) : Option ((Int32 × tq_H) ⊕ (Int32 × tq_H)) :=
  (tq_sx n xs (y4 + (1 : Int32))).bind fun x1 =>
  (tq_sx n xs (y4 + (2 : Int32))).bind fun x2 =>
  (tq_sx n xs (y4 + (3 : Int32))).bind fun x3 =>
  tq_let (if x3 = 0 then (0 : Int32) else (1 : Int32)) fun p4 =>
  (f_L_setFinal i1 x1 x2 p4 i3 hh).bind fun v5 =>
  (tq_sx n xs (y4 + (1 : Int32))).bind fun x6 =>
  (tq_sx n xs (y4 + (2 : Int32))).bind fun x7 =>
  (tq_sx n xs (y4 + (3 : Int32))).bind fun x8 =>
  tq_let (if x8 = 0 then (0 : Int32) else (1 : Int32)) fun p9 =>
  (tq_is v5.2 i2 11).bind fun _ =>
  (f_X11_setFinal i2 x6 x7 p9 v5.2).bind fun v10 =>
  (tq_is v10.2 i2 11).bind fun _ =>
  (f_X11_thrown i2 v10.2).bind fun v12 =>
  if v12 = v5.1 then
    if v5.1 = 0 then
      (tq_aj v10.2 i3 (0 : Int32)).bind fun x15 =>
      tq_let (if v10.1 = 0 then (0 : Int64) else (1 : Int64)) fun p16 =>
      if (lg_cmp x15 p16) = 0 then
        tq_let (y4 + (5 : Int32)) fun x17 =>
        some (.inl (x17, v10.2))
      else
        some (.inr ((0 : Int32), v10.2))
    else
      tq_let (y4 + (5 : Int32)) fun x14 =>
      some (.inl (x14, v10.2))
  else
    some (.inr ((0 : Int32), v10.2))
set_option maxHeartbeats 4000000 in
set_option maxRecDepth 20000 in
theorem c_L_law_2386 {l : Launch} {d : Nat} (hd9 : 10 ≤ d) {b n : Nat} {xs : Nat → Int32} {i1 i2 i3 : Nat} {y4 : Int32} {hh : tq_H} {Q : tq_R → tq_H → Prop} {bc bs : Nat} {oo : (Int32 × tq_H) ⊕ (Int32 × tq_H)} (hf : f_L_law_c2386 n xs i1 i2 i3 y4 hh = some oo) (hc : ∀ s9, oo = .inl s9 → tq_W l (mL_law b n xs) d bc bs Q 23 [(0, .retAddr b), (1, .ref i1), (2, .ref i2), (3, .ref i3), (4, .int s9.1)] [] s9.2) (hx : ∀ e9, oo = .inr e9 → Q (.inl (some (.int e9.1))) e9.2) : tq_W l (mL_law b n xs) d (3 + bc) (18 + bs) Q 2386 [(0, .retAddr b), (1, .ref i1), (2, .ref i2), (3, .ref i3), (4, .int y4)] [] hh := by
  refine tq_aload_n (M := mL_law b n xs) (pc := 2386) dL_law_2386 rfl ?_
  refine tq_xload (M := mL_law b n xs) (pc := 2387) dL_law_2387 rfl ?_
  refine tq_iload (M := mL_law b n xs) (pc := 2388) dL_law_2388 rfl ?_
  refine tq_iconst (M := mL_law b n xs) (pc := 2390) dL_law_2390 tk_ki_1 ?_
  refine tq_iadd (M := mL_law b n xs) (pc := 2391) dL_law_2391 ?_
  obtain ⟨x1, ex1, hf⟩ := tq_be hf
  refine tq_xld (M := mL_law b n xs) (pc := 2392) dL_law_2392 (n := n) (xs := xs) rfl ex1 ?_
  refine tq_xload (M := mL_law b n xs) (pc := 2393) dL_law_2393 rfl ?_
  refine tq_iload (M := mL_law b n xs) (pc := 2394) dL_law_2394 rfl ?_
  refine tq_iconst (M := mL_law b n xs) (pc := 2396) dL_law_2396 tk_ki_2 ?_
  refine tq_iadd (M := mL_law b n xs) (pc := 2397) dL_law_2397 ?_
  obtain ⟨x2, ex2, hf⟩ := tq_be hf
  refine tq_xld (M := mL_law b n xs) (pc := 2398) dL_law_2398 (n := n) (xs := xs) rfl ex2 ?_
  refine tq_xload (M := mL_law b n xs) (pc := 2399) dL_law_2399 rfl ?_
  refine tq_iload (M := mL_law b n xs) (pc := 2400) dL_law_2400 rfl ?_
  refine tq_iconst (M := mL_law b n xs) (pc := 2402) dL_law_2402 tk_ki_3 ?_
  refine tq_iadd (M := mL_law b n xs) (pc := 2403) dL_law_2403 ?_
  obtain ⟨x3, ex3, hf⟩ := tq_be hf
  refine tq_xld (M := mL_law b n xs) (pc := 2404) dL_law_2404 (n := n) (xs := xs) rfl ex3 ?_
  obtain ⟨p4, ep4, hf⟩ := tq_le hf
  have HJ2405 : tq_W l (mL_law b n xs) d (3 + bc) (18 + bs) Q 2413 [(0, .retAddr b), (1, .ref i1), (2, .ref i2), (3, .ref i3), (4, .int y4)] [.int p4, .int x2, .int x1, .ref i1] hh := by
    refine tq_aload_n (M := mL_law b n xs) (pc := 2413) dL_law_2413 rfl ?_
    obtain ⟨v5, ev5, hf⟩ := tq_be hf
    refine tq_calSW (M := mL_law b n xs) (pc := 2414) (S := []) tk_w_L_setFinal.1 tk_w_L_setFinal.2.1 tk_w_L_setFinal.2.2.1 tk_w_L_setFinal.2.2.2.1 tk_w_L_setFinal.2.2.2.2 tk_s_L_setFinal tk_RL_297 dL_law_2414 [.ref i1, .int x1, .int x2, .int p4, .ref i3] rfl (Nat.le_of_ble_eq_true rfl) (d1 := d - 1) (b1 := 3) (s1 := 18) (bc' := (0 + bc)) (bs' := (0 + bs)) (Q1 := fun r h9 => r = .inl (some (.int v5.1)) ∧ v5.2 = h9) (by omega) (by omega) (by omega) (w_L_setFinal (by omega) ev5 (fun _ _ q => q)) (fun E h9 q => nomatch (show (Sum.inr E : tq_R) = Sum.inl _ from q.1)) (fun r9 h9 q => ?_)
    obtain ⟨q1, rfl⟩ := q
    cases (show (Sum.inl r9 : tq_R) = Sum.inl (some (.int v5.1)) from q1)
    refine tq_istore (M := mL_law b n xs) (pc := 2417) dL_law_2417 (L2 := [(5, .int v5.1), (0, .retAddr b), (1, .ref i1), (2, .ref i2), (3, .ref i3), (4, .int y4)]) (Nat.le_of_ble_eq_true rfl) rfl ?_
    refine tq_aload_n (M := mL_law b n xs) (pc := 2419) dL_law_2419 rfl ?_
    refine tq_xload (M := mL_law b n xs) (pc := 2420) dL_law_2420 rfl ?_
    refine tq_iload (M := mL_law b n xs) (pc := 2421) dL_law_2421 rfl ?_
    refine tq_iconst (M := mL_law b n xs) (pc := 2423) dL_law_2423 tk_ki_1 ?_
    refine tq_iadd (M := mL_law b n xs) (pc := 2424) dL_law_2424 ?_
    obtain ⟨x6, ex6, hf⟩ := tq_be hf
    refine tq_xld (M := mL_law b n xs) (pc := 2425) dL_law_2425 (n := n) (xs := xs) rfl ex6 ?_
    refine tq_xload (M := mL_law b n xs) (pc := 2426) dL_law_2426 rfl ?_
    refine tq_iload (M := mL_law b n xs) (pc := 2427) dL_law_2427 rfl ?_
    refine tq_iconst (M := mL_law b n xs) (pc := 2429) dL_law_2429 tk_ki_2 ?_
    refine tq_iadd (M := mL_law b n xs) (pc := 2430) dL_law_2430 ?_
    obtain ⟨x7, ex7, hf⟩ := tq_be hf
    refine tq_xld (M := mL_law b n xs) (pc := 2431) dL_law_2431 (n := n) (xs := xs) rfl ex7 ?_
    refine tq_xload (M := mL_law b n xs) (pc := 2432) dL_law_2432 rfl ?_
    refine tq_iload (M := mL_law b n xs) (pc := 2433) dL_law_2433 rfl ?_
    refine tq_iconst (M := mL_law b n xs) (pc := 2435) dL_law_2435 tk_ki_3 ?_
    refine tq_iadd (M := mL_law b n xs) (pc := 2436) dL_law_2436 ?_
    obtain ⟨x8, ex8, hf⟩ := tq_be hf
    refine tq_xld (M := mL_law b n xs) (pc := 2437) dL_law_2437 (n := n) (xs := xs) rfl ex8 ?_
    obtain ⟨p9, ep9, hf⟩ := tq_le hf
    have HJ2438 : tq_W l (mL_law b n xs) d (0 + bc) (0 + bs) Q 2446 [(0, .retAddr b), (1, .ref i1), (2, .ref i2), (3, .ref i3), (4, .int y4), (5, .int v5.1)] [.int p9, .int x7, .int x6, .ref i2] v5.2 := by
      obtain ⟨⟨⟩, eu11, hf⟩ := tq_be hf
      obtain ⟨fsu11, eu11⟩ := tq_is_s eu11
      obtain ⟨v10, ev10, hf⟩ := tq_be hf
      refine tq_calV (M := mL_law b n xs) (pc := 2446) (S := []) tk_y_X11_setFinal tk_v_X11_setFinal tk_RL_299 dL_law_2446 [.int x6, .int x7, .int p9] rfl (S0 := _) rfl eu11 rfl (Nat.le_of_ble_eq_true rfl) (d1 := d - 1) (b1 := 0) (s1 := 0) (bc' := (0 + bc)) (bs' := (0 + bs)) (Q1 := fun r h9 => r = .inl (some (.int v10.1)) ∧ v10.2 = h9) (by omega) (by omega) (by omega) (w_X11_setFinal (by omega) ev10 (fun _ _ q => q)) (fun E h9 q => nomatch (show (Sum.inr E : tq_R) = Sum.inl _ from q.1)) (fun r9 h9 q => ?_)
      obtain ⟨q1, rfl⟩ := q
      cases (show (Sum.inl r9 : tq_R) = Sum.inl (some (.int v10.1)) from q1)
      refine tq_istore (M := mL_law b n xs) (pc := 2449) dL_law_2449 (L2 := [(6, .int v10.1), (0, .retAddr b), (1, .ref i1), (2, .ref i2), (3, .ref i3), (4, .int y4), (5, .int v5.1)]) (Nat.le_of_ble_eq_true rfl) rfl ?_
      refine tq_aload_n (M := mL_law b n xs) (pc := 2451) dL_law_2451 rfl ?_
      obtain ⟨⟨⟩, eu13, hf⟩ := tq_be hf
      obtain ⟨fsu13, eu13⟩ := tq_is_s eu13
      obtain ⟨v12, ev12, hf⟩ := tq_be hf
      refine tq_calV (M := mL_law b n xs) (pc := 2452) (S := []) tk_y_X11_thrown tk_v_X11_thrown tk_RL_177 dL_law_2452 [] rfl (S0 := _) rfl eu13 rfl (Nat.le_of_ble_eq_true rfl) (d1 := d - 1) (b1 := 0) (s1 := 0) (bc' := (0 + bc)) (bs' := (0 + bs)) (Q1 := fun r h9 => r = .inl (some (.int v12)) ∧ v10.2 = h9) (by omega) (by omega) (by omega) (w_X11_thrown (by omega) ev12 (fun _ _ q => q)) (fun E h9 q => nomatch (show (Sum.inr E : tq_R) = Sum.inl _ from q.1)) (fun r9 h9 q => ?_)
      obtain ⟨q1, rfl⟩ := q
      cases (show (Sum.inl r9 : tq_R) = Sum.inl (some (.int v12)) from q1)
      refine tq_iload (M := mL_law b n xs) (pc := 2455) dL_law_2455 rfl ?_
      refine tq_icmp_eq (M := mL_law b n xs) (pc := 2457) (tgt := 2462) dL_law_2457 (by decide) (fun cc => ?_) (fun cc => ?_)
      · have hf := tq_ifp hf cc
        refine tq_iload (M := mL_law b n xs) (pc := 2462) dL_law_2462 rfl ?_
        refine tq_if_ne (M := mL_law b n xs) (pc := 2464) (tgt := 2486) dL_law_2464 (by decide) (fun cc => ?_) (fun cc => ?_)
        · have hf := tq_ifn hf cc
          refine tq_goto (M := mL_law b n xs) (pc := 2486) (tgt := 3605) dL_law_2486 (by decide) ?_
          obtain ⟨x14, ex14, hf⟩ := tq_le hf
          refine tq_iinc (M := mL_law b n xs) (pc := 3605) (v := x14) (L2 := [(4, .int x14), (6, .int v10.1), (0, .retAddr b), (1, .ref i1), (2, .ref i2), (3, .ref i3), (5, .int v5.1)]) dL_law_3605 rfl (by rw [ex14, tk_ki_5]) (Nat.le_of_ble_eq_true rfl) rfl ?_
          refine tq_goto (M := mL_law b n xs) (pc := 3608) (tgt := 23) dL_law_3608 (by decide) ?_
          refine tq_pick (L2 := [(0, .retAddr b), (1, .ref i1), (2, .ref i2), (3, .ref i3), (4, .int x14)]) [2, 3, 4, 5, 0] rfl ?_
          cases (Option.some.inj hf)
          exact tq_more (by omega) (by omega) (hc _ rfl)
        · have hf := tq_ifp hf cc
          refine tq_aload_n (M := mL_law b n xs) (pc := 2467) dL_law_2467 rfl ?_
          refine tq_iconst (M := mL_law b n xs) (pc := 2468) dL_law_2468 tk_ki_0 ?_
          obtain ⟨x15, ex15, hf⟩ := tq_be hf
          refine tq_laldF (M := mL_law b n xs) (pc := 2469) dL_law_2469 ex15 ?_
          refine tq_iload (M := mL_law b n xs) (pc := 2470) dL_law_2470 rfl ?_
          obtain ⟨p16, ep16, hf⟩ := tq_le hf
          have HJ2472 : tq_W l (mL_law b n xs) d (0 + bc) (0 + bs) Q 2480 [(0, .retAddr b), (1, .ref i1), (2, .ref i2), (3, .ref i3), (4, .int y4)] [.long p16, .long x15] v10.2 := by
            refine tq_lcmp (M := mL_law b n xs) (pc := 2480) dL_law_2480 ?_
            refine tq_if_eq (M := mL_law b n xs) (pc := 2481) (tgt := 2486) dL_law_2481 (by decide) (fun cc => ?_) (fun cc => ?_)
            · have hf := tq_ifp hf cc
              refine tq_goto (M := mL_law b n xs) (pc := 2486) (tgt := 3605) dL_law_2486 (by decide) ?_
              obtain ⟨x17, ex17, hf⟩ := tq_le hf
              refine tq_iinc (M := mL_law b n xs) (pc := 3605) (v := x17) (L2 := [(4, .int x17), (0, .retAddr b), (1, .ref i1), (2, .ref i2), (3, .ref i3)]) dL_law_3605 rfl (by rw [ex17, tk_ki_5]) (Nat.le_of_ble_eq_true rfl) rfl ?_
              refine tq_goto (M := mL_law b n xs) (pc := 3608) (tgt := 23) dL_law_3608 (by decide) ?_
              refine tq_pick (L2 := [(0, .retAddr b), (1, .ref i1), (2, .ref i2), (3, .ref i3), (4, .int x17)]) [1, 2, 3, 4, 0] rfl ?_
              cases (Option.some.inj hf)
              exact tq_more (by omega) (by omega) (hc _ rfl)
            · have hf := tq_ifn hf cc
              refine tq_iconst (M := mL_law b n xs) (pc := 2484) dL_law_2484 tk_ki_0 ?_
              refine tq_zret (M := mL_law b n xs) (pc := 2485) dL_law_2485 rfl (Or.inl rfl) ?_
              cases (Option.some.inj hf)
              exact hx _ rfl
          refine tq_if_eq (M := mL_law b n xs) (pc := 2472) (tgt := 2479) dL_law_2472 (by decide) (fun cc => ?_) (fun cc => ?_)
          · have hf := tq_ifp ep16.symm cc
            refine tq_lconst (M := mL_law b n xs) (pc := 2479) dL_law_2479 tk_kl_0 ?_
            refine tq_pick (L2 := [(0, .retAddr b), (1, .ref i1), (2, .ref i2), (3, .ref i3), (4, .int y4)]) [1, 2, 3, 4, 5] rfl ?_
            cases hf
            exact HJ2472
          · have hf := tq_ifn ep16.symm cc
            refine tq_lconst (M := mL_law b n xs) (pc := 2475) dL_law_2475 tk_kl_1 ?_
            refine tq_goto (M := mL_law b n xs) (pc := 2476) (tgt := 2480) dL_law_2476 (by decide) ?_
            refine tq_pick (L2 := [(0, .retAddr b), (1, .ref i1), (2, .ref i2), (3, .ref i3), (4, .int y4)]) [1, 2, 3, 4, 5] rfl ?_
            cases hf
            exact HJ2472
      · have hf := tq_ifn hf cc
        refine tq_iconst (M := mL_law b n xs) (pc := 2460) dL_law_2460 tk_ki_0 ?_
        refine tq_zret (M := mL_law b n xs) (pc := 2461) dL_law_2461 rfl (Or.inl rfl) ?_
        cases (Option.some.inj hf)
        exact hx _ rfl
    refine tq_if_eq (M := mL_law b n xs) (pc := 2438) (tgt := 2445) dL_law_2438 (by decide) (fun cc => ?_) (fun cc => ?_)
    · have hf := tq_ifp ep9.symm cc
      refine tq_iconst (M := mL_law b n xs) (pc := 2445) dL_law_2445 tk_ki_0 ?_
      refine tq_pick (L2 := [(0, .retAddr b), (1, .ref i1), (2, .ref i2), (3, .ref i3), (4, .int y4), (5, .int v5.1)]) [1, 2, 3, 4, 5, 0] rfl ?_
      cases hf
      exact HJ2438
    · have hf := tq_ifn ep9.symm cc
      refine tq_iconst (M := mL_law b n xs) (pc := 2441) dL_law_2441 tk_ki_1 ?_
      refine tq_goto (M := mL_law b n xs) (pc := 2442) (tgt := 2446) dL_law_2442 (by decide) ?_
      refine tq_pick (L2 := [(0, .retAddr b), (1, .ref i1), (2, .ref i2), (3, .ref i3), (4, .int y4), (5, .int v5.1)]) [1, 2, 3, 4, 5, 0] rfl ?_
      cases hf
      exact HJ2438
  refine tq_if_eq (M := mL_law b n xs) (pc := 2405) (tgt := 2412) dL_law_2405 (by decide) (fun cc => ?_) (fun cc => ?_)
  · have hf := tq_ifp ep4.symm cc
    refine tq_iconst (M := mL_law b n xs) (pc := 2412) dL_law_2412 tk_ki_0 ?_
    cases hf
    exact HJ2405
  · have hf := tq_ifn ep4.symm cc
    refine tq_iconst (M := mL_law b n xs) (pc := 2408) dL_law_2408 tk_ki_1 ?_
    refine tq_goto (M := mL_law b n xs) (pc := 2409) (tgt := 2413) dL_law_2409 (by decide) ?_
    cases hf
    exact HJ2405
def f_L_law_c2489 (n : Nat) (xs : Nat → Int32) (i1 i2 i3 : Nat) (y4 : Int32) (hh : tq_H) : Option ((Int32 × tq_H) ⊕ (Int32 × tq_H)) :=
  (tq_sx n xs (y4 + (1 : Int32))).bind fun x1 =>
  (tq_sx n xs (y4 + (2 : Int32))).bind fun x2 =>
  tq_let (if x2 = 0 then (0 : Int32) else (1 : Int32)) fun p3 =>
  (f_L_allowTexts i1 x1 p3 i3 hh).bind fun v4 =>
  (tq_sx n xs (y4 + (1 : Int32))).bind fun x5 =>
  (tq_sx n xs (y4 + (2 : Int32))).bind fun x6 =>
  tq_let (if x6 = 0 then (0 : Int32) else (1 : Int32)) fun p7 =>
  (tq_is v4.2 i2 11).bind fun _ =>
  (f_X11_allowTexts i2 x5 p7 v4.2).bind fun v8 =>
  (tq_is v8.2 i2 11).bind fun _ =>
  (f_X11_thrown i2 v8.2).bind fun v10 =>
  if v10 = v4.1 then
    if v4.1 = 0 then
      (tq_aj v8.2 i3 (0 : Int32)).bind fun x13 =>
      tq_let (if v8.1 = 0 then (0 : Int64) else (1 : Int64)) fun p14 =>
      if (lg_cmp x13 p14) = 0 then
        tq_let (y4 + (5 : Int32)) fun x15 =>
        some (.inl (x15, v8.2))
      else
        some (.inr ((0 : Int32), v8.2))
    else
      tq_let (y4 + (5 : Int32)) fun x12 =>
      some (.inl (x12, v8.2))
  else
    some (.inr ((0 : Int32), v8.2))
set_option maxHeartbeats 4000000 in
set_option maxRecDepth 20000 in
theorem c_L_law_2489 {l : Launch} {d : Nat} (hd9 : 10 ≤ d) {b n : Nat} {xs : Nat → Int32} {i1 i2 i3 : Nat} {y4 : Int32} {hh : tq_H} {Q : tq_R → tq_H → Prop} {bc bs : Nat} {oo : (Int32 × tq_H) ⊕ (Int32 × tq_H)} (hf : f_L_law_c2489 n xs i1 i2 i3 y4 hh = some oo) (hc : ∀ s9, oo = .inl s9 → tq_W l (mL_law b n xs) d bc bs Q 23 [(0, .retAddr b), (1, .ref i1), (2, .ref i2), (3, .ref i3), (4, .int s9.1)] [] s9.2) (hx : ∀ e9, oo = .inr e9 → Q (.inl (some (.int e9.1))) e9.2) : tq_W l (mL_law b n xs) d (2 + bc) (12 + bs) Q 2489 [(0, .retAddr b), (1, .ref i1), (2, .ref i2), (3, .ref i3), (4, .int y4)] [] hh := by
  refine tq_aload_n (M := mL_law b n xs) (pc := 2489) dL_law_2489 rfl ?_
  refine tq_xload (M := mL_law b n xs) (pc := 2490) dL_law_2490 rfl ?_
  refine tq_iload (M := mL_law b n xs) (pc := 2491) dL_law_2491 rfl ?_
  refine tq_iconst (M := mL_law b n xs) (pc := 2493) dL_law_2493 tk_ki_1 ?_
  refine tq_iadd (M := mL_law b n xs) (pc := 2494) dL_law_2494 ?_
  obtain ⟨x1, ex1, hf⟩ := tq_be hf
  refine tq_xld (M := mL_law b n xs) (pc := 2495) dL_law_2495 (n := n) (xs := xs) rfl ex1 ?_
  refine tq_xload (M := mL_law b n xs) (pc := 2496) dL_law_2496 rfl ?_
  refine tq_iload (M := mL_law b n xs) (pc := 2497) dL_law_2497 rfl ?_
  refine tq_iconst (M := mL_law b n xs) (pc := 2499) dL_law_2499 tk_ki_2 ?_
  refine tq_iadd (M := mL_law b n xs) (pc := 2500) dL_law_2500 ?_
  obtain ⟨x2, ex2, hf⟩ := tq_be hf
  refine tq_xld (M := mL_law b n xs) (pc := 2501) dL_law_2501 (n := n) (xs := xs) rfl ex2 ?_
  obtain ⟨p3, ep3, hf⟩ := tq_le hf
  have HJ2502 : tq_W l (mL_law b n xs) d (2 + bc) (12 + bs) Q 2510 [(0, .retAddr b), (1, .ref i1), (2, .ref i2), (3, .ref i3), (4, .int y4)] [.int p3, .int x1, .ref i1] hh := by
    refine tq_aload_n (M := mL_law b n xs) (pc := 2510) dL_law_2510 rfl ?_
    obtain ⟨v4, ev4, hf⟩ := tq_be hf
    refine tq_calSW (M := mL_law b n xs) (pc := 2511) (S := []) tk_w_L_allowTexts.1 tk_w_L_allowTexts.2.1 tk_w_L_allowTexts.2.2.1 tk_w_L_allowTexts.2.2.2.1 tk_w_L_allowTexts.2.2.2.2 tk_s_L_allowTexts tk_RL_300 dL_law_2511 [.ref i1, .int x1, .int p3, .ref i3] rfl (Nat.le_of_ble_eq_true rfl) (d1 := d - 1) (b1 := 2) (s1 := 12) (bc' := (0 + bc)) (bs' := (0 + bs)) (Q1 := fun r h9 => r = .inl (some (.int v4.1)) ∧ v4.2 = h9) (by omega) (by omega) (by omega) (w_L_allowTexts (by omega) ev4 (fun _ _ q => q)) (fun E h9 q => nomatch (show (Sum.inr E : tq_R) = Sum.inl _ from q.1)) (fun r9 h9 q => ?_)
    obtain ⟨q1, rfl⟩ := q
    cases (show (Sum.inl r9 : tq_R) = Sum.inl (some (.int v4.1)) from q1)
    refine tq_istore (M := mL_law b n xs) (pc := 2514) dL_law_2514 (L2 := [(5, .int v4.1), (0, .retAddr b), (1, .ref i1), (2, .ref i2), (3, .ref i3), (4, .int y4)]) (Nat.le_of_ble_eq_true rfl) rfl ?_
    refine tq_aload_n (M := mL_law b n xs) (pc := 2516) dL_law_2516 rfl ?_
    refine tq_xload (M := mL_law b n xs) (pc := 2517) dL_law_2517 rfl ?_
    refine tq_iload (M := mL_law b n xs) (pc := 2518) dL_law_2518 rfl ?_
    refine tq_iconst (M := mL_law b n xs) (pc := 2520) dL_law_2520 tk_ki_1 ?_
    refine tq_iadd (M := mL_law b n xs) (pc := 2521) dL_law_2521 ?_
    obtain ⟨x5, ex5, hf⟩ := tq_be hf
    refine tq_xld (M := mL_law b n xs) (pc := 2522) dL_law_2522 (n := n) (xs := xs) rfl ex5 ?_
    refine tq_xload (M := mL_law b n xs) (pc := 2523) dL_law_2523 rfl ?_
    refine tq_iload (M := mL_law b n xs) (pc := 2524) dL_law_2524 rfl ?_
    refine tq_iconst (M := mL_law b n xs) (pc := 2526) dL_law_2526 tk_ki_2 ?_
    refine tq_iadd (M := mL_law b n xs) (pc := 2527) dL_law_2527 ?_
    obtain ⟨x6, ex6, hf⟩ := tq_be hf
    refine tq_xld (M := mL_law b n xs) (pc := 2528) dL_law_2528 (n := n) (xs := xs) rfl ex6 ?_
    obtain ⟨p7, ep7, hf⟩ := tq_le hf
    have HJ2529 : tq_W l (mL_law b n xs) d (0 + bc) (0 + bs) Q 2537 [(0, .retAddr b), (1, .ref i1), (2, .ref i2), (3, .ref i3), (4, .int y4), (5, .int v4.1)] [.int p7, .int x5, .ref i2] v4.2 := by
      obtain ⟨⟨⟩, eu9, hf⟩ := tq_be hf
      obtain ⟨fsu9, eu9⟩ := tq_is_s eu9
      obtain ⟨v8, ev8, hf⟩ := tq_be hf
      refine tq_calV (M := mL_law b n xs) (pc := 2537) (S := []) tk_y_X11_allowTexts tk_v_X11_allowTexts tk_RL_303 dL_law_2537 [.int x5, .int p7] rfl (S0 := _) rfl eu9 rfl (Nat.le_of_ble_eq_true rfl) (d1 := d - 1) (b1 := 0) (s1 := 0) (bc' := (0 + bc)) (bs' := (0 + bs)) (Q1 := fun r h9 => r = .inl (some (.int v8.1)) ∧ v8.2 = h9) (by omega) (by omega) (by omega) (w_X11_allowTexts (by omega) ev8 (fun _ _ q => q)) (fun E h9 q => nomatch (show (Sum.inr E : tq_R) = Sum.inl _ from q.1)) (fun r9 h9 q => ?_)
      obtain ⟨q1, rfl⟩ := q
      cases (show (Sum.inl r9 : tq_R) = Sum.inl (some (.int v8.1)) from q1)
      refine tq_istore (M := mL_law b n xs) (pc := 2540) dL_law_2540 (L2 := [(6, .int v8.1), (0, .retAddr b), (1, .ref i1), (2, .ref i2), (3, .ref i3), (4, .int y4), (5, .int v4.1)]) (Nat.le_of_ble_eq_true rfl) rfl ?_
      refine tq_aload_n (M := mL_law b n xs) (pc := 2542) dL_law_2542 rfl ?_
      obtain ⟨⟨⟩, eu11, hf⟩ := tq_be hf
      obtain ⟨fsu11, eu11⟩ := tq_is_s eu11
      obtain ⟨v10, ev10, hf⟩ := tq_be hf
      refine tq_calV (M := mL_law b n xs) (pc := 2543) (S := []) tk_y_X11_thrown tk_v_X11_thrown tk_RL_177 dL_law_2543 [] rfl (S0 := _) rfl eu11 rfl (Nat.le_of_ble_eq_true rfl) (d1 := d - 1) (b1 := 0) (s1 := 0) (bc' := (0 + bc)) (bs' := (0 + bs)) (Q1 := fun r h9 => r = .inl (some (.int v10)) ∧ v8.2 = h9) (by omega) (by omega) (by omega) (w_X11_thrown (by omega) ev10 (fun _ _ q => q)) (fun E h9 q => nomatch (show (Sum.inr E : tq_R) = Sum.inl _ from q.1)) (fun r9 h9 q => ?_)
      obtain ⟨q1, rfl⟩ := q
      cases (show (Sum.inl r9 : tq_R) = Sum.inl (some (.int v10)) from q1)
      refine tq_iload (M := mL_law b n xs) (pc := 2546) dL_law_2546 rfl ?_
      refine tq_icmp_eq (M := mL_law b n xs) (pc := 2548) (tgt := 2553) dL_law_2548 (by decide) (fun cc => ?_) (fun cc => ?_)
      · have hf := tq_ifp hf cc
        refine tq_iload (M := mL_law b n xs) (pc := 2553) dL_law_2553 rfl ?_
        refine tq_if_ne (M := mL_law b n xs) (pc := 2555) (tgt := 2577) dL_law_2555 (by decide) (fun cc => ?_) (fun cc => ?_)
        · have hf := tq_ifn hf cc
          refine tq_goto (M := mL_law b n xs) (pc := 2577) (tgt := 3605) dL_law_2577 (by decide) ?_
          obtain ⟨x12, ex12, hf⟩ := tq_le hf
          refine tq_iinc (M := mL_law b n xs) (pc := 3605) (v := x12) (L2 := [(4, .int x12), (6, .int v8.1), (0, .retAddr b), (1, .ref i1), (2, .ref i2), (3, .ref i3), (5, .int v4.1)]) dL_law_3605 rfl (by rw [ex12, tk_ki_5]) (Nat.le_of_ble_eq_true rfl) rfl ?_
          refine tq_goto (M := mL_law b n xs) (pc := 3608) (tgt := 23) dL_law_3608 (by decide) ?_
          refine tq_pick (L2 := [(0, .retAddr b), (1, .ref i1), (2, .ref i2), (3, .ref i3), (4, .int x12)]) [2, 3, 4, 5, 0] rfl ?_
          cases (Option.some.inj hf)
          exact tq_more (by omega) (by omega) (hc _ rfl)
        · have hf := tq_ifp hf cc
          refine tq_aload_n (M := mL_law b n xs) (pc := 2558) dL_law_2558 rfl ?_
          refine tq_iconst (M := mL_law b n xs) (pc := 2559) dL_law_2559 tk_ki_0 ?_
          obtain ⟨x13, ex13, hf⟩ := tq_be hf
          refine tq_laldF (M := mL_law b n xs) (pc := 2560) dL_law_2560 ex13 ?_
          refine tq_iload (M := mL_law b n xs) (pc := 2561) dL_law_2561 rfl ?_
          obtain ⟨p14, ep14, hf⟩ := tq_le hf
          have HJ2563 : tq_W l (mL_law b n xs) d (0 + bc) (0 + bs) Q 2571 [(0, .retAddr b), (1, .ref i1), (2, .ref i2), (3, .ref i3), (4, .int y4)] [.long p14, .long x13] v8.2 := by
            refine tq_lcmp (M := mL_law b n xs) (pc := 2571) dL_law_2571 ?_
            refine tq_if_eq (M := mL_law b n xs) (pc := 2572) (tgt := 2577) dL_law_2572 (by decide) (fun cc => ?_) (fun cc => ?_)
            · have hf := tq_ifp hf cc
              refine tq_goto (M := mL_law b n xs) (pc := 2577) (tgt := 3605) dL_law_2577 (by decide) ?_
              obtain ⟨x15, ex15, hf⟩ := tq_le hf
              refine tq_iinc (M := mL_law b n xs) (pc := 3605) (v := x15) (L2 := [(4, .int x15), (0, .retAddr b), (1, .ref i1), (2, .ref i2), (3, .ref i3)]) dL_law_3605 rfl (by rw [ex15, tk_ki_5]) (Nat.le_of_ble_eq_true rfl) rfl ?_
              refine tq_goto (M := mL_law b n xs) (pc := 3608) (tgt := 23) dL_law_3608 (by decide) ?_
              refine tq_pick (L2 := [(0, .retAddr b), (1, .ref i1), (2, .ref i2), (3, .ref i3), (4, .int x15)]) [1, 2, 3, 4, 0] rfl ?_
              cases (Option.some.inj hf)
              exact tq_more (by omega) (by omega) (hc _ rfl)
            · have hf := tq_ifn hf cc
              refine tq_iconst (M := mL_law b n xs) (pc := 2575) dL_law_2575 tk_ki_0 ?_
              refine tq_zret (M := mL_law b n xs) (pc := 2576) dL_law_2576 rfl (Or.inl rfl) ?_
              cases (Option.some.inj hf)
              exact hx _ rfl
          refine tq_if_eq (M := mL_law b n xs) (pc := 2563) (tgt := 2570) dL_law_2563 (by decide) (fun cc => ?_) (fun cc => ?_)
          · have hf := tq_ifp ep14.symm cc
            refine tq_lconst (M := mL_law b n xs) (pc := 2570) dL_law_2570 tk_kl_0 ?_
            refine tq_pick (L2 := [(0, .retAddr b), (1, .ref i1), (2, .ref i2), (3, .ref i3), (4, .int y4)]) [1, 2, 3, 4, 5] rfl ?_
            cases hf
            exact HJ2563
          · have hf := tq_ifn ep14.symm cc
            refine tq_lconst (M := mL_law b n xs) (pc := 2566) dL_law_2566 tk_kl_1 ?_
            refine tq_goto (M := mL_law b n xs) (pc := 2567) (tgt := 2571) dL_law_2567 (by decide) ?_
            refine tq_pick (L2 := [(0, .retAddr b), (1, .ref i1), (2, .ref i2), (3, .ref i3), (4, .int y4)]) [1, 2, 3, 4, 5] rfl ?_
            cases hf
            exact HJ2563
      · have hf := tq_ifn hf cc
        refine tq_iconst (M := mL_law b n xs) (pc := 2551) dL_law_2551 tk_ki_0 ?_
        refine tq_zret (M := mL_law b n xs) (pc := 2552) dL_law_2552 rfl (Or.inl rfl) ?_
        cases (Option.some.inj hf)
        exact hx _ rfl
    refine tq_if_eq (M := mL_law b n xs) (pc := 2529) (tgt := 2536) dL_law_2529 (by decide) (fun cc => ?_) (fun cc => ?_)
    · have hf := tq_ifp ep7.symm cc
      refine tq_iconst (M := mL_law b n xs) (pc := 2536) dL_law_2536 tk_ki_0 ?_
      refine tq_pick (L2 := [(0, .retAddr b), (1, .ref i1), (2, .ref i2), (3, .ref i3), (4, .int y4), (5, .int v4.1)]) [1, 2, 3, 4, 5, 0] rfl ?_
      cases hf
      exact HJ2529
    · have hf := tq_ifn ep7.symm cc
      refine tq_iconst (M := mL_law b n xs) (pc := 2532) dL_law_2532 tk_ki_1 ?_
      refine tq_goto (M := mL_law b n xs) (pc := 2533) (tgt := 2537) dL_law_2533 (by decide) ?_
      refine tq_pick (L2 := [(0, .retAddr b), (1, .ref i1), (2, .ref i2), (3, .ref i3), (4, .int y4), (5, .int v4.1)]) [1, 2, 3, 4, 5, 0] rfl ?_
      cases hf
      exact HJ2529
  refine tq_if_eq (M := mL_law b n xs) (pc := 2502) (tgt := 2509) dL_law_2502 (by decide) (fun cc => ?_) (fun cc => ?_)
  · have hf := tq_ifp ep3.symm cc
    refine tq_iconst (M := mL_law b n xs) (pc := 2509) dL_law_2509 tk_ki_0 ?_
    cases hf
    exact HJ2502
  · have hf := tq_ifn ep3.symm cc
    refine tq_iconst (M := mL_law b n xs) (pc := 2505) dL_law_2505 tk_ki_1 ?_
    refine tq_goto (M := mL_law b n xs) (pc := 2506) (tgt := 2510) dL_law_2506 (by decide) ?_
    cases hf
    exact HJ2502
def f_L_law_c2580 (n : Nat) (xs : Nat → Int32) (i1 i2 i3 : Nat) (y4 : Int32) (hh : tq_H) : Option ((Int32 × tq_H) ⊕ (Int32 × tq_H)) :=
  (tq_sx n xs (y4 + (1 : Int32))).bind fun x1 =>
  (tq_sx n xs (y4 + (2 : Int32))).bind fun x2 =>
  (tq_sx n xs (y4 + (3 : Int32))).bind fun x3 =>
  (f_L_attribute i1 x1 x2 x3 i3 hh).bind fun v4 =>
  (tq_sx n xs (y4 + (1 : Int32))).bind fun x5 =>
  (tq_sx n xs (y4 + (2 : Int32))).bind fun x6 =>
  (tq_sx n xs (y4 + (3 : Int32))).bind fun x7 =>
  (tq_is v4.2 i2 11).bind fun _ =>
  (f_X11_attribute i2 x5 x6 x7 v4.2).bind fun v8 =>
  (tq_is v8.2 i2 11).bind fun _ =>
  (f_X11_thrown i2 v8.2).bind fun v10 =>
  if v10 = v4.1 then
    if v4.1 = 0 then
      (tq_aj v8.2 i3 (0 : Int32)).bind fun x13 =>
      if (lg_cmp x13 (v8.1).toInt64) = 0 then
        tq_let (y4 + (5 : Int32)) fun x14 =>
        some (.inl (x14, v8.2))
      else
        some (.inr ((0 : Int32), v8.2))
    else
      tq_let (y4 + (5 : Int32)) fun x12 =>
      some (.inl (x12, v8.2))
  else
    some (.inr ((0 : Int32), v8.2))
set_option maxHeartbeats 4000000 in
set_option maxRecDepth 20000 in
theorem c_L_law_2580 {l : Launch} {d : Nat} (hd9 : 10 ≤ d) {b n : Nat} {xs : Nat → Int32} {i1 i2 i3 : Nat} {y4 : Int32} {hh : tq_H} {Q : tq_R → tq_H → Prop} {bc bs : Nat} {oo : (Int32 × tq_H) ⊕ (Int32 × tq_H)} (hf : f_L_law_c2580 n xs i1 i2 i3 y4 hh = some oo) (hc : ∀ s9, oo = .inl s9 → tq_W l (mL_law b n xs) d bc bs Q 23 [(0, .retAddr b), (1, .ref i1), (2, .ref i2), (3, .ref i3), (4, .int s9.1)] [] s9.2) (hx : ∀ e9, oo = .inr e9 → Q (.inl (some (.int e9.1))) e9.2) : tq_W l (mL_law b n xs) d (4 + bc) (24 + bs) Q 2580 [(0, .retAddr b), (1, .ref i1), (2, .ref i2), (3, .ref i3), (4, .int y4)] [] hh := by
  refine tq_aload_n (M := mL_law b n xs) (pc := 2580) dL_law_2580 rfl ?_
  refine tq_xload (M := mL_law b n xs) (pc := 2581) dL_law_2581 rfl ?_
  refine tq_iload (M := mL_law b n xs) (pc := 2582) dL_law_2582 rfl ?_
  refine tq_iconst (M := mL_law b n xs) (pc := 2584) dL_law_2584 tk_ki_1 ?_
  refine tq_iadd (M := mL_law b n xs) (pc := 2585) dL_law_2585 ?_
  obtain ⟨x1, ex1, hf⟩ := tq_be hf
  refine tq_xld (M := mL_law b n xs) (pc := 2586) dL_law_2586 (n := n) (xs := xs) rfl ex1 ?_
  refine tq_xload (M := mL_law b n xs) (pc := 2587) dL_law_2587 rfl ?_
  refine tq_iload (M := mL_law b n xs) (pc := 2588) dL_law_2588 rfl ?_
  refine tq_iconst (M := mL_law b n xs) (pc := 2590) dL_law_2590 tk_ki_2 ?_
  refine tq_iadd (M := mL_law b n xs) (pc := 2591) dL_law_2591 ?_
  obtain ⟨x2, ex2, hf⟩ := tq_be hf
  refine tq_xld (M := mL_law b n xs) (pc := 2592) dL_law_2592 (n := n) (xs := xs) rfl ex2 ?_
  refine tq_xload (M := mL_law b n xs) (pc := 2593) dL_law_2593 rfl ?_
  refine tq_iload (M := mL_law b n xs) (pc := 2594) dL_law_2594 rfl ?_
  refine tq_iconst (M := mL_law b n xs) (pc := 2596) dL_law_2596 tk_ki_3 ?_
  refine tq_iadd (M := mL_law b n xs) (pc := 2597) dL_law_2597 ?_
  obtain ⟨x3, ex3, hf⟩ := tq_be hf
  refine tq_xld (M := mL_law b n xs) (pc := 2598) dL_law_2598 (n := n) (xs := xs) rfl ex3 ?_
  refine tq_aload_n (M := mL_law b n xs) (pc := 2599) dL_law_2599 rfl ?_
  obtain ⟨v4, ev4, hf⟩ := tq_be hf
  refine tq_calSW (M := mL_law b n xs) (pc := 2600) (S := []) tk_w_L_attribute.1 tk_w_L_attribute.2.1 tk_w_L_attribute.2.2.1 tk_w_L_attribute.2.2.2.1 tk_w_L_attribute.2.2.2.2 tk_s_L_attribute tk_RL_304 dL_law_2600 [.ref i1, .int x1, .int x2, .int x3, .ref i3] rfl (Nat.le_of_ble_eq_true rfl) (d1 := d - 1) (b1 := 4) (s1 := 24) (bc' := (0 + bc)) (bs' := (0 + bs)) (Q1 := fun r h9 => r = .inl (some (.int v4.1)) ∧ v4.2 = h9) (by omega) (by omega) (by omega) (w_L_attribute (by omega) ev4 (fun _ _ q => q)) (fun E h9 q => nomatch (show (Sum.inr E : tq_R) = Sum.inl _ from q.1)) (fun r9 h9 q => ?_)
  obtain ⟨q1, rfl⟩ := q
  cases (show (Sum.inl r9 : tq_R) = Sum.inl (some (.int v4.1)) from q1)
  refine tq_istore (M := mL_law b n xs) (pc := 2603) dL_law_2603 (L2 := [(5, .int v4.1), (0, .retAddr b), (1, .ref i1), (2, .ref i2), (3, .ref i3), (4, .int y4)]) (Nat.le_of_ble_eq_true rfl) rfl ?_
  refine tq_aload_n (M := mL_law b n xs) (pc := 2605) dL_law_2605 rfl ?_
  refine tq_xload (M := mL_law b n xs) (pc := 2606) dL_law_2606 rfl ?_
  refine tq_iload (M := mL_law b n xs) (pc := 2607) dL_law_2607 rfl ?_
  refine tq_iconst (M := mL_law b n xs) (pc := 2609) dL_law_2609 tk_ki_1 ?_
  refine tq_iadd (M := mL_law b n xs) (pc := 2610) dL_law_2610 ?_
  obtain ⟨x5, ex5, hf⟩ := tq_be hf
  refine tq_xld (M := mL_law b n xs) (pc := 2611) dL_law_2611 (n := n) (xs := xs) rfl ex5 ?_
  refine tq_xload (M := mL_law b n xs) (pc := 2612) dL_law_2612 rfl ?_
  refine tq_iload (M := mL_law b n xs) (pc := 2613) dL_law_2613 rfl ?_
  refine tq_iconst (M := mL_law b n xs) (pc := 2615) dL_law_2615 tk_ki_2 ?_
  refine tq_iadd (M := mL_law b n xs) (pc := 2616) dL_law_2616 ?_
  obtain ⟨x6, ex6, hf⟩ := tq_be hf
  refine tq_xld (M := mL_law b n xs) (pc := 2617) dL_law_2617 (n := n) (xs := xs) rfl ex6 ?_
  refine tq_xload (M := mL_law b n xs) (pc := 2618) dL_law_2618 rfl ?_
  refine tq_iload (M := mL_law b n xs) (pc := 2619) dL_law_2619 rfl ?_
  refine tq_iconst (M := mL_law b n xs) (pc := 2621) dL_law_2621 tk_ki_3 ?_
  refine tq_iadd (M := mL_law b n xs) (pc := 2622) dL_law_2622 ?_
  obtain ⟨x7, ex7, hf⟩ := tq_be hf
  refine tq_xld (M := mL_law b n xs) (pc := 2623) dL_law_2623 (n := n) (xs := xs) rfl ex7 ?_
  obtain ⟨⟨⟩, eu9, hf⟩ := tq_be hf
  obtain ⟨fsu9, eu9⟩ := tq_is_s eu9
  obtain ⟨v8, ev8, hf⟩ := tq_be hf
  refine tq_calV (M := mL_law b n xs) (pc := 2624) (S := []) tk_y_X11_attribute tk_v_X11_attribute tk_RL_306 dL_law_2624 [.int x5, .int x6, .int x7] rfl (S0 := _) rfl eu9 rfl (Nat.le_of_ble_eq_true rfl) (d1 := d - 1) (b1 := 0) (s1 := 0) (bc' := (0 + bc)) (bs' := (0 + bs)) (Q1 := fun r h9 => r = .inl (some (.int v8.1)) ∧ v8.2 = h9) (by omega) (by omega) (by omega) (w_X11_attribute (by omega) ev8 (fun _ _ q => q)) (fun E h9 q => nomatch (show (Sum.inr E : tq_R) = Sum.inl _ from q.1)) (fun r9 h9 q => ?_)
  obtain ⟨q1, rfl⟩ := q
  cases (show (Sum.inl r9 : tq_R) = Sum.inl (some (.int v8.1)) from q1)
  refine tq_istore (M := mL_law b n xs) (pc := 2627) dL_law_2627 (L2 := [(6, .int v8.1), (5, .int v4.1), (0, .retAddr b), (1, .ref i1), (2, .ref i2), (3, .ref i3), (4, .int y4)]) (Nat.le_of_ble_eq_true rfl) rfl ?_
  refine tq_aload_n (M := mL_law b n xs) (pc := 2629) dL_law_2629 rfl ?_
  obtain ⟨⟨⟩, eu11, hf⟩ := tq_be hf
  obtain ⟨fsu11, eu11⟩ := tq_is_s eu11
  obtain ⟨v10, ev10, hf⟩ := tq_be hf
  refine tq_calV (M := mL_law b n xs) (pc := 2630) (S := []) tk_y_X11_thrown tk_v_X11_thrown tk_RL_177 dL_law_2630 [] rfl (S0 := _) rfl eu11 rfl (Nat.le_of_ble_eq_true rfl) (d1 := d - 1) (b1 := 0) (s1 := 0) (bc' := (0 + bc)) (bs' := (0 + bs)) (Q1 := fun r h9 => r = .inl (some (.int v10)) ∧ v8.2 = h9) (by omega) (by omega) (by omega) (w_X11_thrown (by omega) ev10 (fun _ _ q => q)) (fun E h9 q => nomatch (show (Sum.inr E : tq_R) = Sum.inl _ from q.1)) (fun r9 h9 q => ?_)
  obtain ⟨q1, rfl⟩ := q
  cases (show (Sum.inl r9 : tq_R) = Sum.inl (some (.int v10)) from q1)
  refine tq_iload (M := mL_law b n xs) (pc := 2633) dL_law_2633 rfl ?_
  refine tq_icmp_eq (M := mL_law b n xs) (pc := 2635) (tgt := 2640) dL_law_2635 (by decide) (fun cc => ?_) (fun cc => ?_)
  · have hf := tq_ifp hf cc
    refine tq_iload (M := mL_law b n xs) (pc := 2640) dL_law_2640 rfl ?_
    refine tq_if_ne (M := mL_law b n xs) (pc := 2642) (tgt := 2657) dL_law_2642 (by decide) (fun cc => ?_) (fun cc => ?_)
    · have hf := tq_ifn hf cc
      refine tq_goto (M := mL_law b n xs) (pc := 2657) (tgt := 3605) dL_law_2657 (by decide) ?_
      obtain ⟨x12, ex12, hf⟩ := tq_le hf
      refine tq_iinc (M := mL_law b n xs) (pc := 3605) (v := x12) (L2 := [(4, .int x12), (6, .int v8.1), (5, .int v4.1), (0, .retAddr b), (1, .ref i1), (2, .ref i2), (3, .ref i3)]) dL_law_3605 rfl (by rw [ex12, tk_ki_5]) (Nat.le_of_ble_eq_true rfl) rfl ?_
      refine tq_goto (M := mL_law b n xs) (pc := 3608) (tgt := 23) dL_law_3608 (by decide) ?_
      refine tq_pick (L2 := [(0, .retAddr b), (1, .ref i1), (2, .ref i2), (3, .ref i3), (4, .int x12)]) [3, 4, 5, 6, 0] rfl ?_
      cases (Option.some.inj hf)
      exact tq_more (by omega) (by omega) (hc _ rfl)
    · have hf := tq_ifp hf cc
      refine tq_aload_n (M := mL_law b n xs) (pc := 2645) dL_law_2645 rfl ?_
      refine tq_iconst (M := mL_law b n xs) (pc := 2646) dL_law_2646 tk_ki_0 ?_
      obtain ⟨x13, ex13, hf⟩ := tq_be hf
      refine tq_laldF (M := mL_law b n xs) (pc := 2647) dL_law_2647 ex13 ?_
      refine tq_iload (M := mL_law b n xs) (pc := 2648) dL_law_2648 rfl ?_
      refine tq_i2l (M := mL_law b n xs) (pc := 2650) dL_law_2650 ?_
      refine tq_lcmp (M := mL_law b n xs) (pc := 2651) dL_law_2651 ?_
      refine tq_if_eq (M := mL_law b n xs) (pc := 2652) (tgt := 2657) dL_law_2652 (by decide) (fun cc => ?_) (fun cc => ?_)
      · have hf := tq_ifp hf cc
        refine tq_goto (M := mL_law b n xs) (pc := 2657) (tgt := 3605) dL_law_2657 (by decide) ?_
        obtain ⟨x14, ex14, hf⟩ := tq_le hf
        refine tq_iinc (M := mL_law b n xs) (pc := 3605) (v := x14) (L2 := [(4, .int x14), (6, .int v8.1), (5, .int v4.1), (0, .retAddr b), (1, .ref i1), (2, .ref i2), (3, .ref i3)]) dL_law_3605 rfl (by rw [ex14, tk_ki_5]) (Nat.le_of_ble_eq_true rfl) rfl ?_
        refine tq_goto (M := mL_law b n xs) (pc := 3608) (tgt := 23) dL_law_3608 (by decide) ?_
        refine tq_pick (L2 := [(0, .retAddr b), (1, .ref i1), (2, .ref i2), (3, .ref i3), (4, .int x14)]) [3, 4, 5, 6, 0] rfl ?_
        cases (Option.some.inj hf)
        exact tq_more (by omega) (by omega) (hc _ rfl)
      · have hf := tq_ifn hf cc
        refine tq_iconst (M := mL_law b n xs) (pc := 2655) dL_law_2655 tk_ki_0 ?_
        refine tq_zret (M := mL_law b n xs) (pc := 2656) dL_law_2656 rfl (Or.inl rfl) ?_
        cases (Option.some.inj hf)
        exact hx _ rfl
  · have hf := tq_ifn hf cc
    refine tq_iconst (M := mL_law b n xs) (pc := 2638) dL_law_2638 tk_ki_0 ?_
    refine tq_zret (M := mL_law b n xs) (pc := 2639) dL_law_2639 rfl (Or.inl rfl) ?_
    cases (Option.some.inj hf)
    exact hx _ rfl
def f_L_law_c2660 (n : Nat) (xs : Nat → Int32) (i1 i2 i3 : Nat) (y4 : Int32) (hh : tq_H) : Option ((Int32 × tq_H) ⊕ (Int32 × tq_H)) :=
  (tq_sx n xs (y4 + (1 : Int32))).bind fun x1 =>
  tq_let (if x1 = 0 then (0 : Int32) else (1 : Int32)) fun p2 =>
  (f_L_setStrict i1 p2 i3 hh).bind fun v3 =>
  (tq_sx n xs (y4 + (1 : Int32))).bind fun x4 =>
  tq_let (if x4 = 0 then (0 : Int32) else (1 : Int32)) fun p5 =>
  (tq_is v3.2 i2 11).bind fun _ =>
  (f_X11_setStrict i2 p5 v3.2).bind fun v6 =>
  (tq_is v6.2 i2 11).bind fun _ =>
  (f_X11_thrown i2 v6.2).bind fun v8 =>
  if v8 = v3.1 then
    if v3.1 = 0 then
      (tq_aj v6.2 i3 (0 : Int32)).bind fun x11 =>
      tq_let (if v6.1 = 0 then (0 : Int64) else (1 : Int64)) fun p12 =>
      if (lg_cmp x11 p12) = 0 then
        tq_let (y4 + (5 : Int32)) fun x13 =>
        some (.inl (x13, v6.2))
      else
        some (.inr ((0 : Int32), v6.2))
    else
      tq_let (y4 + (5 : Int32)) fun x10 =>
      some (.inl (x10, v6.2))
  else
    some (.inr ((0 : Int32), v6.2))
set_option maxHeartbeats 4000000 in
set_option maxRecDepth 20000 in
theorem c_L_law_2660 {l : Launch} {d : Nat} (hd9 : 10 ≤ d) {b n : Nat} {xs : Nat → Int32} {i1 i2 i3 : Nat} {y4 : Int32} {hh : tq_H} {Q : tq_R → tq_H → Prop} {bc bs : Nat} {oo : (Int32 × tq_H) ⊕ (Int32 × tq_H)} (hf : f_L_law_c2660 n xs i1 i2 i3 y4 hh = some oo) (hc : ∀ s9, oo = .inl s9 → tq_W l (mL_law b n xs) d bc bs Q 23 [(0, .retAddr b), (1, .ref i1), (2, .ref i2), (3, .ref i3), (4, .int s9.1)] [] s9.2) (hx : ∀ e9, oo = .inr e9 → Q (.inl (some (.int e9.1))) e9.2) : tq_W l (mL_law b n xs) d (1 + bc) (6 + bs) Q 2660 [(0, .retAddr b), (1, .ref i1), (2, .ref i2), (3, .ref i3), (4, .int y4)] [] hh := by
  refine tq_aload_n (M := mL_law b n xs) (pc := 2660) dL_law_2660 rfl ?_
  refine tq_xload (M := mL_law b n xs) (pc := 2661) dL_law_2661 rfl ?_
  refine tq_iload (M := mL_law b n xs) (pc := 2662) dL_law_2662 rfl ?_
  refine tq_iconst (M := mL_law b n xs) (pc := 2664) dL_law_2664 tk_ki_1 ?_
  refine tq_iadd (M := mL_law b n xs) (pc := 2665) dL_law_2665 ?_
  obtain ⟨x1, ex1, hf⟩ := tq_be hf
  refine tq_xld (M := mL_law b n xs) (pc := 2666) dL_law_2666 (n := n) (xs := xs) rfl ex1 ?_
  obtain ⟨p2, ep2, hf⟩ := tq_le hf
  have HJ2667 : tq_W l (mL_law b n xs) d (1 + bc) (6 + bs) Q 2675 [(0, .retAddr b), (1, .ref i1), (2, .ref i2), (3, .ref i3), (4, .int y4)] [.int p2, .ref i1] hh := by
    refine tq_aload_n (M := mL_law b n xs) (pc := 2675) dL_law_2675 rfl ?_
    obtain ⟨v3, ev3, hf⟩ := tq_be hf
    refine tq_calSW (M := mL_law b n xs) (pc := 2676) (S := []) tk_w_L_setStrict.1 tk_w_L_setStrict.2.1 tk_w_L_setStrict.2.2.1 tk_w_L_setStrict.2.2.2.1 tk_w_L_setStrict.2.2.2.2 tk_s_L_setStrict tk_RL_307 dL_law_2676 [.ref i1, .int p2, .ref i3] rfl (Nat.le_of_ble_eq_true rfl) (d1 := d - 1) (b1 := 1) (s1 := 6) (bc' := (0 + bc)) (bs' := (0 + bs)) (Q1 := fun r h9 => r = .inl (some (.int v3.1)) ∧ v3.2 = h9) (by omega) (by omega) (by omega) (w_L_setStrict (by omega) ev3 (fun _ _ q => q)) (fun E h9 q => nomatch (show (Sum.inr E : tq_R) = Sum.inl _ from q.1)) (fun r9 h9 q => ?_)
    obtain ⟨q1, rfl⟩ := q
    cases (show (Sum.inl r9 : tq_R) = Sum.inl (some (.int v3.1)) from q1)
    refine tq_istore (M := mL_law b n xs) (pc := 2679) dL_law_2679 (L2 := [(5, .int v3.1), (0, .retAddr b), (1, .ref i1), (2, .ref i2), (3, .ref i3), (4, .int y4)]) (Nat.le_of_ble_eq_true rfl) rfl ?_
    refine tq_aload_n (M := mL_law b n xs) (pc := 2681) dL_law_2681 rfl ?_
    refine tq_xload (M := mL_law b n xs) (pc := 2682) dL_law_2682 rfl ?_
    refine tq_iload (M := mL_law b n xs) (pc := 2683) dL_law_2683 rfl ?_
    refine tq_iconst (M := mL_law b n xs) (pc := 2685) dL_law_2685 tk_ki_1 ?_
    refine tq_iadd (M := mL_law b n xs) (pc := 2686) dL_law_2686 ?_
    obtain ⟨x4, ex4, hf⟩ := tq_be hf
    refine tq_xld (M := mL_law b n xs) (pc := 2687) dL_law_2687 (n := n) (xs := xs) rfl ex4 ?_
    obtain ⟨p5, ep5, hf⟩ := tq_le hf
    have HJ2688 : tq_W l (mL_law b n xs) d (0 + bc) (0 + bs) Q 2696 [(0, .retAddr b), (1, .ref i1), (2, .ref i2), (3, .ref i3), (4, .int y4), (5, .int v3.1)] [.int p5, .ref i2] v3.2 := by
      obtain ⟨⟨⟩, eu7, hf⟩ := tq_be hf
      obtain ⟨fsu7, eu7⟩ := tq_is_s eu7
      obtain ⟨v6, ev6, hf⟩ := tq_be hf
      refine tq_calV (M := mL_law b n xs) (pc := 2696) (S := []) tk_y_X11_setStrict tk_v_X11_setStrict tk_RL_310 dL_law_2696 [.int p5] rfl (S0 := _) rfl eu7 rfl (Nat.le_of_ble_eq_true rfl) (d1 := d - 1) (b1 := 0) (s1 := 0) (bc' := (0 + bc)) (bs' := (0 + bs)) (Q1 := fun r h9 => r = .inl (some (.int v6.1)) ∧ v6.2 = h9) (by omega) (by omega) (by omega) (w_X11_setStrict (by omega) ev6 (fun _ _ q => q)) (fun E h9 q => nomatch (show (Sum.inr E : tq_R) = Sum.inl _ from q.1)) (fun r9 h9 q => ?_)
      obtain ⟨q1, rfl⟩ := q
      cases (show (Sum.inl r9 : tq_R) = Sum.inl (some (.int v6.1)) from q1)
      refine tq_istore (M := mL_law b n xs) (pc := 2699) dL_law_2699 (L2 := [(6, .int v6.1), (0, .retAddr b), (1, .ref i1), (2, .ref i2), (3, .ref i3), (4, .int y4), (5, .int v3.1)]) (Nat.le_of_ble_eq_true rfl) rfl ?_
      refine tq_aload_n (M := mL_law b n xs) (pc := 2701) dL_law_2701 rfl ?_
      obtain ⟨⟨⟩, eu9, hf⟩ := tq_be hf
      obtain ⟨fsu9, eu9⟩ := tq_is_s eu9
      obtain ⟨v8, ev8, hf⟩ := tq_be hf
      refine tq_calV (M := mL_law b n xs) (pc := 2702) (S := []) tk_y_X11_thrown tk_v_X11_thrown tk_RL_177 dL_law_2702 [] rfl (S0 := _) rfl eu9 rfl (Nat.le_of_ble_eq_true rfl) (d1 := d - 1) (b1 := 0) (s1 := 0) (bc' := (0 + bc)) (bs' := (0 + bs)) (Q1 := fun r h9 => r = .inl (some (.int v8)) ∧ v6.2 = h9) (by omega) (by omega) (by omega) (w_X11_thrown (by omega) ev8 (fun _ _ q => q)) (fun E h9 q => nomatch (show (Sum.inr E : tq_R) = Sum.inl _ from q.1)) (fun r9 h9 q => ?_)
      obtain ⟨q1, rfl⟩ := q
      cases (show (Sum.inl r9 : tq_R) = Sum.inl (some (.int v8)) from q1)
      refine tq_iload (M := mL_law b n xs) (pc := 2705) dL_law_2705 rfl ?_
      refine tq_icmp_eq (M := mL_law b n xs) (pc := 2707) (tgt := 2712) dL_law_2707 (by decide) (fun cc => ?_) (fun cc => ?_)
      · have hf := tq_ifp hf cc
        refine tq_iload (M := mL_law b n xs) (pc := 2712) dL_law_2712 rfl ?_
        refine tq_if_ne (M := mL_law b n xs) (pc := 2714) (tgt := 2736) dL_law_2714 (by decide) (fun cc => ?_) (fun cc => ?_)
        · have hf := tq_ifn hf cc
          refine tq_goto (M := mL_law b n xs) (pc := 2736) (tgt := 3605) dL_law_2736 (by decide) ?_
          obtain ⟨x10, ex10, hf⟩ := tq_le hf
          refine tq_iinc (M := mL_law b n xs) (pc := 3605) (v := x10) (L2 := [(4, .int x10), (6, .int v6.1), (0, .retAddr b), (1, .ref i1), (2, .ref i2), (3, .ref i3), (5, .int v3.1)]) dL_law_3605 rfl (by rw [ex10, tk_ki_5]) (Nat.le_of_ble_eq_true rfl) rfl ?_
          refine tq_goto (M := mL_law b n xs) (pc := 3608) (tgt := 23) dL_law_3608 (by decide) ?_
          refine tq_pick (L2 := [(0, .retAddr b), (1, .ref i1), (2, .ref i2), (3, .ref i3), (4, .int x10)]) [2, 3, 4, 5, 0] rfl ?_
          cases (Option.some.inj hf)
          exact tq_more (by omega) (by omega) (hc _ rfl)
        · have hf := tq_ifp hf cc
          refine tq_aload_n (M := mL_law b n xs) (pc := 2717) dL_law_2717 rfl ?_
          refine tq_iconst (M := mL_law b n xs) (pc := 2718) dL_law_2718 tk_ki_0 ?_
          obtain ⟨x11, ex11, hf⟩ := tq_be hf
          refine tq_laldF (M := mL_law b n xs) (pc := 2719) dL_law_2719 ex11 ?_
          refine tq_iload (M := mL_law b n xs) (pc := 2720) dL_law_2720 rfl ?_
          obtain ⟨p12, ep12, hf⟩ := tq_le hf
          have HJ2722 : tq_W l (mL_law b n xs) d (0 + bc) (0 + bs) Q 2730 [(0, .retAddr b), (1, .ref i1), (2, .ref i2), (3, .ref i3), (4, .int y4)] [.long p12, .long x11] v6.2 := by
            refine tq_lcmp (M := mL_law b n xs) (pc := 2730) dL_law_2730 ?_
            refine tq_if_eq (M := mL_law b n xs) (pc := 2731) (tgt := 2736) dL_law_2731 (by decide) (fun cc => ?_) (fun cc => ?_)
            · have hf := tq_ifp hf cc
              refine tq_goto (M := mL_law b n xs) (pc := 2736) (tgt := 3605) dL_law_2736 (by decide) ?_
              obtain ⟨x13, ex13, hf⟩ := tq_le hf
              refine tq_iinc (M := mL_law b n xs) (pc := 3605) (v := x13) (L2 := [(4, .int x13), (0, .retAddr b), (1, .ref i1), (2, .ref i2), (3, .ref i3)]) dL_law_3605 rfl (by rw [ex13, tk_ki_5]) (Nat.le_of_ble_eq_true rfl) rfl ?_
              refine tq_goto (M := mL_law b n xs) (pc := 3608) (tgt := 23) dL_law_3608 (by decide) ?_
              refine tq_pick (L2 := [(0, .retAddr b), (1, .ref i1), (2, .ref i2), (3, .ref i3), (4, .int x13)]) [1, 2, 3, 4, 0] rfl ?_
              cases (Option.some.inj hf)
              exact tq_more (by omega) (by omega) (hc _ rfl)
            · have hf := tq_ifn hf cc
              refine tq_iconst (M := mL_law b n xs) (pc := 2734) dL_law_2734 tk_ki_0 ?_
              refine tq_zret (M := mL_law b n xs) (pc := 2735) dL_law_2735 rfl (Or.inl rfl) ?_
              cases (Option.some.inj hf)
              exact hx _ rfl
          refine tq_if_eq (M := mL_law b n xs) (pc := 2722) (tgt := 2729) dL_law_2722 (by decide) (fun cc => ?_) (fun cc => ?_)
          · have hf := tq_ifp ep12.symm cc
            refine tq_lconst (M := mL_law b n xs) (pc := 2729) dL_law_2729 tk_kl_0 ?_
            refine tq_pick (L2 := [(0, .retAddr b), (1, .ref i1), (2, .ref i2), (3, .ref i3), (4, .int y4)]) [1, 2, 3, 4, 5] rfl ?_
            cases hf
            exact HJ2722
          · have hf := tq_ifn ep12.symm cc
            refine tq_lconst (M := mL_law b n xs) (pc := 2725) dL_law_2725 tk_kl_1 ?_
            refine tq_goto (M := mL_law b n xs) (pc := 2726) (tgt := 2730) dL_law_2726 (by decide) ?_
            refine tq_pick (L2 := [(0, .retAddr b), (1, .ref i1), (2, .ref i2), (3, .ref i3), (4, .int y4)]) [1, 2, 3, 4, 5] rfl ?_
            cases hf
            exact HJ2722
      · have hf := tq_ifn hf cc
        refine tq_iconst (M := mL_law b n xs) (pc := 2710) dL_law_2710 tk_ki_0 ?_
        refine tq_zret (M := mL_law b n xs) (pc := 2711) dL_law_2711 rfl (Or.inl rfl) ?_
        cases (Option.some.inj hf)
        exact hx _ rfl
    refine tq_if_eq (M := mL_law b n xs) (pc := 2688) (tgt := 2695) dL_law_2688 (by decide) (fun cc => ?_) (fun cc => ?_)
    · have hf := tq_ifp ep5.symm cc
      refine tq_iconst (M := mL_law b n xs) (pc := 2695) dL_law_2695 tk_ki_0 ?_
      refine tq_pick (L2 := [(0, .retAddr b), (1, .ref i1), (2, .ref i2), (3, .ref i3), (4, .int y4), (5, .int v3.1)]) [1, 2, 3, 4, 5, 0] rfl ?_
      cases hf
      exact HJ2688
    · have hf := tq_ifn ep5.symm cc
      refine tq_iconst (M := mL_law b n xs) (pc := 2691) dL_law_2691 tk_ki_1 ?_
      refine tq_goto (M := mL_law b n xs) (pc := 2692) (tgt := 2696) dL_law_2692 (by decide) ?_
      refine tq_pick (L2 := [(0, .retAddr b), (1, .ref i1), (2, .ref i2), (3, .ref i3), (4, .int y4), (5, .int v3.1)]) [1, 2, 3, 4, 5, 0] rfl ?_
      cases hf
      exact HJ2688
  refine tq_if_eq (M := mL_law b n xs) (pc := 2667) (tgt := 2674) dL_law_2667 (by decide) (fun cc => ?_) (fun cc => ?_)
  · have hf := tq_ifp ep2.symm cc
    refine tq_iconst (M := mL_law b n xs) (pc := 2674) dL_law_2674 tk_ki_0 ?_
    cases hf
    exact HJ2667
  · have hf := tq_ifn ep2.symm cc
    refine tq_iconst (M := mL_law b n xs) (pc := 2670) dL_law_2670 tk_ki_1 ?_
    refine tq_goto (M := mL_law b n xs) (pc := 2671) (tgt := 2675) dL_law_2671 (by decide) ?_
    cases hf
    exact HJ2667
def f_L_law_c2739 (n : Nat) (xs : Nat → Int32) (i1 i2 i3 : Nat) (y4 : Int32) (hh : tq_H) : Option ((Int32 × tq_H) ⊕ (Int32 × tq_H)) :=
  (tq_is hh i1 10).bind fun _ =>
  (f_X10_isValid i1 hh).bind fun v1 =>
  (tq_is v1.2 i2 11).bind fun _ =>
  (f_X11_isValid i2 v1.2).bind fun v3 =>
  if v1.1 = v3.1 then
    tq_let (y4 + (5 : Int32)) fun x5 =>
    some (.inl (x5, v3.2))
  else
    some (.inr ((0 : Int32), v3.2))
set_option maxHeartbeats 4000000 in
set_option maxRecDepth 20000 in
theorem c_L_law_2739 {l : Launch} {d : Nat} (hd9 : 10 ≤ d) {b n : Nat} {xs : Nat → Int32} {i1 i2 i3 : Nat} {y4 : Int32} {hh : tq_H} {Q : tq_R → tq_H → Prop} {bc bs : Nat} {oo : (Int32 × tq_H) ⊕ (Int32 × tq_H)} (hf : f_L_law_c2739 n xs i1 i2 i3 y4 hh = some oo) (hc : ∀ s9, oo = .inl s9 → tq_W l (mL_law b n xs) d bc bs Q 23 [(0, .retAddr b), (1, .ref i1), (2, .ref i2), (3, .ref i3), (4, .int s9.1)] [] s9.2) (hx : ∀ e9, oo = .inr e9 → Q (.inl (some (.int e9.1))) e9.2) : tq_W l (mL_law b n xs) d (0 + bc) (0 + bs) Q 2739 [(0, .retAddr b), (1, .ref i1), (2, .ref i2), (3, .ref i3), (4, .int y4)] [] hh := by
  refine tq_aload_n (M := mL_law b n xs) (pc := 2739) dL_law_2739 rfl ?_
  obtain ⟨⟨⟩, eu2, hf⟩ := tq_be hf
  obtain ⟨fsu2, eu2⟩ := tq_is_s eu2
  obtain ⟨v1, ev1, hf⟩ := tq_be hf
  refine tq_calV (M := mL_law b n xs) (pc := 2740) (S := []) tk_y_X10_isValid tk_v_X10_isValid tk_RL_311 dL_law_2740 [] rfl (S0 := _) rfl eu2 rfl (Nat.le_of_ble_eq_true rfl) (d1 := d - 1) (b1 := 0) (s1 := 0) (bc' := (0 + bc)) (bs' := (0 + bs)) (Q1 := fun r h9 => r = .inl (some (.int v1.1)) ∧ v1.2 = h9) (by omega) (by omega) (by omega) (w_X10_isValid (by omega) ev1 (fun _ _ q => q)) (fun E h9 q => nomatch (show (Sum.inr E : tq_R) = Sum.inl _ from q.1)) (fun r9 h9 q => ?_)
  obtain ⟨q1, rfl⟩ := q
  cases (show (Sum.inl r9 : tq_R) = Sum.inl (some (.int v1.1)) from q1)
  refine tq_aload_n (M := mL_law b n xs) (pc := 2743) dL_law_2743 rfl ?_
  obtain ⟨⟨⟩, eu4, hf⟩ := tq_be hf
  obtain ⟨fsu4, eu4⟩ := tq_is_s eu4
  obtain ⟨v3, ev3, hf⟩ := tq_be hf
  refine tq_calV (M := mL_law b n xs) (pc := 2744) (S := [.int v1.1]) tk_y_X11_isValid tk_v_X11_isValid tk_RL_315 dL_law_2744 [] rfl (S0 := _) rfl eu4 rfl (Nat.le_of_ble_eq_true rfl) (d1 := d - 1) (b1 := 0) (s1 := 0) (bc' := (0 + bc)) (bs' := (0 + bs)) (Q1 := fun r h9 => r = .inl (some (.int v3.1)) ∧ v3.2 = h9) (by omega) (by omega) (by omega) (w_X11_isValid (by omega) ev3 (fun _ _ q => q)) (fun E h9 q => nomatch (show (Sum.inr E : tq_R) = Sum.inl _ from q.1)) (fun r9 h9 q => ?_)
  obtain ⟨q1, rfl⟩ := q
  cases (show (Sum.inl r9 : tq_R) = Sum.inl (some (.int v3.1)) from q1)
  refine tq_icmp_eq (M := mL_law b n xs) (pc := 2747) (tgt := 3605) dL_law_2747 (by decide) (fun cc => ?_) (fun cc => ?_)
  · have hf := tq_ifp hf cc
    obtain ⟨x5, ex5, hf⟩ := tq_le hf
    refine tq_iinc (M := mL_law b n xs) (pc := 3605) (v := x5) (L2 := [(4, .int x5), (0, .retAddr b), (1, .ref i1), (2, .ref i2), (3, .ref i3)]) dL_law_3605 rfl (by rw [ex5, tk_ki_5]) (Nat.le_of_ble_eq_true rfl) rfl ?_
    refine tq_goto (M := mL_law b n xs) (pc := 3608) (tgt := 23) dL_law_3608 (by decide) ?_
    refine tq_pick (L2 := [(0, .retAddr b), (1, .ref i1), (2, .ref i2), (3, .ref i3), (4, .int x5)]) [1, 2, 3, 4, 0] rfl ?_
    cases (Option.some.inj hf)
    exact tq_more (by omega) (by omega) (hc _ rfl)
  · have hf := tq_ifn hf cc
    refine tq_iconst (M := mL_law b n xs) (pc := 2750) dL_law_2750 tk_ki_0 ?_
    refine tq_zret (M := mL_law b n xs) (pc := 2751) dL_law_2751 rfl (Or.inl rfl) ?_
    cases (Option.some.inj hf)
    exact hx _ rfl
def f_L_law_c2752 (n : Nat) (xs : Nat → Int32) (i1 i2 i3 : Nat) (y4 : Int32) (hh : tq_H) : Option ((Int32 × tq_H) ⊕ (Int32 × tq_H)) :=
  (tq_sx n xs (y4 + (1 : Int32))).bind fun x1 =>
  (f_L_types i1 x1 i3 hh).bind fun v2 =>
  (tq_sx n xs (y4 + (1 : Int32))).bind fun x3 =>
  (tq_is v2.2 i2 11).bind fun _ =>
  (f_X11_types i2 x3 v2.2).bind fun v4 =>
  (tq_is v4.2 i2 11).bind fun _ =>
  (f_X11_thrown i2 v4.2).bind fun v6 =>
  if v6 = v2.1 then
    if v2.1 = 0 then
      (tq_aj v4.2 i3 (0 : Int32)).bind fun x9 =>
      if (lg_cmp x9 (v4.1).toInt64) = 0 then
        tq_let (y4 + (5 : Int32)) fun x10 =>
        some (.inl (x10, v4.2))
      else
        some (.inr ((0 : Int32), v4.2))
    else
      tq_let (y4 + (5 : Int32)) fun x8 =>
      some (.inl (x8, v4.2))
  else
    some (.inr ((0 : Int32), v4.2))
set_option maxHeartbeats 4000000 in
set_option maxRecDepth 20000 in
theorem c_L_law_2752 {l : Launch} {d : Nat} (hd9 : 10 ≤ d) {b n : Nat} {xs : Nat → Int32} {i1 i2 i3 : Nat} {y4 : Int32} {hh : tq_H} {Q : tq_R → tq_H → Prop} {bc bs : Nat} {oo : (Int32 × tq_H) ⊕ (Int32 × tq_H)} (hf : f_L_law_c2752 n xs i1 i2 i3 y4 hh = some oo) (hc : ∀ s9, oo = .inl s9 → tq_W l (mL_law b n xs) d bc bs Q 23 [(0, .retAddr b), (1, .ref i1), (2, .ref i2), (3, .ref i3), (4, .int s9.1)] [] s9.2) (hx : ∀ e9, oo = .inr e9 → Q (.inl (some (.int e9.1))) e9.2) : tq_W l (mL_law b n xs) d (1 + bc) (6 + bs) Q 2752 [(0, .retAddr b), (1, .ref i1), (2, .ref i2), (3, .ref i3), (4, .int y4)] [] hh := by
  refine tq_aload_n (M := mL_law b n xs) (pc := 2752) dL_law_2752 rfl ?_
  refine tq_xload (M := mL_law b n xs) (pc := 2753) dL_law_2753 rfl ?_
  refine tq_iload (M := mL_law b n xs) (pc := 2754) dL_law_2754 rfl ?_
  refine tq_iconst (M := mL_law b n xs) (pc := 2756) dL_law_2756 tk_ki_1 ?_
  refine tq_iadd (M := mL_law b n xs) (pc := 2757) dL_law_2757 ?_
  obtain ⟨x1, ex1, hf⟩ := tq_be hf
  refine tq_xld (M := mL_law b n xs) (pc := 2758) dL_law_2758 (n := n) (xs := xs) rfl ex1 ?_
  refine tq_aload_n (M := mL_law b n xs) (pc := 2759) dL_law_2759 rfl ?_
  obtain ⟨v2, ev2, hf⟩ := tq_be hf
  refine tq_calSW (M := mL_law b n xs) (pc := 2760) (S := []) tk_w_L_types.1 tk_w_L_types.2.1 tk_w_L_types.2.2.1 tk_w_L_types.2.2.2.1 tk_w_L_types.2.2.2.2 tk_s_L_types tk_RL_316 dL_law_2760 [.ref i1, .int x1, .ref i3] rfl (Nat.le_of_ble_eq_true rfl) (d1 := d - 1) (b1 := 1) (s1 := 6) (bc' := (0 + bc)) (bs' := (0 + bs)) (Q1 := fun r h9 => r = .inl (some (.int v2.1)) ∧ v2.2 = h9) (by omega) (by omega) (by omega) (w_L_types (by omega) ev2 (fun _ _ q => q)) (fun E h9 q => nomatch (show (Sum.inr E : tq_R) = Sum.inl _ from q.1)) (fun r9 h9 q => ?_)
  obtain ⟨q1, rfl⟩ := q
  cases (show (Sum.inl r9 : tq_R) = Sum.inl (some (.int v2.1)) from q1)
  refine tq_istore (M := mL_law b n xs) (pc := 2763) dL_law_2763 (L2 := [(5, .int v2.1), (0, .retAddr b), (1, .ref i1), (2, .ref i2), (3, .ref i3), (4, .int y4)]) (Nat.le_of_ble_eq_true rfl) rfl ?_
  refine tq_aload_n (M := mL_law b n xs) (pc := 2765) dL_law_2765 rfl ?_
  refine tq_xload (M := mL_law b n xs) (pc := 2766) dL_law_2766 rfl ?_
  refine tq_iload (M := mL_law b n xs) (pc := 2767) dL_law_2767 rfl ?_
  refine tq_iconst (M := mL_law b n xs) (pc := 2769) dL_law_2769 tk_ki_1 ?_
  refine tq_iadd (M := mL_law b n xs) (pc := 2770) dL_law_2770 ?_
  obtain ⟨x3, ex3, hf⟩ := tq_be hf
  refine tq_xld (M := mL_law b n xs) (pc := 2771) dL_law_2771 (n := n) (xs := xs) rfl ex3 ?_
  obtain ⟨⟨⟩, eu5, hf⟩ := tq_be hf
  obtain ⟨fsu5, eu5⟩ := tq_is_s eu5
  obtain ⟨v4, ev4, hf⟩ := tq_be hf
  refine tq_calV (M := mL_law b n xs) (pc := 2772) (S := []) tk_y_X11_types tk_v_X11_types tk_RL_318 dL_law_2772 [.int x3] rfl (S0 := _) rfl eu5 rfl (Nat.le_of_ble_eq_true rfl) (d1 := d - 1) (b1 := 0) (s1 := 0) (bc' := (0 + bc)) (bs' := (0 + bs)) (Q1 := fun r h9 => r = .inl (some (.int v4.1)) ∧ v4.2 = h9) (by omega) (by omega) (by omega) (w_X11_types (by omega) ev4 (fun _ _ q => q)) (fun E h9 q => nomatch (show (Sum.inr E : tq_R) = Sum.inl _ from q.1)) (fun r9 h9 q => ?_)
  obtain ⟨q1, rfl⟩ := q
  cases (show (Sum.inl r9 : tq_R) = Sum.inl (some (.int v4.1)) from q1)
  refine tq_istore (M := mL_law b n xs) (pc := 2775) dL_law_2775 (L2 := [(6, .int v4.1), (5, .int v2.1), (0, .retAddr b), (1, .ref i1), (2, .ref i2), (3, .ref i3), (4, .int y4)]) (Nat.le_of_ble_eq_true rfl) rfl ?_
  refine tq_aload_n (M := mL_law b n xs) (pc := 2777) dL_law_2777 rfl ?_
  obtain ⟨⟨⟩, eu7, hf⟩ := tq_be hf
  obtain ⟨fsu7, eu7⟩ := tq_is_s eu7
  obtain ⟨v6, ev6, hf⟩ := tq_be hf
  refine tq_calV (M := mL_law b n xs) (pc := 2778) (S := []) tk_y_X11_thrown tk_v_X11_thrown tk_RL_177 dL_law_2778 [] rfl (S0 := _) rfl eu7 rfl (Nat.le_of_ble_eq_true rfl) (d1 := d - 1) (b1 := 0) (s1 := 0) (bc' := (0 + bc)) (bs' := (0 + bs)) (Q1 := fun r h9 => r = .inl (some (.int v6)) ∧ v4.2 = h9) (by omega) (by omega) (by omega) (w_X11_thrown (by omega) ev6 (fun _ _ q => q)) (fun E h9 q => nomatch (show (Sum.inr E : tq_R) = Sum.inl _ from q.1)) (fun r9 h9 q => ?_)
  obtain ⟨q1, rfl⟩ := q
  cases (show (Sum.inl r9 : tq_R) = Sum.inl (some (.int v6)) from q1)
  refine tq_iload (M := mL_law b n xs) (pc := 2781) dL_law_2781 rfl ?_
  refine tq_icmp_eq (M := mL_law b n xs) (pc := 2783) (tgt := 2788) dL_law_2783 (by decide) (fun cc => ?_) (fun cc => ?_)
  · have hf := tq_ifp hf cc
    refine tq_iload (M := mL_law b n xs) (pc := 2788) dL_law_2788 rfl ?_
    refine tq_if_ne (M := mL_law b n xs) (pc := 2790) (tgt := 2805) dL_law_2790 (by decide) (fun cc => ?_) (fun cc => ?_)
    · have hf := tq_ifn hf cc
      refine tq_goto (M := mL_law b n xs) (pc := 2805) (tgt := 3605) dL_law_2805 (by decide) ?_
      obtain ⟨x8, ex8, hf⟩ := tq_le hf
      refine tq_iinc (M := mL_law b n xs) (pc := 3605) (v := x8) (L2 := [(4, .int x8), (6, .int v4.1), (5, .int v2.1), (0, .retAddr b), (1, .ref i1), (2, .ref i2), (3, .ref i3)]) dL_law_3605 rfl (by rw [ex8, tk_ki_5]) (Nat.le_of_ble_eq_true rfl) rfl ?_
      refine tq_goto (M := mL_law b n xs) (pc := 3608) (tgt := 23) dL_law_3608 (by decide) ?_
      refine tq_pick (L2 := [(0, .retAddr b), (1, .ref i1), (2, .ref i2), (3, .ref i3), (4, .int x8)]) [3, 4, 5, 6, 0] rfl ?_
      cases (Option.some.inj hf)
      exact tq_more (by omega) (by omega) (hc _ rfl)
    · have hf := tq_ifp hf cc
      refine tq_aload_n (M := mL_law b n xs) (pc := 2793) dL_law_2793 rfl ?_
      refine tq_iconst (M := mL_law b n xs) (pc := 2794) dL_law_2794 tk_ki_0 ?_
      obtain ⟨x9, ex9, hf⟩ := tq_be hf
      refine tq_laldF (M := mL_law b n xs) (pc := 2795) dL_law_2795 ex9 ?_
      refine tq_iload (M := mL_law b n xs) (pc := 2796) dL_law_2796 rfl ?_
      refine tq_i2l (M := mL_law b n xs) (pc := 2798) dL_law_2798 ?_
      refine tq_lcmp (M := mL_law b n xs) (pc := 2799) dL_law_2799 ?_
      refine tq_if_eq (M := mL_law b n xs) (pc := 2800) (tgt := 2805) dL_law_2800 (by decide) (fun cc => ?_) (fun cc => ?_)
      · have hf := tq_ifp hf cc
        refine tq_goto (M := mL_law b n xs) (pc := 2805) (tgt := 3605) dL_law_2805 (by decide) ?_
        obtain ⟨x10, ex10, hf⟩ := tq_le hf
        refine tq_iinc (M := mL_law b n xs) (pc := 3605) (v := x10) (L2 := [(4, .int x10), (6, .int v4.1), (5, .int v2.1), (0, .retAddr b), (1, .ref i1), (2, .ref i2), (3, .ref i3)]) dL_law_3605 rfl (by rw [ex10, tk_ki_5]) (Nat.le_of_ble_eq_true rfl) rfl ?_
        refine tq_goto (M := mL_law b n xs) (pc := 3608) (tgt := 23) dL_law_3608 (by decide) ?_
        refine tq_pick (L2 := [(0, .retAddr b), (1, .ref i1), (2, .ref i2), (3, .ref i3), (4, .int x10)]) [3, 4, 5, 6, 0] rfl ?_
        cases (Option.some.inj hf)
        exact tq_more (by omega) (by omega) (hc _ rfl)
      · have hf := tq_ifn hf cc
        refine tq_iconst (M := mL_law b n xs) (pc := 2803) dL_law_2803 tk_ki_0 ?_
        refine tq_zret (M := mL_law b n xs) (pc := 2804) dL_law_2804 rfl (Or.inl rfl) ?_
        cases (Option.some.inj hf)
        exact hx _ rfl
  · have hf := tq_ifn hf cc
    refine tq_iconst (M := mL_law b n xs) (pc := 2786) dL_law_2786 tk_ki_0 ?_
    refine tq_zret (M := mL_law b n xs) (pc := 2787) dL_law_2787 rfl (Or.inl rfl) ?_
    cases (Option.some.inj hf)
    exact hx _ rfl
def f_L_law_c2808 (n : Nat) (xs : Nat → Int32) (i1 i2 i3 : Nat) (y4 : Int32) (hh : tq_H) : Option ((Int32 × tq_H) ⊕ (Int32 × tq_H)) :=
  (tq_sx n xs (y4 + (1 : Int32))).bind fun x1 =>
  (f_L_infer i1 x1 i3 hh).bind fun v2 =>
  (tq_sx n xs (y4 + (1 : Int32))).bind fun x3 =>
  (tq_is v2.2 i2 11).bind fun _ =>
  (f_X11_infer i2 x3 v2.2).bind fun v4 =>
  (tq_is v4.2 i2 11).bind fun _ =>
  (f_X11_thrown i2 v4.2).bind fun v6 =>
  if v6 = v2.1 then
    if v2.1 = 0 then
      (tq_aj v4.2 i3 (0 : Int32)).bind fun x9 =>
      if (lg_cmp x9 (v4.1).toInt64) = 0 then
        tq_let (y4 + (5 : Int32)) fun x10 =>
        some (.inl (x10, v4.2))
      else
        some (.inr ((0 : Int32), v4.2))
    else
      tq_let (y4 + (5 : Int32)) fun x8 =>
      some (.inl (x8, v4.2))
  else
    some (.inr ((0 : Int32), v4.2))
set_option maxHeartbeats 4000000 in
set_option maxRecDepth 20000 in
theorem c_L_law_2808 {l : Launch} {d : Nat} (hd9 : 10 ≤ d) {b n : Nat} {xs : Nat → Int32} {i1 i2 i3 : Nat} {y4 : Int32} {hh : tq_H} {Q : tq_R → tq_H → Prop} {bc bs : Nat} {oo : (Int32 × tq_H) ⊕ (Int32 × tq_H)} (hf : f_L_law_c2808 n xs i1 i2 i3 y4 hh = some oo) (hc : ∀ s9, oo = .inl s9 → tq_W l (mL_law b n xs) d bc bs Q 23 [(0, .retAddr b), (1, .ref i1), (2, .ref i2), (3, .ref i3), (4, .int s9.1)] [] s9.2) (hx : ∀ e9, oo = .inr e9 → Q (.inl (some (.int e9.1))) e9.2) : tq_W l (mL_law b n xs) d (1 + bc) (6 + bs) Q 2808 [(0, .retAddr b), (1, .ref i1), (2, .ref i2), (3, .ref i3), (4, .int y4)] [] hh := by
  refine tq_aload_n (M := mL_law b n xs) (pc := 2808) dL_law_2808 rfl ?_
  refine tq_xload (M := mL_law b n xs) (pc := 2809) dL_law_2809 rfl ?_
  refine tq_iload (M := mL_law b n xs) (pc := 2810) dL_law_2810 rfl ?_
  refine tq_iconst (M := mL_law b n xs) (pc := 2812) dL_law_2812 tk_ki_1 ?_
  refine tq_iadd (M := mL_law b n xs) (pc := 2813) dL_law_2813 ?_
  obtain ⟨x1, ex1, hf⟩ := tq_be hf
  refine tq_xld (M := mL_law b n xs) (pc := 2814) dL_law_2814 (n := n) (xs := xs) rfl ex1 ?_
  refine tq_aload_n (M := mL_law b n xs) (pc := 2815) dL_law_2815 rfl ?_
  obtain ⟨v2, ev2, hf⟩ := tq_be hf
  refine tq_calSW (M := mL_law b n xs) (pc := 2816) (S := []) tk_w_L_infer.1 tk_w_L_infer.2.1 tk_w_L_infer.2.2.1 tk_w_L_infer.2.2.2.1 tk_w_L_infer.2.2.2.2 tk_s_L_infer tk_RL_319 dL_law_2816 [.ref i1, .int x1, .ref i3] rfl (Nat.le_of_ble_eq_true rfl) (d1 := d - 1) (b1 := 1) (s1 := 6) (bc' := (0 + bc)) (bs' := (0 + bs)) (Q1 := fun r h9 => r = .inl (some (.int v2.1)) ∧ v2.2 = h9) (by omega) (by omega) (by omega) (w_L_infer (by omega) ev2 (fun _ _ q => q)) (fun E h9 q => nomatch (show (Sum.inr E : tq_R) = Sum.inl _ from q.1)) (fun r9 h9 q => ?_)
  obtain ⟨q1, rfl⟩ := q
  cases (show (Sum.inl r9 : tq_R) = Sum.inl (some (.int v2.1)) from q1)
  refine tq_istore (M := mL_law b n xs) (pc := 2819) dL_law_2819 (L2 := [(5, .int v2.1), (0, .retAddr b), (1, .ref i1), (2, .ref i2), (3, .ref i3), (4, .int y4)]) (Nat.le_of_ble_eq_true rfl) rfl ?_
  refine tq_aload_n (M := mL_law b n xs) (pc := 2821) dL_law_2821 rfl ?_
  refine tq_xload (M := mL_law b n xs) (pc := 2822) dL_law_2822 rfl ?_
  refine tq_iload (M := mL_law b n xs) (pc := 2823) dL_law_2823 rfl ?_
  refine tq_iconst (M := mL_law b n xs) (pc := 2825) dL_law_2825 tk_ki_1 ?_
  refine tq_iadd (M := mL_law b n xs) (pc := 2826) dL_law_2826 ?_
  obtain ⟨x3, ex3, hf⟩ := tq_be hf
  refine tq_xld (M := mL_law b n xs) (pc := 2827) dL_law_2827 (n := n) (xs := xs) rfl ex3 ?_
  obtain ⟨⟨⟩, eu5, hf⟩ := tq_be hf
  obtain ⟨fsu5, eu5⟩ := tq_is_s eu5
  obtain ⟨v4, ev4, hf⟩ := tq_be hf
  refine tq_calV (M := mL_law b n xs) (pc := 2828) (S := []) tk_y_X11_infer tk_v_X11_infer tk_RL_321 dL_law_2828 [.int x3] rfl (S0 := _) rfl eu5 rfl (Nat.le_of_ble_eq_true rfl) (d1 := d - 1) (b1 := 0) (s1 := 0) (bc' := (0 + bc)) (bs' := (0 + bs)) (Q1 := fun r h9 => r = .inl (some (.int v4.1)) ∧ v4.2 = h9) (by omega) (by omega) (by omega) (w_X11_infer (by omega) ev4 (fun _ _ q => q)) (fun E h9 q => nomatch (show (Sum.inr E : tq_R) = Sum.inl _ from q.1)) (fun r9 h9 q => ?_)
  obtain ⟨q1, rfl⟩ := q
  cases (show (Sum.inl r9 : tq_R) = Sum.inl (some (.int v4.1)) from q1)
  refine tq_istore (M := mL_law b n xs) (pc := 2831) dL_law_2831 (L2 := [(6, .int v4.1), (5, .int v2.1), (0, .retAddr b), (1, .ref i1), (2, .ref i2), (3, .ref i3), (4, .int y4)]) (Nat.le_of_ble_eq_true rfl) rfl ?_
  refine tq_aload_n (M := mL_law b n xs) (pc := 2833) dL_law_2833 rfl ?_
  obtain ⟨⟨⟩, eu7, hf⟩ := tq_be hf
  obtain ⟨fsu7, eu7⟩ := tq_is_s eu7
  obtain ⟨v6, ev6, hf⟩ := tq_be hf
  refine tq_calV (M := mL_law b n xs) (pc := 2834) (S := []) tk_y_X11_thrown tk_v_X11_thrown tk_RL_177 dL_law_2834 [] rfl (S0 := _) rfl eu7 rfl (Nat.le_of_ble_eq_true rfl) (d1 := d - 1) (b1 := 0) (s1 := 0) (bc' := (0 + bc)) (bs' := (0 + bs)) (Q1 := fun r h9 => r = .inl (some (.int v6)) ∧ v4.2 = h9) (by omega) (by omega) (by omega) (w_X11_thrown (by omega) ev6 (fun _ _ q => q)) (fun E h9 q => nomatch (show (Sum.inr E : tq_R) = Sum.inl _ from q.1)) (fun r9 h9 q => ?_)
  obtain ⟨q1, rfl⟩ := q
  cases (show (Sum.inl r9 : tq_R) = Sum.inl (some (.int v6)) from q1)
  refine tq_iload (M := mL_law b n xs) (pc := 2837) dL_law_2837 rfl ?_
  refine tq_icmp_eq (M := mL_law b n xs) (pc := 2839) (tgt := 2844) dL_law_2839 (by decide) (fun cc => ?_) (fun cc => ?_)
  · have hf := tq_ifp hf cc
    refine tq_iload (M := mL_law b n xs) (pc := 2844) dL_law_2844 rfl ?_
    refine tq_if_ne (M := mL_law b n xs) (pc := 2846) (tgt := 2861) dL_law_2846 (by decide) (fun cc => ?_) (fun cc => ?_)
    · have hf := tq_ifn hf cc
      refine tq_goto (M := mL_law b n xs) (pc := 2861) (tgt := 3605) dL_law_2861 (by decide) ?_
      obtain ⟨x8, ex8, hf⟩ := tq_le hf
      refine tq_iinc (M := mL_law b n xs) (pc := 3605) (v := x8) (L2 := [(4, .int x8), (6, .int v4.1), (5, .int v2.1), (0, .retAddr b), (1, .ref i1), (2, .ref i2), (3, .ref i3)]) dL_law_3605 rfl (by rw [ex8, tk_ki_5]) (Nat.le_of_ble_eq_true rfl) rfl ?_
      refine tq_goto (M := mL_law b n xs) (pc := 3608) (tgt := 23) dL_law_3608 (by decide) ?_
      refine tq_pick (L2 := [(0, .retAddr b), (1, .ref i1), (2, .ref i2), (3, .ref i3), (4, .int x8)]) [3, 4, 5, 6, 0] rfl ?_
      cases (Option.some.inj hf)
      exact tq_more (by omega) (by omega) (hc _ rfl)
    · have hf := tq_ifp hf cc
      refine tq_aload_n (M := mL_law b n xs) (pc := 2849) dL_law_2849 rfl ?_
      refine tq_iconst (M := mL_law b n xs) (pc := 2850) dL_law_2850 tk_ki_0 ?_
      obtain ⟨x9, ex9, hf⟩ := tq_be hf
      refine tq_laldF (M := mL_law b n xs) (pc := 2851) dL_law_2851 ex9 ?_
      refine tq_iload (M := mL_law b n xs) (pc := 2852) dL_law_2852 rfl ?_
      refine tq_i2l (M := mL_law b n xs) (pc := 2854) dL_law_2854 ?_
      refine tq_lcmp (M := mL_law b n xs) (pc := 2855) dL_law_2855 ?_
      refine tq_if_eq (M := mL_law b n xs) (pc := 2856) (tgt := 2861) dL_law_2856 (by decide) (fun cc => ?_) (fun cc => ?_)
      · have hf := tq_ifp hf cc
        refine tq_goto (M := mL_law b n xs) (pc := 2861) (tgt := 3605) dL_law_2861 (by decide) ?_
        obtain ⟨x10, ex10, hf⟩ := tq_le hf
        refine tq_iinc (M := mL_law b n xs) (pc := 3605) (v := x10) (L2 := [(4, .int x10), (6, .int v4.1), (5, .int v2.1), (0, .retAddr b), (1, .ref i1), (2, .ref i2), (3, .ref i3)]) dL_law_3605 rfl (by rw [ex10, tk_ki_5]) (Nat.le_of_ble_eq_true rfl) rfl ?_
        refine tq_goto (M := mL_law b n xs) (pc := 3608) (tgt := 23) dL_law_3608 (by decide) ?_
        refine tq_pick (L2 := [(0, .retAddr b), (1, .ref i1), (2, .ref i2), (3, .ref i3), (4, .int x10)]) [3, 4, 5, 6, 0] rfl ?_
        cases (Option.some.inj hf)
        exact tq_more (by omega) (by omega) (hc _ rfl)
      · have hf := tq_ifn hf cc
        refine tq_iconst (M := mL_law b n xs) (pc := 2859) dL_law_2859 tk_ki_0 ?_
        refine tq_zret (M := mL_law b n xs) (pc := 2860) dL_law_2860 rfl (Or.inl rfl) ?_
        cases (Option.some.inj hf)
        exact hx _ rfl
  · have hf := tq_ifn hf cc
    refine tq_iconst (M := mL_law b n xs) (pc := 2842) dL_law_2842 tk_ki_0 ?_
    refine tq_zret (M := mL_law b n xs) (pc := 2843) dL_law_2843 rfl (Or.inl rfl) ?_
    cases (Option.some.inj hf)
    exact hx _ rfl
def f_L_law_c2864 (n : Nat) (xs : Nat → Int32) (i1 i2 i3 : Nat) (y4 : Int32) (hh : tq_H) : Option ((Int32 × tq_H) ⊕ (Int32 × tq_H)) :=
  (tq_sx n xs (y4 + (1 : Int32))).bind fun x1 =>
  (f_L_index i1 x1 i3 hh).bind fun v2 =>
  (tq_sx n xs (y4 + (1 : Int32))).bind fun x3 =>
  (tq_is v2.2 i2 11).bind fun _ =>
  (f_X11_index i2 x3 v2.2).bind fun v4 =>
  (tq_is v4.2 i2 11).bind fun _ =>
  (f_X11_thrown i2 v4.2).bind fun v6 =>
  if v6 = v2.1 then
    if v2.1 = 0 then
      (tq_aj v4.2 i3 (0 : Int32)).bind fun x9 =>
      tq_let (if v4.1 = 0 then (0 : Int64) else (1 : Int64)) fun p10 =>
      if (lg_cmp x9 p10) = 0 then
        tq_let (y4 + (5 : Int32)) fun x11 =>
        some (.inl (x11, v4.2))
      else
        some (.inr ((0 : Int32), v4.2))
    else
      tq_let (y4 + (5 : Int32)) fun x8 =>
      some (.inl (x8, v4.2))
  else
    some (.inr ((0 : Int32), v4.2))
set_option maxHeartbeats 4000000 in
set_option maxRecDepth 20000 in
theorem c_L_law_2864 {l : Launch} {d : Nat} (hd9 : 10 ≤ d) {b n : Nat} {xs : Nat → Int32} {i1 i2 i3 : Nat} {y4 : Int32} {hh : tq_H} {Q : tq_R → tq_H → Prop} {bc bs : Nat} {oo : (Int32 × tq_H) ⊕ (Int32 × tq_H)} (hf : f_L_law_c2864 n xs i1 i2 i3 y4 hh = some oo) (hc : ∀ s9, oo = .inl s9 → tq_W l (mL_law b n xs) d bc bs Q 23 [(0, .retAddr b), (1, .ref i1), (2, .ref i2), (3, .ref i3), (4, .int s9.1)] [] s9.2) (hx : ∀ e9, oo = .inr e9 → Q (.inl (some (.int e9.1))) e9.2) : tq_W l (mL_law b n xs) d (1 + bc) (6 + bs) Q 2864 [(0, .retAddr b), (1, .ref i1), (2, .ref i2), (3, .ref i3), (4, .int y4)] [] hh := by
  refine tq_aload_n (M := mL_law b n xs) (pc := 2864) dL_law_2864 rfl ?_
  refine tq_xload (M := mL_law b n xs) (pc := 2865) dL_law_2865 rfl ?_
  refine tq_iload (M := mL_law b n xs) (pc := 2866) dL_law_2866 rfl ?_
  refine tq_iconst (M := mL_law b n xs) (pc := 2868) dL_law_2868 tk_ki_1 ?_
  refine tq_iadd (M := mL_law b n xs) (pc := 2869) dL_law_2869 ?_
  obtain ⟨x1, ex1, hf⟩ := tq_be hf
  refine tq_xld (M := mL_law b n xs) (pc := 2870) dL_law_2870 (n := n) (xs := xs) rfl ex1 ?_
  refine tq_aload_n (M := mL_law b n xs) (pc := 2871) dL_law_2871 rfl ?_
  obtain ⟨v2, ev2, hf⟩ := tq_be hf
  refine tq_calSW (M := mL_law b n xs) (pc := 2872) (S := []) tk_w_L_index.1 tk_w_L_index.2.1 tk_w_L_index.2.2.1 tk_w_L_index.2.2.2.1 tk_w_L_index.2.2.2.2 tk_s_L_index tk_RL_322 dL_law_2872 [.ref i1, .int x1, .ref i3] rfl (Nat.le_of_ble_eq_true rfl) (d1 := d - 1) (b1 := 1) (s1 := 6) (bc' := (0 + bc)) (bs' := (0 + bs)) (Q1 := fun r h9 => r = .inl (some (.int v2.1)) ∧ v2.2 = h9) (by omega) (by omega) (by omega) (w_L_index (by omega) ev2 (fun _ _ q => q)) (fun E h9 q => nomatch (show (Sum.inr E : tq_R) = Sum.inl _ from q.1)) (fun r9 h9 q => ?_)
  obtain ⟨q1, rfl⟩ := q
  cases (show (Sum.inl r9 : tq_R) = Sum.inl (some (.int v2.1)) from q1)
  refine tq_istore (M := mL_law b n xs) (pc := 2875) dL_law_2875 (L2 := [(5, .int v2.1), (0, .retAddr b), (1, .ref i1), (2, .ref i2), (3, .ref i3), (4, .int y4)]) (Nat.le_of_ble_eq_true rfl) rfl ?_
  refine tq_aload_n (M := mL_law b n xs) (pc := 2877) dL_law_2877 rfl ?_
  refine tq_xload (M := mL_law b n xs) (pc := 2878) dL_law_2878 rfl ?_
  refine tq_iload (M := mL_law b n xs) (pc := 2879) dL_law_2879 rfl ?_
  refine tq_iconst (M := mL_law b n xs) (pc := 2881) dL_law_2881 tk_ki_1 ?_
  refine tq_iadd (M := mL_law b n xs) (pc := 2882) dL_law_2882 ?_
  obtain ⟨x3, ex3, hf⟩ := tq_be hf
  refine tq_xld (M := mL_law b n xs) (pc := 2883) dL_law_2883 (n := n) (xs := xs) rfl ex3 ?_
  obtain ⟨⟨⟩, eu5, hf⟩ := tq_be hf
  obtain ⟨fsu5, eu5⟩ := tq_is_s eu5
  obtain ⟨v4, ev4, hf⟩ := tq_be hf
  refine tq_calV (M := mL_law b n xs) (pc := 2884) (S := []) tk_y_X11_index tk_v_X11_index tk_RL_324 dL_law_2884 [.int x3] rfl (S0 := _) rfl eu5 rfl (Nat.le_of_ble_eq_true rfl) (d1 := d - 1) (b1 := 0) (s1 := 0) (bc' := (0 + bc)) (bs' := (0 + bs)) (Q1 := fun r h9 => r = .inl (some (.int v4.1)) ∧ v4.2 = h9) (by omega) (by omega) (by omega) (w_X11_index (by omega) ev4 (fun _ _ q => q)) (fun E h9 q => nomatch (show (Sum.inr E : tq_R) = Sum.inl _ from q.1)) (fun r9 h9 q => ?_)
  obtain ⟨q1, rfl⟩ := q
  cases (show (Sum.inl r9 : tq_R) = Sum.inl (some (.int v4.1)) from q1)
  refine tq_istore (M := mL_law b n xs) (pc := 2887) dL_law_2887 (L2 := [(6, .int v4.1), (5, .int v2.1), (0, .retAddr b), (1, .ref i1), (2, .ref i2), (3, .ref i3), (4, .int y4)]) (Nat.le_of_ble_eq_true rfl) rfl ?_
  refine tq_aload_n (M := mL_law b n xs) (pc := 2889) dL_law_2889 rfl ?_
  obtain ⟨⟨⟩, eu7, hf⟩ := tq_be hf
  obtain ⟨fsu7, eu7⟩ := tq_is_s eu7
  obtain ⟨v6, ev6, hf⟩ := tq_be hf
  refine tq_calV (M := mL_law b n xs) (pc := 2890) (S := []) tk_y_X11_thrown tk_v_X11_thrown tk_RL_177 dL_law_2890 [] rfl (S0 := _) rfl eu7 rfl (Nat.le_of_ble_eq_true rfl) (d1 := d - 1) (b1 := 0) (s1 := 0) (bc' := (0 + bc)) (bs' := (0 + bs)) (Q1 := fun r h9 => r = .inl (some (.int v6)) ∧ v4.2 = h9) (by omega) (by omega) (by omega) (w_X11_thrown (by omega) ev6 (fun _ _ q => q)) (fun E h9 q => nomatch (show (Sum.inr E : tq_R) = Sum.inl _ from q.1)) (fun r9 h9 q => ?_)
  obtain ⟨q1, rfl⟩ := q
  cases (show (Sum.inl r9 : tq_R) = Sum.inl (some (.int v6)) from q1)
  refine tq_iload (M := mL_law b n xs) (pc := 2893) dL_law_2893 rfl ?_
  refine tq_icmp_eq (M := mL_law b n xs) (pc := 2895) (tgt := 2900) dL_law_2895 (by decide) (fun cc => ?_) (fun cc => ?_)
  · have hf := tq_ifp hf cc
    refine tq_iload (M := mL_law b n xs) (pc := 2900) dL_law_2900 rfl ?_
    refine tq_if_ne (M := mL_law b n xs) (pc := 2902) (tgt := 2924) dL_law_2902 (by decide) (fun cc => ?_) (fun cc => ?_)
    · have hf := tq_ifn hf cc
      refine tq_goto (M := mL_law b n xs) (pc := 2924) (tgt := 3605) dL_law_2924 (by decide) ?_
      obtain ⟨x8, ex8, hf⟩ := tq_le hf
      refine tq_iinc (M := mL_law b n xs) (pc := 3605) (v := x8) (L2 := [(4, .int x8), (6, .int v4.1), (5, .int v2.1), (0, .retAddr b), (1, .ref i1), (2, .ref i2), (3, .ref i3)]) dL_law_3605 rfl (by rw [ex8, tk_ki_5]) (Nat.le_of_ble_eq_true rfl) rfl ?_
      refine tq_goto (M := mL_law b n xs) (pc := 3608) (tgt := 23) dL_law_3608 (by decide) ?_
      refine tq_pick (L2 := [(0, .retAddr b), (1, .ref i1), (2, .ref i2), (3, .ref i3), (4, .int x8)]) [3, 4, 5, 6, 0] rfl ?_
      cases (Option.some.inj hf)
      exact tq_more (by omega) (by omega) (hc _ rfl)
    · have hf := tq_ifp hf cc
      refine tq_aload_n (M := mL_law b n xs) (pc := 2905) dL_law_2905 rfl ?_
      refine tq_iconst (M := mL_law b n xs) (pc := 2906) dL_law_2906 tk_ki_0 ?_
      obtain ⟨x9, ex9, hf⟩ := tq_be hf
      refine tq_laldF (M := mL_law b n xs) (pc := 2907) dL_law_2907 ex9 ?_
      refine tq_iload (M := mL_law b n xs) (pc := 2908) dL_law_2908 rfl ?_
      obtain ⟨p10, ep10, hf⟩ := tq_le hf
      have HJ2910 : tq_W l (mL_law b n xs) d (0 + bc) (0 + bs) Q 2918 [(0, .retAddr b), (1, .ref i1), (2, .ref i2), (3, .ref i3), (4, .int y4)] [.long p10, .long x9] v4.2 := by
        refine tq_lcmp (M := mL_law b n xs) (pc := 2918) dL_law_2918 ?_
        refine tq_if_eq (M := mL_law b n xs) (pc := 2919) (tgt := 2924) dL_law_2919 (by decide) (fun cc => ?_) (fun cc => ?_)
        · have hf := tq_ifp hf cc
          refine tq_goto (M := mL_law b n xs) (pc := 2924) (tgt := 3605) dL_law_2924 (by decide) ?_
          obtain ⟨x11, ex11, hf⟩ := tq_le hf
          refine tq_iinc (M := mL_law b n xs) (pc := 3605) (v := x11) (L2 := [(4, .int x11), (0, .retAddr b), (1, .ref i1), (2, .ref i2), (3, .ref i3)]) dL_law_3605 rfl (by rw [ex11, tk_ki_5]) (Nat.le_of_ble_eq_true rfl) rfl ?_
          refine tq_goto (M := mL_law b n xs) (pc := 3608) (tgt := 23) dL_law_3608 (by decide) ?_
          refine tq_pick (L2 := [(0, .retAddr b), (1, .ref i1), (2, .ref i2), (3, .ref i3), (4, .int x11)]) [1, 2, 3, 4, 0] rfl ?_
          cases (Option.some.inj hf)
          exact tq_more (by omega) (by omega) (hc _ rfl)
        · have hf := tq_ifn hf cc
          refine tq_iconst (M := mL_law b n xs) (pc := 2922) dL_law_2922 tk_ki_0 ?_
          refine tq_zret (M := mL_law b n xs) (pc := 2923) dL_law_2923 rfl (Or.inl rfl) ?_
          cases (Option.some.inj hf)
          exact hx _ rfl
      refine tq_if_eq (M := mL_law b n xs) (pc := 2910) (tgt := 2917) dL_law_2910 (by decide) (fun cc => ?_) (fun cc => ?_)
      · have hf := tq_ifp ep10.symm cc
        refine tq_lconst (M := mL_law b n xs) (pc := 2917) dL_law_2917 tk_kl_0 ?_
        refine tq_pick (L2 := [(0, .retAddr b), (1, .ref i1), (2, .ref i2), (3, .ref i3), (4, .int y4)]) [2, 3, 4, 5, 6] rfl ?_
        cases hf
        exact HJ2910
      · have hf := tq_ifn ep10.symm cc
        refine tq_lconst (M := mL_law b n xs) (pc := 2913) dL_law_2913 tk_kl_1 ?_
        refine tq_goto (M := mL_law b n xs) (pc := 2914) (tgt := 2918) dL_law_2914 (by decide) ?_
        refine tq_pick (L2 := [(0, .retAddr b), (1, .ref i1), (2, .ref i2), (3, .ref i3), (4, .int y4)]) [2, 3, 4, 5, 6] rfl ?_
        cases hf
        exact HJ2910
  · have hf := tq_ifn hf cc
    refine tq_iconst (M := mL_law b n xs) (pc := 2898) dL_law_2898 tk_ki_0 ?_
    refine tq_zret (M := mL_law b n xs) (pc := 2899) dL_law_2899 rfl (Or.inl rfl) ?_
    cases (Option.some.inj hf)
    exact hx _ rfl
def f_L_law_c2927 (n : Nat) (xs : Nat → Int32) (i1 i2 i3 : Nat) (y4 : Int32) (hh : tq_H) : Option ((Int32 × tq_H) ⊕ (Int32 × tq_H)) :=
  (tq_sx n xs (y4 + (1 : Int32))).bind fun x1 =>
  (f_L_plan i1 x1 i3 hh).bind fun v2 =>
  (tq_sx n xs (y4 + (1 : Int32))).bind fun x3 =>
  (tq_is v2.2 i2 11).bind fun _ =>
  (f_X11_plan i2 x3 v2.2).bind fun v4 =>
  (tq_is v4.2 i2 11).bind fun _ =>
  (f_X11_thrown i2 v4.2).bind fun v6 =>
  if v6 = v2.1 then
    if v2.1 = 0 then
      (tq_aj v4.2 i3 (0 : Int32)).bind fun x9 =>
      if (lg_cmp x9 (v4.1).toInt64) = 0 then
        tq_let (y4 + (5 : Int32)) fun x10 =>
        some (.inl (x10, v4.2))
      else
        some (.inr ((0 : Int32), v4.2))
    else
      tq_let (y4 + (5 : Int32)) fun x8 =>
      some (.inl (x8, v4.2))
  else
    some (.inr ((0 : Int32), v4.2))
set_option maxHeartbeats 4000000 in
set_option maxRecDepth 20000 in
theorem c_L_law_2927 {l : Launch} {d : Nat} (hd9 : 10 ≤ d) {b n : Nat} {xs : Nat → Int32} {i1 i2 i3 : Nat} {y4 : Int32} {hh : tq_H} {Q : tq_R → tq_H → Prop} {bc bs : Nat} {oo : (Int32 × tq_H) ⊕ (Int32 × tq_H)} (hf : f_L_law_c2927 n xs i1 i2 i3 y4 hh = some oo) (hc : ∀ s9, oo = .inl s9 → tq_W l (mL_law b n xs) d bc bs Q 23 [(0, .retAddr b), (1, .ref i1), (2, .ref i2), (3, .ref i3), (4, .int s9.1)] [] s9.2) (hx : ∀ e9, oo = .inr e9 → Q (.inl (some (.int e9.1))) e9.2) : tq_W l (mL_law b n xs) d (1 + bc) (6 + bs) Q 2927 [(0, .retAddr b), (1, .ref i1), (2, .ref i2), (3, .ref i3), (4, .int y4)] [] hh := by
  refine tq_aload_n (M := mL_law b n xs) (pc := 2927) dL_law_2927 rfl ?_
  refine tq_xload (M := mL_law b n xs) (pc := 2928) dL_law_2928 rfl ?_
  refine tq_iload (M := mL_law b n xs) (pc := 2929) dL_law_2929 rfl ?_
  refine tq_iconst (M := mL_law b n xs) (pc := 2931) dL_law_2931 tk_ki_1 ?_
  refine tq_iadd (M := mL_law b n xs) (pc := 2932) dL_law_2932 ?_
  obtain ⟨x1, ex1, hf⟩ := tq_be hf
  refine tq_xld (M := mL_law b n xs) (pc := 2933) dL_law_2933 (n := n) (xs := xs) rfl ex1 ?_
  refine tq_aload_n (M := mL_law b n xs) (pc := 2934) dL_law_2934 rfl ?_
  obtain ⟨v2, ev2, hf⟩ := tq_be hf
  refine tq_calSW (M := mL_law b n xs) (pc := 2935) (S := []) tk_w_L_plan.1 tk_w_L_plan.2.1 tk_w_L_plan.2.2.1 tk_w_L_plan.2.2.2.1 tk_w_L_plan.2.2.2.2 tk_s_L_plan tk_RL_325 dL_law_2935 [.ref i1, .int x1, .ref i3] rfl (Nat.le_of_ble_eq_true rfl) (d1 := d - 1) (b1 := 1) (s1 := 6) (bc' := (0 + bc)) (bs' := (0 + bs)) (Q1 := fun r h9 => r = .inl (some (.int v2.1)) ∧ v2.2 = h9) (by omega) (by omega) (by omega) (w_L_plan (by omega) ev2 (fun _ _ q => q)) (fun E h9 q => nomatch (show (Sum.inr E : tq_R) = Sum.inl _ from q.1)) (fun r9 h9 q => ?_)
  obtain ⟨q1, rfl⟩ := q
  cases (show (Sum.inl r9 : tq_R) = Sum.inl (some (.int v2.1)) from q1)
  refine tq_istore (M := mL_law b n xs) (pc := 2938) dL_law_2938 (L2 := [(5, .int v2.1), (0, .retAddr b), (1, .ref i1), (2, .ref i2), (3, .ref i3), (4, .int y4)]) (Nat.le_of_ble_eq_true rfl) rfl ?_
  refine tq_aload_n (M := mL_law b n xs) (pc := 2940) dL_law_2940 rfl ?_
  refine tq_xload (M := mL_law b n xs) (pc := 2941) dL_law_2941 rfl ?_
  refine tq_iload (M := mL_law b n xs) (pc := 2942) dL_law_2942 rfl ?_
  refine tq_iconst (M := mL_law b n xs) (pc := 2944) dL_law_2944 tk_ki_1 ?_
  refine tq_iadd (M := mL_law b n xs) (pc := 2945) dL_law_2945 ?_
  obtain ⟨x3, ex3, hf⟩ := tq_be hf
  refine tq_xld (M := mL_law b n xs) (pc := 2946) dL_law_2946 (n := n) (xs := xs) rfl ex3 ?_
  obtain ⟨⟨⟩, eu5, hf⟩ := tq_be hf
  obtain ⟨fsu5, eu5⟩ := tq_is_s eu5
  obtain ⟨v4, ev4, hf⟩ := tq_be hf
  refine tq_calV (M := mL_law b n xs) (pc := 2947) (S := []) tk_y_X11_plan tk_v_X11_plan tk_RL_327 dL_law_2947 [.int x3] rfl (S0 := _) rfl eu5 rfl (Nat.le_of_ble_eq_true rfl) (d1 := d - 1) (b1 := 0) (s1 := 0) (bc' := (0 + bc)) (bs' := (0 + bs)) (Q1 := fun r h9 => r = .inl (some (.int v4.1)) ∧ v4.2 = h9) (by omega) (by omega) (by omega) (w_X11_plan (by omega) ev4 (fun _ _ q => q)) (fun E h9 q => nomatch (show (Sum.inr E : tq_R) = Sum.inl _ from q.1)) (fun r9 h9 q => ?_)
  obtain ⟨q1, rfl⟩ := q
  cases (show (Sum.inl r9 : tq_R) = Sum.inl (some (.int v4.1)) from q1)
  refine tq_istore (M := mL_law b n xs) (pc := 2950) dL_law_2950 (L2 := [(6, .int v4.1), (5, .int v2.1), (0, .retAddr b), (1, .ref i1), (2, .ref i2), (3, .ref i3), (4, .int y4)]) (Nat.le_of_ble_eq_true rfl) rfl ?_
  refine tq_aload_n (M := mL_law b n xs) (pc := 2952) dL_law_2952 rfl ?_
  obtain ⟨⟨⟩, eu7, hf⟩ := tq_be hf
  obtain ⟨fsu7, eu7⟩ := tq_is_s eu7
  obtain ⟨v6, ev6, hf⟩ := tq_be hf
  refine tq_calV (M := mL_law b n xs) (pc := 2953) (S := []) tk_y_X11_thrown tk_v_X11_thrown tk_RL_177 dL_law_2953 [] rfl (S0 := _) rfl eu7 rfl (Nat.le_of_ble_eq_true rfl) (d1 := d - 1) (b1 := 0) (s1 := 0) (bc' := (0 + bc)) (bs' := (0 + bs)) (Q1 := fun r h9 => r = .inl (some (.int v6)) ∧ v4.2 = h9) (by omega) (by omega) (by omega) (w_X11_thrown (by omega) ev6 (fun _ _ q => q)) (fun E h9 q => nomatch (show (Sum.inr E : tq_R) = Sum.inl _ from q.1)) (fun r9 h9 q => ?_)
  obtain ⟨q1, rfl⟩ := q
  cases (show (Sum.inl r9 : tq_R) = Sum.inl (some (.int v6)) from q1)
  refine tq_iload (M := mL_law b n xs) (pc := 2956) dL_law_2956 rfl ?_
  refine tq_icmp_eq (M := mL_law b n xs) (pc := 2958) (tgt := 2963) dL_law_2958 (by decide) (fun cc => ?_) (fun cc => ?_)
  · have hf := tq_ifp hf cc
    refine tq_iload (M := mL_law b n xs) (pc := 2963) dL_law_2963 rfl ?_
    refine tq_if_ne (M := mL_law b n xs) (pc := 2965) (tgt := 2980) dL_law_2965 (by decide) (fun cc => ?_) (fun cc => ?_)
    · have hf := tq_ifn hf cc
      refine tq_goto (M := mL_law b n xs) (pc := 2980) (tgt := 3605) dL_law_2980 (by decide) ?_
      obtain ⟨x8, ex8, hf⟩ := tq_le hf
      refine tq_iinc (M := mL_law b n xs) (pc := 3605) (v := x8) (L2 := [(4, .int x8), (6, .int v4.1), (5, .int v2.1), (0, .retAddr b), (1, .ref i1), (2, .ref i2), (3, .ref i3)]) dL_law_3605 rfl (by rw [ex8, tk_ki_5]) (Nat.le_of_ble_eq_true rfl) rfl ?_
      refine tq_goto (M := mL_law b n xs) (pc := 3608) (tgt := 23) dL_law_3608 (by decide) ?_
      refine tq_pick (L2 := [(0, .retAddr b), (1, .ref i1), (2, .ref i2), (3, .ref i3), (4, .int x8)]) [3, 4, 5, 6, 0] rfl ?_
      cases (Option.some.inj hf)
      exact tq_more (by omega) (by omega) (hc _ rfl)
    · have hf := tq_ifp hf cc
      refine tq_aload_n (M := mL_law b n xs) (pc := 2968) dL_law_2968 rfl ?_
      refine tq_iconst (M := mL_law b n xs) (pc := 2969) dL_law_2969 tk_ki_0 ?_
      obtain ⟨x9, ex9, hf⟩ := tq_be hf
      refine tq_laldF (M := mL_law b n xs) (pc := 2970) dL_law_2970 ex9 ?_
      refine tq_iload (M := mL_law b n xs) (pc := 2971) dL_law_2971 rfl ?_
      refine tq_i2l (M := mL_law b n xs) (pc := 2973) dL_law_2973 ?_
      refine tq_lcmp (M := mL_law b n xs) (pc := 2974) dL_law_2974 ?_
      refine tq_if_eq (M := mL_law b n xs) (pc := 2975) (tgt := 2980) dL_law_2975 (by decide) (fun cc => ?_) (fun cc => ?_)
      · have hf := tq_ifp hf cc
        refine tq_goto (M := mL_law b n xs) (pc := 2980) (tgt := 3605) dL_law_2980 (by decide) ?_
        obtain ⟨x10, ex10, hf⟩ := tq_le hf
        refine tq_iinc (M := mL_law b n xs) (pc := 3605) (v := x10) (L2 := [(4, .int x10), (6, .int v4.1), (5, .int v2.1), (0, .retAddr b), (1, .ref i1), (2, .ref i2), (3, .ref i3)]) dL_law_3605 rfl (by rw [ex10, tk_ki_5]) (Nat.le_of_ble_eq_true rfl) rfl ?_
        refine tq_goto (M := mL_law b n xs) (pc := 3608) (tgt := 23) dL_law_3608 (by decide) ?_
        refine tq_pick (L2 := [(0, .retAddr b), (1, .ref i1), (2, .ref i2), (3, .ref i3), (4, .int x10)]) [3, 4, 5, 6, 0] rfl ?_
        cases (Option.some.inj hf)
        exact tq_more (by omega) (by omega) (hc _ rfl)
      · have hf := tq_ifn hf cc
        refine tq_iconst (M := mL_law b n xs) (pc := 2978) dL_law_2978 tk_ki_0 ?_
        refine tq_zret (M := mL_law b n xs) (pc := 2979) dL_law_2979 rfl (Or.inl rfl) ?_
        cases (Option.some.inj hf)
        exact hx _ rfl
  · have hf := tq_ifn hf cc
    refine tq_iconst (M := mL_law b n xs) (pc := 2961) dL_law_2961 tk_ki_0 ?_
    refine tq_zret (M := mL_law b n xs) (pc := 2962) dL_law_2962 rfl (Or.inl rfl) ?_
    cases (Option.some.inj hf)
    exact hx _ rfl
def f_L_law_c2983 (n : Nat) (xs : Nat → Int32) (i1 i2 i3 : Nat) (y4 : Int32) (hh : tq_H) : Option ((Int32 × tq_H) ⊕ (Int32 × tq_H)) :=
  (tq_sx n xs (y4 + (1 : Int32))).bind fun x1 =>
  (f_L_view i1 x1 i3 hh).bind fun v2 =>
  (tq_sx n xs (y4 + (1 : Int32))).bind fun x3 =>
  (tq_is v2.2 i2 11).bind fun _ =>
  (f_X11_view i2 x3 v2.2).bind fun v4 =>
  (tq_is v4.2 i2 11).bind fun _ =>
  (f_X11_thrown i2 v4.2).bind fun v6 =>
  if v6 = v2.1 then
    if v2.1 = 0 then
      (tq_aj v4.2 i3 (0 : Int32)).bind fun x9 =>
      if (lg_cmp x9 (v4.1).toInt64) = 0 then
        tq_let (y4 + (5 : Int32)) fun x10 =>
        some (.inl (x10, v4.2))
      else
        some (.inr ((0 : Int32), v4.2))
    else
      tq_let (y4 + (5 : Int32)) fun x8 =>
      some (.inl (x8, v4.2))
  else
    some (.inr ((0 : Int32), v4.2))
set_option maxHeartbeats 4000000 in
set_option maxRecDepth 20000 in
theorem c_L_law_2983 {l : Launch} {d : Nat} (hd9 : 10 ≤ d) {b n : Nat} {xs : Nat → Int32} {i1 i2 i3 : Nat} {y4 : Int32} {hh : tq_H} {Q : tq_R → tq_H → Prop} {bc bs : Nat} {oo : (Int32 × tq_H) ⊕ (Int32 × tq_H)} (hf : f_L_law_c2983 n xs i1 i2 i3 y4 hh = some oo) (hc : ∀ s9, oo = .inl s9 → tq_W l (mL_law b n xs) d bc bs Q 23 [(0, .retAddr b), (1, .ref i1), (2, .ref i2), (3, .ref i3), (4, .int s9.1)] [] s9.2) (hx : ∀ e9, oo = .inr e9 → Q (.inl (some (.int e9.1))) e9.2) : tq_W l (mL_law b n xs) d (2 + bc) (12 + bs) Q 2983 [(0, .retAddr b), (1, .ref i1), (2, .ref i2), (3, .ref i3), (4, .int y4)] [] hh := by
  refine tq_aload_n (M := mL_law b n xs) (pc := 2983) dL_law_2983 rfl ?_
  refine tq_xload (M := mL_law b n xs) (pc := 2984) dL_law_2984 rfl ?_
  refine tq_iload (M := mL_law b n xs) (pc := 2985) dL_law_2985 rfl ?_
  refine tq_iconst (M := mL_law b n xs) (pc := 2987) dL_law_2987 tk_ki_1 ?_
  refine tq_iadd (M := mL_law b n xs) (pc := 2988) dL_law_2988 ?_
  obtain ⟨x1, ex1, hf⟩ := tq_be hf
  refine tq_xld (M := mL_law b n xs) (pc := 2989) dL_law_2989 (n := n) (xs := xs) rfl ex1 ?_
  refine tq_aload_n (M := mL_law b n xs) (pc := 2990) dL_law_2990 rfl ?_
  obtain ⟨v2, ev2, hf⟩ := tq_be hf
  refine tq_calSW (M := mL_law b n xs) (pc := 2991) (S := []) tk_w_L_view.1 tk_w_L_view.2.1 tk_w_L_view.2.2.1 tk_w_L_view.2.2.2.1 tk_w_L_view.2.2.2.2 tk_s_L_view tk_RL_328 dL_law_2991 [.ref i1, .int x1, .ref i3] rfl (Nat.le_of_ble_eq_true rfl) (d1 := d - 1) (b1 := 2) (s1 := 12) (bc' := (0 + bc)) (bs' := (0 + bs)) (Q1 := fun r h9 => r = .inl (some (.int v2.1)) ∧ v2.2 = h9) (by omega) (by omega) (by omega) (w_L_view (by omega) ev2 (fun _ _ q => q)) (fun E h9 q => nomatch (show (Sum.inr E : tq_R) = Sum.inl _ from q.1)) (fun r9 h9 q => ?_)
  obtain ⟨q1, rfl⟩ := q
  cases (show (Sum.inl r9 : tq_R) = Sum.inl (some (.int v2.1)) from q1)
  refine tq_istore (M := mL_law b n xs) (pc := 2994) dL_law_2994 (L2 := [(5, .int v2.1), (0, .retAddr b), (1, .ref i1), (2, .ref i2), (3, .ref i3), (4, .int y4)]) (Nat.le_of_ble_eq_true rfl) rfl ?_
  refine tq_aload_n (M := mL_law b n xs) (pc := 2996) dL_law_2996 rfl ?_
  refine tq_xload (M := mL_law b n xs) (pc := 2997) dL_law_2997 rfl ?_
  refine tq_iload (M := mL_law b n xs) (pc := 2998) dL_law_2998 rfl ?_
  refine tq_iconst (M := mL_law b n xs) (pc := 3000) dL_law_3000 tk_ki_1 ?_
  refine tq_iadd (M := mL_law b n xs) (pc := 3001) dL_law_3001 ?_
  obtain ⟨x3, ex3, hf⟩ := tq_be hf
  refine tq_xld (M := mL_law b n xs) (pc := 3002) dL_law_3002 (n := n) (xs := xs) rfl ex3 ?_
  obtain ⟨⟨⟩, eu5, hf⟩ := tq_be hf
  obtain ⟨fsu5, eu5⟩ := tq_is_s eu5
  obtain ⟨v4, ev4, hf⟩ := tq_be hf
  refine tq_calV (M := mL_law b n xs) (pc := 3003) (S := []) tk_y_X11_view tk_v_X11_view tk_RL_330 dL_law_3003 [.int x3] rfl (S0 := _) rfl eu5 rfl (Nat.le_of_ble_eq_true rfl) (d1 := d - 1) (b1 := 0) (s1 := 0) (bc' := (0 + bc)) (bs' := (0 + bs)) (Q1 := fun r h9 => r = .inl (some (.int v4.1)) ∧ v4.2 = h9) (by omega) (by omega) (by omega) (w_X11_view (by omega) ev4 (fun _ _ q => q)) (fun E h9 q => nomatch (show (Sum.inr E : tq_R) = Sum.inl _ from q.1)) (fun r9 h9 q => ?_)
  obtain ⟨q1, rfl⟩ := q
  cases (show (Sum.inl r9 : tq_R) = Sum.inl (some (.int v4.1)) from q1)
  refine tq_istore (M := mL_law b n xs) (pc := 3006) dL_law_3006 (L2 := [(6, .int v4.1), (5, .int v2.1), (0, .retAddr b), (1, .ref i1), (2, .ref i2), (3, .ref i3), (4, .int y4)]) (Nat.le_of_ble_eq_true rfl) rfl ?_
  refine tq_aload_n (M := mL_law b n xs) (pc := 3008) dL_law_3008 rfl ?_
  obtain ⟨⟨⟩, eu7, hf⟩ := tq_be hf
  obtain ⟨fsu7, eu7⟩ := tq_is_s eu7
  obtain ⟨v6, ev6, hf⟩ := tq_be hf
  refine tq_calV (M := mL_law b n xs) (pc := 3009) (S := []) tk_y_X11_thrown tk_v_X11_thrown tk_RL_177 dL_law_3009 [] rfl (S0 := _) rfl eu7 rfl (Nat.le_of_ble_eq_true rfl) (d1 := d - 1) (b1 := 0) (s1 := 0) (bc' := (0 + bc)) (bs' := (0 + bs)) (Q1 := fun r h9 => r = .inl (some (.int v6)) ∧ v4.2 = h9) (by omega) (by omega) (by omega) (w_X11_thrown (by omega) ev6 (fun _ _ q => q)) (fun E h9 q => nomatch (show (Sum.inr E : tq_R) = Sum.inl _ from q.1)) (fun r9 h9 q => ?_)
  obtain ⟨q1, rfl⟩ := q
  cases (show (Sum.inl r9 : tq_R) = Sum.inl (some (.int v6)) from q1)
  refine tq_iload (M := mL_law b n xs) (pc := 3012) dL_law_3012 rfl ?_
  refine tq_icmp_eq (M := mL_law b n xs) (pc := 3014) (tgt := 3019) dL_law_3014 (by decide) (fun cc => ?_) (fun cc => ?_)
  · have hf := tq_ifp hf cc
    refine tq_iload (M := mL_law b n xs) (pc := 3019) dL_law_3019 rfl ?_
    refine tq_if_ne (M := mL_law b n xs) (pc := 3021) (tgt := 3036) dL_law_3021 (by decide) (fun cc => ?_) (fun cc => ?_)
    · have hf := tq_ifn hf cc
      refine tq_goto (M := mL_law b n xs) (pc := 3036) (tgt := 3605) dL_law_3036 (by decide) ?_
      obtain ⟨x8, ex8, hf⟩ := tq_le hf
      refine tq_iinc (M := mL_law b n xs) (pc := 3605) (v := x8) (L2 := [(4, .int x8), (6, .int v4.1), (5, .int v2.1), (0, .retAddr b), (1, .ref i1), (2, .ref i2), (3, .ref i3)]) dL_law_3605 rfl (by rw [ex8, tk_ki_5]) (Nat.le_of_ble_eq_true rfl) rfl ?_
      refine tq_goto (M := mL_law b n xs) (pc := 3608) (tgt := 23) dL_law_3608 (by decide) ?_
      refine tq_pick (L2 := [(0, .retAddr b), (1, .ref i1), (2, .ref i2), (3, .ref i3), (4, .int x8)]) [3, 4, 5, 6, 0] rfl ?_
      cases (Option.some.inj hf)
      exact tq_more (by omega) (by omega) (hc _ rfl)
    · have hf := tq_ifp hf cc
      refine tq_aload_n (M := mL_law b n xs) (pc := 3024) dL_law_3024 rfl ?_
      refine tq_iconst (M := mL_law b n xs) (pc := 3025) dL_law_3025 tk_ki_0 ?_
      obtain ⟨x9, ex9, hf⟩ := tq_be hf
      refine tq_laldF (M := mL_law b n xs) (pc := 3026) dL_law_3026 ex9 ?_
      refine tq_iload (M := mL_law b n xs) (pc := 3027) dL_law_3027 rfl ?_
      refine tq_i2l (M := mL_law b n xs) (pc := 3029) dL_law_3029 ?_
      refine tq_lcmp (M := mL_law b n xs) (pc := 3030) dL_law_3030 ?_
      refine tq_if_eq (M := mL_law b n xs) (pc := 3031) (tgt := 3036) dL_law_3031 (by decide) (fun cc => ?_) (fun cc => ?_)
      · have hf := tq_ifp hf cc
        refine tq_goto (M := mL_law b n xs) (pc := 3036) (tgt := 3605) dL_law_3036 (by decide) ?_
        obtain ⟨x10, ex10, hf⟩ := tq_le hf
        refine tq_iinc (M := mL_law b n xs) (pc := 3605) (v := x10) (L2 := [(4, .int x10), (6, .int v4.1), (5, .int v2.1), (0, .retAddr b), (1, .ref i1), (2, .ref i2), (3, .ref i3)]) dL_law_3605 rfl (by rw [ex10, tk_ki_5]) (Nat.le_of_ble_eq_true rfl) rfl ?_
        refine tq_goto (M := mL_law b n xs) (pc := 3608) (tgt := 23) dL_law_3608 (by decide) ?_
        refine tq_pick (L2 := [(0, .retAddr b), (1, .ref i1), (2, .ref i2), (3, .ref i3), (4, .int x10)]) [3, 4, 5, 6, 0] rfl ?_
        cases (Option.some.inj hf)
        exact tq_more (by omega) (by omega) (hc _ rfl)
      · have hf := tq_ifn hf cc
        refine tq_iconst (M := mL_law b n xs) (pc := 3034) dL_law_3034 tk_ki_0 ?_
        refine tq_zret (M := mL_law b n xs) (pc := 3035) dL_law_3035 rfl (Or.inl rfl) ?_
        cases (Option.some.inj hf)
        exact hx _ rfl
  · have hf := tq_ifn hf cc
    refine tq_iconst (M := mL_law b n xs) (pc := 3017) dL_law_3017 tk_ki_0 ?_
    refine tq_zret (M := mL_law b n xs) (pc := 3018) dL_law_3018 rfl (Or.inl rfl) ?_
    cases (Option.some.inj hf)
    exact hx _ rfl
def f_L_law_c3039 (n : Nat) (xs : Nat → Int32) (i1 i2 i3 : Nat) (y4 : Int32) (hh : tq_H) : Option ((Int32 × tq_H) ⊕ (Int32 × tq_H)) :=
  (tq_sx n xs (y4 + (1 : Int32))).bind fun x1 =>
  (tq_sx n xs (y4 + (2 : Int32))).bind fun x2 =>
  (f_L_viewed i1 x1 x2 i3 hh).bind fun v3 =>
  (tq_sx n xs (y4 + (1 : Int32))).bind fun x4 =>
  (tq_sx n xs (y4 + (2 : Int32))).bind fun x5 =>
  (tq_is v3.2 i2 11).bind fun _ =>
  (f_X11_viewed i2 x4 x5 v3.2).bind fun v6 =>
  (tq_is v6.2 i2 11).bind fun _ =>
  (f_X11_thrown i2 v6.2).bind fun v8 =>
  if v8 = v3.1 then
    if v3.1 = 0 then
      (tq_aj v6.2 i3 (0 : Int32)).bind fun x11 =>
      if (lg_cmp x11 (v6.1).toInt64) = 0 then
        tq_let (y4 + (5 : Int32)) fun x12 =>
        some (.inl (x12, v6.2))
      else
        some (.inr ((0 : Int32), v6.2))
    else
      tq_let (y4 + (5 : Int32)) fun x10 =>
      some (.inl (x10, v6.2))
  else
    some (.inr ((0 : Int32), v6.2))
set_option maxHeartbeats 4000000 in
set_option maxRecDepth 20000 in
theorem c_L_law_3039 {l : Launch} {d : Nat} (hd9 : 10 ≤ d) {b n : Nat} {xs : Nat → Int32} {i1 i2 i3 : Nat} {y4 : Int32} {hh : tq_H} {Q : tq_R → tq_H → Prop} {bc bs : Nat} {oo : (Int32 × tq_H) ⊕ (Int32 × tq_H)} (hf : f_L_law_c3039 n xs i1 i2 i3 y4 hh = some oo) (hc : ∀ s9, oo = .inl s9 → tq_W l (mL_law b n xs) d bc bs Q 23 [(0, .retAddr b), (1, .ref i1), (2, .ref i2), (3, .ref i3), (4, .int s9.1)] [] s9.2) (hx : ∀ e9, oo = .inr e9 → Q (.inl (some (.int e9.1))) e9.2) : tq_W l (mL_law b n xs) d (2 + bc) (12 + bs) Q 3039 [(0, .retAddr b), (1, .ref i1), (2, .ref i2), (3, .ref i3), (4, .int y4)] [] hh := by
  refine tq_aload_n (M := mL_law b n xs) (pc := 3039) dL_law_3039 rfl ?_
  refine tq_xload (M := mL_law b n xs) (pc := 3040) dL_law_3040 rfl ?_
  refine tq_iload (M := mL_law b n xs) (pc := 3041) dL_law_3041 rfl ?_
  refine tq_iconst (M := mL_law b n xs) (pc := 3043) dL_law_3043 tk_ki_1 ?_
  refine tq_iadd (M := mL_law b n xs) (pc := 3044) dL_law_3044 ?_
  obtain ⟨x1, ex1, hf⟩ := tq_be hf
  refine tq_xld (M := mL_law b n xs) (pc := 3045) dL_law_3045 (n := n) (xs := xs) rfl ex1 ?_
  refine tq_xload (M := mL_law b n xs) (pc := 3046) dL_law_3046 rfl ?_
  refine tq_iload (M := mL_law b n xs) (pc := 3047) dL_law_3047 rfl ?_
  refine tq_iconst (M := mL_law b n xs) (pc := 3049) dL_law_3049 tk_ki_2 ?_
  refine tq_iadd (M := mL_law b n xs) (pc := 3050) dL_law_3050 ?_
  obtain ⟨x2, ex2, hf⟩ := tq_be hf
  refine tq_xld (M := mL_law b n xs) (pc := 3051) dL_law_3051 (n := n) (xs := xs) rfl ex2 ?_
  refine tq_aload_n (M := mL_law b n xs) (pc := 3052) dL_law_3052 rfl ?_
  obtain ⟨v3, ev3, hf⟩ := tq_be hf
  refine tq_calSW (M := mL_law b n xs) (pc := 3053) (S := []) tk_w_L_viewed.1 tk_w_L_viewed.2.1 tk_w_L_viewed.2.2.1 tk_w_L_viewed.2.2.2.1 tk_w_L_viewed.2.2.2.2 tk_s_L_viewed tk_RL_331 dL_law_3053 [.ref i1, .int x1, .int x2, .ref i3] rfl (Nat.le_of_ble_eq_true rfl) (d1 := d - 1) (b1 := 2) (s1 := 12) (bc' := (0 + bc)) (bs' := (0 + bs)) (Q1 := fun r h9 => r = .inl (some (.int v3.1)) ∧ v3.2 = h9) (by omega) (by omega) (by omega) (w_L_viewed (by omega) ev3 (fun _ _ q => q)) (fun E h9 q => nomatch (show (Sum.inr E : tq_R) = Sum.inl _ from q.1)) (fun r9 h9 q => ?_)
  obtain ⟨q1, rfl⟩ := q
  cases (show (Sum.inl r9 : tq_R) = Sum.inl (some (.int v3.1)) from q1)
  refine tq_istore (M := mL_law b n xs) (pc := 3056) dL_law_3056 (L2 := [(5, .int v3.1), (0, .retAddr b), (1, .ref i1), (2, .ref i2), (3, .ref i3), (4, .int y4)]) (Nat.le_of_ble_eq_true rfl) rfl ?_
  refine tq_aload_n (M := mL_law b n xs) (pc := 3058) dL_law_3058 rfl ?_
  refine tq_xload (M := mL_law b n xs) (pc := 3059) dL_law_3059 rfl ?_
  refine tq_iload (M := mL_law b n xs) (pc := 3060) dL_law_3060 rfl ?_
  refine tq_iconst (M := mL_law b n xs) (pc := 3062) dL_law_3062 tk_ki_1 ?_
  refine tq_iadd (M := mL_law b n xs) (pc := 3063) dL_law_3063 ?_
  obtain ⟨x4, ex4, hf⟩ := tq_be hf
  refine tq_xld (M := mL_law b n xs) (pc := 3064) dL_law_3064 (n := n) (xs := xs) rfl ex4 ?_
  refine tq_xload (M := mL_law b n xs) (pc := 3065) dL_law_3065 rfl ?_
  refine tq_iload (M := mL_law b n xs) (pc := 3066) dL_law_3066 rfl ?_
  refine tq_iconst (M := mL_law b n xs) (pc := 3068) dL_law_3068 tk_ki_2 ?_
  refine tq_iadd (M := mL_law b n xs) (pc := 3069) dL_law_3069 ?_
  obtain ⟨x5, ex5, hf⟩ := tq_be hf
  refine tq_xld (M := mL_law b n xs) (pc := 3070) dL_law_3070 (n := n) (xs := xs) rfl ex5 ?_
  obtain ⟨⟨⟩, eu7, hf⟩ := tq_be hf
  obtain ⟨fsu7, eu7⟩ := tq_is_s eu7
  obtain ⟨v6, ev6, hf⟩ := tq_be hf
  refine tq_calV (M := mL_law b n xs) (pc := 3071) (S := []) tk_y_X11_viewed tk_v_X11_viewed tk_RL_333 dL_law_3071 [.int x4, .int x5] rfl (S0 := _) rfl eu7 rfl (Nat.le_of_ble_eq_true rfl) (d1 := d - 1) (b1 := 0) (s1 := 0) (bc' := (0 + bc)) (bs' := (0 + bs)) (Q1 := fun r h9 => r = .inl (some (.int v6.1)) ∧ v6.2 = h9) (by omega) (by omega) (by omega) (w_X11_viewed (by omega) ev6 (fun _ _ q => q)) (fun E h9 q => nomatch (show (Sum.inr E : tq_R) = Sum.inl _ from q.1)) (fun r9 h9 q => ?_)
  obtain ⟨q1, rfl⟩ := q
  cases (show (Sum.inl r9 : tq_R) = Sum.inl (some (.int v6.1)) from q1)
  refine tq_istore (M := mL_law b n xs) (pc := 3074) dL_law_3074 (L2 := [(6, .int v6.1), (5, .int v3.1), (0, .retAddr b), (1, .ref i1), (2, .ref i2), (3, .ref i3), (4, .int y4)]) (Nat.le_of_ble_eq_true rfl) rfl ?_
  refine tq_aload_n (M := mL_law b n xs) (pc := 3076) dL_law_3076 rfl ?_
  obtain ⟨⟨⟩, eu9, hf⟩ := tq_be hf
  obtain ⟨fsu9, eu9⟩ := tq_is_s eu9
  obtain ⟨v8, ev8, hf⟩ := tq_be hf
  refine tq_calV (M := mL_law b n xs) (pc := 3077) (S := []) tk_y_X11_thrown tk_v_X11_thrown tk_RL_177 dL_law_3077 [] rfl (S0 := _) rfl eu9 rfl (Nat.le_of_ble_eq_true rfl) (d1 := d - 1) (b1 := 0) (s1 := 0) (bc' := (0 + bc)) (bs' := (0 + bs)) (Q1 := fun r h9 => r = .inl (some (.int v8)) ∧ v6.2 = h9) (by omega) (by omega) (by omega) (w_X11_thrown (by omega) ev8 (fun _ _ q => q)) (fun E h9 q => nomatch (show (Sum.inr E : tq_R) = Sum.inl _ from q.1)) (fun r9 h9 q => ?_)
  obtain ⟨q1, rfl⟩ := q
  cases (show (Sum.inl r9 : tq_R) = Sum.inl (some (.int v8)) from q1)
  refine tq_iload (M := mL_law b n xs) (pc := 3080) dL_law_3080 rfl ?_
  refine tq_icmp_eq (M := mL_law b n xs) (pc := 3082) (tgt := 3087) dL_law_3082 (by decide) (fun cc => ?_) (fun cc => ?_)
  · have hf := tq_ifp hf cc
    refine tq_iload (M := mL_law b n xs) (pc := 3087) dL_law_3087 rfl ?_
    refine tq_if_ne (M := mL_law b n xs) (pc := 3089) (tgt := 3104) dL_law_3089 (by decide) (fun cc => ?_) (fun cc => ?_)
    · have hf := tq_ifn hf cc
      refine tq_goto (M := mL_law b n xs) (pc := 3104) (tgt := 3605) dL_law_3104 (by decide) ?_
      obtain ⟨x10, ex10, hf⟩ := tq_le hf
      refine tq_iinc (M := mL_law b n xs) (pc := 3605) (v := x10) (L2 := [(4, .int x10), (6, .int v6.1), (5, .int v3.1), (0, .retAddr b), (1, .ref i1), (2, .ref i2), (3, .ref i3)]) dL_law_3605 rfl (by rw [ex10, tk_ki_5]) (Nat.le_of_ble_eq_true rfl) rfl ?_
      refine tq_goto (M := mL_law b n xs) (pc := 3608) (tgt := 23) dL_law_3608 (by decide) ?_
      refine tq_pick (L2 := [(0, .retAddr b), (1, .ref i1), (2, .ref i2), (3, .ref i3), (4, .int x10)]) [3, 4, 5, 6, 0] rfl ?_
      cases (Option.some.inj hf)
      exact tq_more (by omega) (by omega) (hc _ rfl)
    · have hf := tq_ifp hf cc
      refine tq_aload_n (M := mL_law b n xs) (pc := 3092) dL_law_3092 rfl ?_
      refine tq_iconst (M := mL_law b n xs) (pc := 3093) dL_law_3093 tk_ki_0 ?_
      obtain ⟨x11, ex11, hf⟩ := tq_be hf
      refine tq_laldF (M := mL_law b n xs) (pc := 3094) dL_law_3094 ex11 ?_
      refine tq_iload (M := mL_law b n xs) (pc := 3095) dL_law_3095 rfl ?_
      refine tq_i2l (M := mL_law b n xs) (pc := 3097) dL_law_3097 ?_
      refine tq_lcmp (M := mL_law b n xs) (pc := 3098) dL_law_3098 ?_
      refine tq_if_eq (M := mL_law b n xs) (pc := 3099) (tgt := 3104) dL_law_3099 (by decide) (fun cc => ?_) (fun cc => ?_)
      · have hf := tq_ifp hf cc
        refine tq_goto (M := mL_law b n xs) (pc := 3104) (tgt := 3605) dL_law_3104 (by decide) ?_
        obtain ⟨x12, ex12, hf⟩ := tq_le hf
        refine tq_iinc (M := mL_law b n xs) (pc := 3605) (v := x12) (L2 := [(4, .int x12), (6, .int v6.1), (5, .int v3.1), (0, .retAddr b), (1, .ref i1), (2, .ref i2), (3, .ref i3)]) dL_law_3605 rfl (by rw [ex12, tk_ki_5]) (Nat.le_of_ble_eq_true rfl) rfl ?_
        refine tq_goto (M := mL_law b n xs) (pc := 3608) (tgt := 23) dL_law_3608 (by decide) ?_
        refine tq_pick (L2 := [(0, .retAddr b), (1, .ref i1), (2, .ref i2), (3, .ref i3), (4, .int x12)]) [3, 4, 5, 6, 0] rfl ?_
        cases (Option.some.inj hf)
        exact tq_more (by omega) (by omega) (hc _ rfl)
      · have hf := tq_ifn hf cc
        refine tq_iconst (M := mL_law b n xs) (pc := 3102) dL_law_3102 tk_ki_0 ?_
        refine tq_zret (M := mL_law b n xs) (pc := 3103) dL_law_3103 rfl (Or.inl rfl) ?_
        cases (Option.some.inj hf)
        exact hx _ rfl
  · have hf := tq_ifn hf cc
    refine tq_iconst (M := mL_law b n xs) (pc := 3085) dL_law_3085 tk_ki_0 ?_
    refine tq_zret (M := mL_law b n xs) (pc := 3086) dL_law_3086 rfl (Or.inl rfl) ?_
    cases (Option.some.inj hf)
    exact hx _ rfl
def f_L_law_c3107 (n : Nat) (xs : Nat → Int32) (i1 i2 i3 : Nat) (y4 : Int32) (hh : tq_H) : Option ((Int32 × tq_H) ⊕ (Int32 × tq_H)) :=
  (tq_sx n xs (y4 + (1 : Int32))).bind fun x1 =>
  (f_L_changed i1 x1 i3 hh).bind fun v2 =>
  (tq_sx n xs (y4 + (1 : Int32))).bind fun x3 =>
  (tq_is v2.2 i2 11).bind fun _ =>
  (f_X11_changed i2 x3 v2.2).bind fun v4 =>
  (tq_is v4.2 i2 11).bind fun _ =>
  (f_X11_thrown i2 v4.2).bind fun v6 =>
  if v6 = v2.1 then
    if v2.1 = 0 then
      (tq_aj v4.2 i3 (0 : Int32)).bind fun x9 =>
      if (lg_cmp x9 (v4.1).toInt64) = 0 then
        tq_let (y4 + (5 : Int32)) fun x10 =>
        some (.inl (x10, v4.2))
      else
        some (.inr ((0 : Int32), v4.2))
    else
      tq_let (y4 + (5 : Int32)) fun x8 =>
      some (.inl (x8, v4.2))
  else
    some (.inr ((0 : Int32), v4.2))
set_option maxHeartbeats 4000000 in
set_option maxRecDepth 20000 in
theorem c_L_law_3107 {l : Launch} {d : Nat} (hd9 : 10 ≤ d) {b n : Nat} {xs : Nat → Int32} {i1 i2 i3 : Nat} {y4 : Int32} {hh : tq_H} {Q : tq_R → tq_H → Prop} {bc bs : Nat} {oo : (Int32 × tq_H) ⊕ (Int32 × tq_H)} (hf : f_L_law_c3107 n xs i1 i2 i3 y4 hh = some oo) (hc : ∀ s9, oo = .inl s9 → tq_W l (mL_law b n xs) d bc bs Q 23 [(0, .retAddr b), (1, .ref i1), (2, .ref i2), (3, .ref i3), (4, .int s9.1)] [] s9.2) (hx : ∀ e9, oo = .inr e9 → Q (.inl (some (.int e9.1))) e9.2) : tq_W l (mL_law b n xs) d (1 + bc) (6 + bs) Q 3107 [(0, .retAddr b), (1, .ref i1), (2, .ref i2), (3, .ref i3), (4, .int y4)] [] hh := by
  refine tq_aload_n (M := mL_law b n xs) (pc := 3107) dL_law_3107 rfl ?_
  refine tq_xload (M := mL_law b n xs) (pc := 3108) dL_law_3108 rfl ?_
  refine tq_iload (M := mL_law b n xs) (pc := 3109) dL_law_3109 rfl ?_
  refine tq_iconst (M := mL_law b n xs) (pc := 3111) dL_law_3111 tk_ki_1 ?_
  refine tq_iadd (M := mL_law b n xs) (pc := 3112) dL_law_3112 ?_
  obtain ⟨x1, ex1, hf⟩ := tq_be hf
  refine tq_xld (M := mL_law b n xs) (pc := 3113) dL_law_3113 (n := n) (xs := xs) rfl ex1 ?_
  refine tq_aload_n (M := mL_law b n xs) (pc := 3114) dL_law_3114 rfl ?_
  obtain ⟨v2, ev2, hf⟩ := tq_be hf
  refine tq_calSW (M := mL_law b n xs) (pc := 3115) (S := []) tk_w_L_changed.1 tk_w_L_changed.2.1 tk_w_L_changed.2.2.1 tk_w_L_changed.2.2.2.1 tk_w_L_changed.2.2.2.2 tk_s_L_changed tk_RL_334 dL_law_3115 [.ref i1, .int x1, .ref i3] rfl (Nat.le_of_ble_eq_true rfl) (d1 := d - 1) (b1 := 1) (s1 := 6) (bc' := (0 + bc)) (bs' := (0 + bs)) (Q1 := fun r h9 => r = .inl (some (.int v2.1)) ∧ v2.2 = h9) (by omega) (by omega) (by omega) (w_L_changed (by omega) ev2 (fun _ _ q => q)) (fun E h9 q => nomatch (show (Sum.inr E : tq_R) = Sum.inl _ from q.1)) (fun r9 h9 q => ?_)
  obtain ⟨q1, rfl⟩ := q
  cases (show (Sum.inl r9 : tq_R) = Sum.inl (some (.int v2.1)) from q1)
  refine tq_istore (M := mL_law b n xs) (pc := 3118) dL_law_3118 (L2 := [(5, .int v2.1), (0, .retAddr b), (1, .ref i1), (2, .ref i2), (3, .ref i3), (4, .int y4)]) (Nat.le_of_ble_eq_true rfl) rfl ?_
  refine tq_aload_n (M := mL_law b n xs) (pc := 3120) dL_law_3120 rfl ?_
  refine tq_xload (M := mL_law b n xs) (pc := 3121) dL_law_3121 rfl ?_
  refine tq_iload (M := mL_law b n xs) (pc := 3122) dL_law_3122 rfl ?_
  refine tq_iconst (M := mL_law b n xs) (pc := 3124) dL_law_3124 tk_ki_1 ?_
  refine tq_iadd (M := mL_law b n xs) (pc := 3125) dL_law_3125 ?_
  obtain ⟨x3, ex3, hf⟩ := tq_be hf
  refine tq_xld (M := mL_law b n xs) (pc := 3126) dL_law_3126 (n := n) (xs := xs) rfl ex3 ?_
  obtain ⟨⟨⟩, eu5, hf⟩ := tq_be hf
  obtain ⟨fsu5, eu5⟩ := tq_is_s eu5
  obtain ⟨v4, ev4, hf⟩ := tq_be hf
  refine tq_calV (M := mL_law b n xs) (pc := 3127) (S := []) tk_y_X11_changed tk_v_X11_changed tk_RL_336 dL_law_3127 [.int x3] rfl (S0 := _) rfl eu5 rfl (Nat.le_of_ble_eq_true rfl) (d1 := d - 1) (b1 := 0) (s1 := 0) (bc' := (0 + bc)) (bs' := (0 + bs)) (Q1 := fun r h9 => r = .inl (some (.int v4.1)) ∧ v4.2 = h9) (by omega) (by omega) (by omega) (w_X11_changed (by omega) ev4 (fun _ _ q => q)) (fun E h9 q => nomatch (show (Sum.inr E : tq_R) = Sum.inl _ from q.1)) (fun r9 h9 q => ?_)
  obtain ⟨q1, rfl⟩ := q
  cases (show (Sum.inl r9 : tq_R) = Sum.inl (some (.int v4.1)) from q1)
  refine tq_istore (M := mL_law b n xs) (pc := 3130) dL_law_3130 (L2 := [(6, .int v4.1), (5, .int v2.1), (0, .retAddr b), (1, .ref i1), (2, .ref i2), (3, .ref i3), (4, .int y4)]) (Nat.le_of_ble_eq_true rfl) rfl ?_
  refine tq_aload_n (M := mL_law b n xs) (pc := 3132) dL_law_3132 rfl ?_
  obtain ⟨⟨⟩, eu7, hf⟩ := tq_be hf
  obtain ⟨fsu7, eu7⟩ := tq_is_s eu7
  obtain ⟨v6, ev6, hf⟩ := tq_be hf
  refine tq_calV (M := mL_law b n xs) (pc := 3133) (S := []) tk_y_X11_thrown tk_v_X11_thrown tk_RL_177 dL_law_3133 [] rfl (S0 := _) rfl eu7 rfl (Nat.le_of_ble_eq_true rfl) (d1 := d - 1) (b1 := 0) (s1 := 0) (bc' := (0 + bc)) (bs' := (0 + bs)) (Q1 := fun r h9 => r = .inl (some (.int v6)) ∧ v4.2 = h9) (by omega) (by omega) (by omega) (w_X11_thrown (by omega) ev6 (fun _ _ q => q)) (fun E h9 q => nomatch (show (Sum.inr E : tq_R) = Sum.inl _ from q.1)) (fun r9 h9 q => ?_)
  obtain ⟨q1, rfl⟩ := q
  cases (show (Sum.inl r9 : tq_R) = Sum.inl (some (.int v6)) from q1)
  refine tq_iload (M := mL_law b n xs) (pc := 3136) dL_law_3136 rfl ?_
  refine tq_icmp_eq (M := mL_law b n xs) (pc := 3138) (tgt := 3143) dL_law_3138 (by decide) (fun cc => ?_) (fun cc => ?_)
  · have hf := tq_ifp hf cc
    refine tq_iload (M := mL_law b n xs) (pc := 3143) dL_law_3143 rfl ?_
    refine tq_if_ne (M := mL_law b n xs) (pc := 3145) (tgt := 3160) dL_law_3145 (by decide) (fun cc => ?_) (fun cc => ?_)
    · have hf := tq_ifn hf cc
      refine tq_goto (M := mL_law b n xs) (pc := 3160) (tgt := 3605) dL_law_3160 (by decide) ?_
      obtain ⟨x8, ex8, hf⟩ := tq_le hf
      refine tq_iinc (M := mL_law b n xs) (pc := 3605) (v := x8) (L2 := [(4, .int x8), (6, .int v4.1), (5, .int v2.1), (0, .retAddr b), (1, .ref i1), (2, .ref i2), (3, .ref i3)]) dL_law_3605 rfl (by rw [ex8, tk_ki_5]) (Nat.le_of_ble_eq_true rfl) rfl ?_
      refine tq_goto (M := mL_law b n xs) (pc := 3608) (tgt := 23) dL_law_3608 (by decide) ?_
      refine tq_pick (L2 := [(0, .retAddr b), (1, .ref i1), (2, .ref i2), (3, .ref i3), (4, .int x8)]) [3, 4, 5, 6, 0] rfl ?_
      cases (Option.some.inj hf)
      exact tq_more (by omega) (by omega) (hc _ rfl)
    · have hf := tq_ifp hf cc
      refine tq_aload_n (M := mL_law b n xs) (pc := 3148) dL_law_3148 rfl ?_
      refine tq_iconst (M := mL_law b n xs) (pc := 3149) dL_law_3149 tk_ki_0 ?_
      obtain ⟨x9, ex9, hf⟩ := tq_be hf
      refine tq_laldF (M := mL_law b n xs) (pc := 3150) dL_law_3150 ex9 ?_
      refine tq_iload (M := mL_law b n xs) (pc := 3151) dL_law_3151 rfl ?_
      refine tq_i2l (M := mL_law b n xs) (pc := 3153) dL_law_3153 ?_
      refine tq_lcmp (M := mL_law b n xs) (pc := 3154) dL_law_3154 ?_
      refine tq_if_eq (M := mL_law b n xs) (pc := 3155) (tgt := 3160) dL_law_3155 (by decide) (fun cc => ?_) (fun cc => ?_)
      · have hf := tq_ifp hf cc
        refine tq_goto (M := mL_law b n xs) (pc := 3160) (tgt := 3605) dL_law_3160 (by decide) ?_
        obtain ⟨x10, ex10, hf⟩ := tq_le hf
        refine tq_iinc (M := mL_law b n xs) (pc := 3605) (v := x10) (L2 := [(4, .int x10), (6, .int v4.1), (5, .int v2.1), (0, .retAddr b), (1, .ref i1), (2, .ref i2), (3, .ref i3)]) dL_law_3605 rfl (by rw [ex10, tk_ki_5]) (Nat.le_of_ble_eq_true rfl) rfl ?_
        refine tq_goto (M := mL_law b n xs) (pc := 3608) (tgt := 23) dL_law_3608 (by decide) ?_
        refine tq_pick (L2 := [(0, .retAddr b), (1, .ref i1), (2, .ref i2), (3, .ref i3), (4, .int x10)]) [3, 4, 5, 6, 0] rfl ?_
        cases (Option.some.inj hf)
        exact tq_more (by omega) (by omega) (hc _ rfl)
      · have hf := tq_ifn hf cc
        refine tq_iconst (M := mL_law b n xs) (pc := 3158) dL_law_3158 tk_ki_0 ?_
        refine tq_zret (M := mL_law b n xs) (pc := 3159) dL_law_3159 rfl (Or.inl rfl) ?_
        cases (Option.some.inj hf)
        exact hx _ rfl
  · have hf := tq_ifn hf cc
    refine tq_iconst (M := mL_law b n xs) (pc := 3141) dL_law_3141 tk_ki_0 ?_
    refine tq_zret (M := mL_law b n xs) (pc := 3142) dL_law_3142 rfl (Or.inl rfl) ?_
    cases (Option.some.inj hf)
    exact hx _ rfl
def f_L_law_c3163 (n : Nat) (xs : Nat → Int32) (i1 i2 i3 : Nat) (y4 : Int32) (hh : tq_H) : Option ((Int32 × tq_H) ⊕ (Int32 × tq_H)) :=
  (tq_sx n xs (y4 + (1 : Int32))).bind fun x1 =>
  (tq_sx n xs (y4 + (2 : Int32))).bind fun x2 =>
  (f_L_ranked i1 x1 x2 i3 hh).bind fun v3 =>
  (tq_sx n xs (y4 + (1 : Int32))).bind fun x4 =>
  (tq_sx n xs (y4 + (2 : Int32))).bind fun x5 =>
  (tq_is v3.2 i2 11).bind fun _ =>
  (f_X11_ranked i2 x4 x5 v3.2).bind fun v6 =>
  (tq_is v6.2 i2 11).bind fun _ =>
  (f_X11_thrown i2 v6.2).bind fun v8 =>
  if v8 = v3.1 then
    if v3.1 = 0 then
      (tq_aj v6.2 i3 (0 : Int32)).bind fun x11 =>
      if (lg_cmp x11 (v6.1).toInt64) = 0 then
        tq_let (y4 + (5 : Int32)) fun x12 =>
        some (.inl (x12, v6.2))
      else
        some (.inr ((0 : Int32), v6.2))
    else
      tq_let (y4 + (5 : Int32)) fun x10 =>
      some (.inl (x10, v6.2))
  else
    some (.inr ((0 : Int32), v6.2))
set_option maxHeartbeats 4000000 in
set_option maxRecDepth 20000 in
theorem c_L_law_3163 {l : Launch} {d : Nat} (hd9 : 10 ≤ d) {b n : Nat} {xs : Nat → Int32} {i1 i2 i3 : Nat} {y4 : Int32} {hh : tq_H} {Q : tq_R → tq_H → Prop} {bc bs : Nat} {oo : (Int32 × tq_H) ⊕ (Int32 × tq_H)} (hf : f_L_law_c3163 n xs i1 i2 i3 y4 hh = some oo) (hc : ∀ s9, oo = .inl s9 → tq_W l (mL_law b n xs) d bc bs Q 23 [(0, .retAddr b), (1, .ref i1), (2, .ref i2), (3, .ref i3), (4, .int s9.1)] [] s9.2) (hx : ∀ e9, oo = .inr e9 → Q (.inl (some (.int e9.1))) e9.2) : tq_W l (mL_law b n xs) d (2 + bc) (12 + bs) Q 3163 [(0, .retAddr b), (1, .ref i1), (2, .ref i2), (3, .ref i3), (4, .int y4)] [] hh := by
  refine tq_aload_n (M := mL_law b n xs) (pc := 3163) dL_law_3163 rfl ?_
  refine tq_xload (M := mL_law b n xs) (pc := 3164) dL_law_3164 rfl ?_
  refine tq_iload (M := mL_law b n xs) (pc := 3165) dL_law_3165 rfl ?_
  refine tq_iconst (M := mL_law b n xs) (pc := 3167) dL_law_3167 tk_ki_1 ?_
  refine tq_iadd (M := mL_law b n xs) (pc := 3168) dL_law_3168 ?_
  obtain ⟨x1, ex1, hf⟩ := tq_be hf
  refine tq_xld (M := mL_law b n xs) (pc := 3169) dL_law_3169 (n := n) (xs := xs) rfl ex1 ?_
  refine tq_xload (M := mL_law b n xs) (pc := 3170) dL_law_3170 rfl ?_
  refine tq_iload (M := mL_law b n xs) (pc := 3171) dL_law_3171 rfl ?_
  refine tq_iconst (M := mL_law b n xs) (pc := 3173) dL_law_3173 tk_ki_2 ?_
  refine tq_iadd (M := mL_law b n xs) (pc := 3174) dL_law_3174 ?_
  obtain ⟨x2, ex2, hf⟩ := tq_be hf
  refine tq_xld (M := mL_law b n xs) (pc := 3175) dL_law_3175 (n := n) (xs := xs) rfl ex2 ?_
  refine tq_aload_n (M := mL_law b n xs) (pc := 3176) dL_law_3176 rfl ?_
  obtain ⟨v3, ev3, hf⟩ := tq_be hf
  refine tq_calSW (M := mL_law b n xs) (pc := 3177) (S := []) tk_w_L_ranked.1 tk_w_L_ranked.2.1 tk_w_L_ranked.2.2.1 tk_w_L_ranked.2.2.2.1 tk_w_L_ranked.2.2.2.2 tk_s_L_ranked tk_RL_337 dL_law_3177 [.ref i1, .int x1, .int x2, .ref i3] rfl (Nat.le_of_ble_eq_true rfl) (d1 := d - 1) (b1 := 2) (s1 := 12) (bc' := (0 + bc)) (bs' := (0 + bs)) (Q1 := fun r h9 => r = .inl (some (.int v3.1)) ∧ v3.2 = h9) (by omega) (by omega) (by omega) (w_L_ranked (by omega) ev3 (fun _ _ q => q)) (fun E h9 q => nomatch (show (Sum.inr E : tq_R) = Sum.inl _ from q.1)) (fun r9 h9 q => ?_)
  obtain ⟨q1, rfl⟩ := q
  cases (show (Sum.inl r9 : tq_R) = Sum.inl (some (.int v3.1)) from q1)
  refine tq_istore (M := mL_law b n xs) (pc := 3180) dL_law_3180 (L2 := [(5, .int v3.1), (0, .retAddr b), (1, .ref i1), (2, .ref i2), (3, .ref i3), (4, .int y4)]) (Nat.le_of_ble_eq_true rfl) rfl ?_
  refine tq_aload_n (M := mL_law b n xs) (pc := 3182) dL_law_3182 rfl ?_
  refine tq_xload (M := mL_law b n xs) (pc := 3183) dL_law_3183 rfl ?_
  refine tq_iload (M := mL_law b n xs) (pc := 3184) dL_law_3184 rfl ?_
  refine tq_iconst (M := mL_law b n xs) (pc := 3186) dL_law_3186 tk_ki_1 ?_
  refine tq_iadd (M := mL_law b n xs) (pc := 3187) dL_law_3187 ?_
  obtain ⟨x4, ex4, hf⟩ := tq_be hf
  refine tq_xld (M := mL_law b n xs) (pc := 3188) dL_law_3188 (n := n) (xs := xs) rfl ex4 ?_
  refine tq_xload (M := mL_law b n xs) (pc := 3189) dL_law_3189 rfl ?_
  refine tq_iload (M := mL_law b n xs) (pc := 3190) dL_law_3190 rfl ?_
  refine tq_iconst (M := mL_law b n xs) (pc := 3192) dL_law_3192 tk_ki_2 ?_
  refine tq_iadd (M := mL_law b n xs) (pc := 3193) dL_law_3193 ?_
  obtain ⟨x5, ex5, hf⟩ := tq_be hf
  refine tq_xld (M := mL_law b n xs) (pc := 3194) dL_law_3194 (n := n) (xs := xs) rfl ex5 ?_
  obtain ⟨⟨⟩, eu7, hf⟩ := tq_be hf
  obtain ⟨fsu7, eu7⟩ := tq_is_s eu7
  obtain ⟨v6, ev6, hf⟩ := tq_be hf
  refine tq_calV (M := mL_law b n xs) (pc := 3195) (S := []) tk_y_X11_ranked tk_v_X11_ranked tk_RL_339 dL_law_3195 [.int x4, .int x5] rfl (S0 := _) rfl eu7 rfl (Nat.le_of_ble_eq_true rfl) (d1 := d - 1) (b1 := 0) (s1 := 0) (bc' := (0 + bc)) (bs' := (0 + bs)) (Q1 := fun r h9 => r = .inl (some (.int v6.1)) ∧ v6.2 = h9) (by omega) (by omega) (by omega) (w_X11_ranked (by omega) ev6 (fun _ _ q => q)) (fun E h9 q => nomatch (show (Sum.inr E : tq_R) = Sum.inl _ from q.1)) (fun r9 h9 q => ?_)
  obtain ⟨q1, rfl⟩ := q
  cases (show (Sum.inl r9 : tq_R) = Sum.inl (some (.int v6.1)) from q1)
  refine tq_istore (M := mL_law b n xs) (pc := 3198) dL_law_3198 (L2 := [(6, .int v6.1), (5, .int v3.1), (0, .retAddr b), (1, .ref i1), (2, .ref i2), (3, .ref i3), (4, .int y4)]) (Nat.le_of_ble_eq_true rfl) rfl ?_
  refine tq_aload_n (M := mL_law b n xs) (pc := 3200) dL_law_3200 rfl ?_
  obtain ⟨⟨⟩, eu9, hf⟩ := tq_be hf
  obtain ⟨fsu9, eu9⟩ := tq_is_s eu9
  obtain ⟨v8, ev8, hf⟩ := tq_be hf
  refine tq_calV (M := mL_law b n xs) (pc := 3201) (S := []) tk_y_X11_thrown tk_v_X11_thrown tk_RL_177 dL_law_3201 [] rfl (S0 := _) rfl eu9 rfl (Nat.le_of_ble_eq_true rfl) (d1 := d - 1) (b1 := 0) (s1 := 0) (bc' := (0 + bc)) (bs' := (0 + bs)) (Q1 := fun r h9 => r = .inl (some (.int v8)) ∧ v6.2 = h9) (by omega) (by omega) (by omega) (w_X11_thrown (by omega) ev8 (fun _ _ q => q)) (fun E h9 q => nomatch (show (Sum.inr E : tq_R) = Sum.inl _ from q.1)) (fun r9 h9 q => ?_)
  obtain ⟨q1, rfl⟩ := q
  cases (show (Sum.inl r9 : tq_R) = Sum.inl (some (.int v8)) from q1)
  refine tq_iload (M := mL_law b n xs) (pc := 3204) dL_law_3204 rfl ?_
  refine tq_icmp_eq (M := mL_law b n xs) (pc := 3206) (tgt := 3211) dL_law_3206 (by decide) (fun cc => ?_) (fun cc => ?_)
  · have hf := tq_ifp hf cc
    refine tq_iload (M := mL_law b n xs) (pc := 3211) dL_law_3211 rfl ?_
    refine tq_if_ne (M := mL_law b n xs) (pc := 3213) (tgt := 3228) dL_law_3213 (by decide) (fun cc => ?_) (fun cc => ?_)
    · have hf := tq_ifn hf cc
      refine tq_goto (M := mL_law b n xs) (pc := 3228) (tgt := 3605) dL_law_3228 (by decide) ?_
      obtain ⟨x10, ex10, hf⟩ := tq_le hf
      refine tq_iinc (M := mL_law b n xs) (pc := 3605) (v := x10) (L2 := [(4, .int x10), (6, .int v6.1), (5, .int v3.1), (0, .retAddr b), (1, .ref i1), (2, .ref i2), (3, .ref i3)]) dL_law_3605 rfl (by rw [ex10, tk_ki_5]) (Nat.le_of_ble_eq_true rfl) rfl ?_
      refine tq_goto (M := mL_law b n xs) (pc := 3608) (tgt := 23) dL_law_3608 (by decide) ?_
      refine tq_pick (L2 := [(0, .retAddr b), (1, .ref i1), (2, .ref i2), (3, .ref i3), (4, .int x10)]) [3, 4, 5, 6, 0] rfl ?_
      cases (Option.some.inj hf)
      exact tq_more (by omega) (by omega) (hc _ rfl)
    · have hf := tq_ifp hf cc
      refine tq_aload_n (M := mL_law b n xs) (pc := 3216) dL_law_3216 rfl ?_
      refine tq_iconst (M := mL_law b n xs) (pc := 3217) dL_law_3217 tk_ki_0 ?_
      obtain ⟨x11, ex11, hf⟩ := tq_be hf
      refine tq_laldF (M := mL_law b n xs) (pc := 3218) dL_law_3218 ex11 ?_
      refine tq_iload (M := mL_law b n xs) (pc := 3219) dL_law_3219 rfl ?_
      refine tq_i2l (M := mL_law b n xs) (pc := 3221) dL_law_3221 ?_
      refine tq_lcmp (M := mL_law b n xs) (pc := 3222) dL_law_3222 ?_
      refine tq_if_eq (M := mL_law b n xs) (pc := 3223) (tgt := 3228) dL_law_3223 (by decide) (fun cc => ?_) (fun cc => ?_)
      · have hf := tq_ifp hf cc
        refine tq_goto (M := mL_law b n xs) (pc := 3228) (tgt := 3605) dL_law_3228 (by decide) ?_
        obtain ⟨x12, ex12, hf⟩ := tq_le hf
        refine tq_iinc (M := mL_law b n xs) (pc := 3605) (v := x12) (L2 := [(4, .int x12), (6, .int v6.1), (5, .int v3.1), (0, .retAddr b), (1, .ref i1), (2, .ref i2), (3, .ref i3)]) dL_law_3605 rfl (by rw [ex12, tk_ki_5]) (Nat.le_of_ble_eq_true rfl) rfl ?_
        refine tq_goto (M := mL_law b n xs) (pc := 3608) (tgt := 23) dL_law_3608 (by decide) ?_
        refine tq_pick (L2 := [(0, .retAddr b), (1, .ref i1), (2, .ref i2), (3, .ref i3), (4, .int x12)]) [3, 4, 5, 6, 0] rfl ?_
        cases (Option.some.inj hf)
        exact tq_more (by omega) (by omega) (hc _ rfl)
      · have hf := tq_ifn hf cc
        refine tq_iconst (M := mL_law b n xs) (pc := 3226) dL_law_3226 tk_ki_0 ?_
        refine tq_zret (M := mL_law b n xs) (pc := 3227) dL_law_3227 rfl (Or.inl rfl) ?_
        cases (Option.some.inj hf)
        exact hx _ rfl
  · have hf := tq_ifn hf cc
    refine tq_iconst (M := mL_law b n xs) (pc := 3209) dL_law_3209 tk_ki_0 ?_
    refine tq_zret (M := mL_law b n xs) (pc := 3210) dL_law_3210 rfl (Or.inl rfl) ?_
    cases (Option.some.inj hf)
    exact hx _ rfl
def f_L_law_c3231 (n : Nat) (xs : Nat → Int32) (i1 i2 i3 : Nat) (y4 : Int32) (hh : tq_H) : Option ((Int32 × tq_H) ⊕ (Int32 × tq_H)) :=
  (f_L_keep i1 i3 hh).bind fun v1 =>
  (tq_is v1.2 i2 11).bind fun _ =>
  (f_X11_keep i2 v1.2).bind fun v2 =>
  (tq_is v2.2 i2 11).bind fun _ =>
  (f_X11_thrown i2 v2.2).bind fun v4 =>
  if v4 = v1.1 then
    if v1.1 = 0 then
      (tq_aj v2.2 i3 (0 : Int32)).bind fun x7 =>
      if (lg_cmp x7 (v2.1).toInt64) = 0 then
        tq_let (y4 + (5 : Int32)) fun x8 =>
        some (.inl (x8, v2.2))
      else
        some (.inr ((0 : Int32), v2.2))
    else
      tq_let (y4 + (5 : Int32)) fun x6 =>
      some (.inl (x6, v2.2))
  else
    some (.inr ((0 : Int32), v2.2))
set_option maxHeartbeats 4000000 in
set_option maxRecDepth 20000 in
theorem c_L_law_3231 {l : Launch} {d : Nat} (hd9 : 10 ≤ d) {b n : Nat} {xs : Nat → Int32} {i1 i2 i3 : Nat} {y4 : Int32} {hh : tq_H} {Q : tq_R → tq_H → Prop} {bc bs : Nat} {oo : (Int32 × tq_H) ⊕ (Int32 × tq_H)} (hf : f_L_law_c3231 n xs i1 i2 i3 y4 hh = some oo) (hc : ∀ s9, oo = .inl s9 → tq_W l (mL_law b n xs) d bc bs Q 23 [(0, .retAddr b), (1, .ref i1), (2, .ref i2), (3, .ref i3), (4, .int s9.1)] [] s9.2) (hx : ∀ e9, oo = .inr e9 → Q (.inl (some (.int e9.1))) e9.2) : tq_W l (mL_law b n xs) d (41 + bc) (1143 + bs) Q 3231 [(0, .retAddr b), (1, .ref i1), (2, .ref i2), (3, .ref i3), (4, .int y4)] [] hh := by
  refine tq_aload_n (M := mL_law b n xs) (pc := 3231) dL_law_3231 rfl ?_
  refine tq_aload_n (M := mL_law b n xs) (pc := 3232) dL_law_3232 rfl ?_
  obtain ⟨v1, ev1, hf⟩ := tq_be hf
  refine tq_calSW (M := mL_law b n xs) (pc := 3233) (S := []) tk_w_L_keep.1 tk_w_L_keep.2.1 tk_w_L_keep.2.2.1 tk_w_L_keep.2.2.2.1 tk_w_L_keep.2.2.2.2 tk_s_L_keep tk_RL_340 dL_law_3233 [.ref i1, .ref i3] rfl (Nat.le_of_ble_eq_true rfl) (d1 := d - 1) (b1 := 41) (s1 := 1143) (bc' := (0 + bc)) (bs' := (0 + bs)) (Q1 := fun r h9 => r = .inl (some (.int v1.1)) ∧ v1.2 = h9) (by omega) (by omega) (by omega) (w_L_keep (by omega) ev1 (fun _ _ q => q)) (fun E h9 q => nomatch (show (Sum.inr E : tq_R) = Sum.inl _ from q.1)) (fun r9 h9 q => ?_)
  obtain ⟨q1, rfl⟩ := q
  cases (show (Sum.inl r9 : tq_R) = Sum.inl (some (.int v1.1)) from q1)
  refine tq_istore (M := mL_law b n xs) (pc := 3236) dL_law_3236 (L2 := [(5, .int v1.1), (0, .retAddr b), (1, .ref i1), (2, .ref i2), (3, .ref i3), (4, .int y4)]) (Nat.le_of_ble_eq_true rfl) rfl ?_
  refine tq_aload_n (M := mL_law b n xs) (pc := 3238) dL_law_3238 rfl ?_
  obtain ⟨⟨⟩, eu3, hf⟩ := tq_be hf
  obtain ⟨fsu3, eu3⟩ := tq_is_s eu3
  obtain ⟨v2, ev2, hf⟩ := tq_be hf
  refine tq_calV (M := mL_law b n xs) (pc := 3239) (S := []) tk_y_X11_keep tk_v_X11_keep tk_RL_342 dL_law_3239 [] rfl (S0 := _) rfl eu3 rfl (Nat.le_of_ble_eq_true rfl) (d1 := d - 1) (b1 := 0) (s1 := 0) (bc' := (0 + bc)) (bs' := (0 + bs)) (Q1 := fun r h9 => r = .inl (some (.int v2.1)) ∧ v2.2 = h9) (by omega) (by omega) (by omega) (w_X11_keep (by omega) ev2 (fun _ _ q => q)) (fun E h9 q => nomatch (show (Sum.inr E : tq_R) = Sum.inl _ from q.1)) (fun r9 h9 q => ?_)
  obtain ⟨q1, rfl⟩ := q
  cases (show (Sum.inl r9 : tq_R) = Sum.inl (some (.int v2.1)) from q1)
  refine tq_istore (M := mL_law b n xs) (pc := 3242) dL_law_3242 (L2 := [(6, .int v2.1), (5, .int v1.1), (0, .retAddr b), (1, .ref i1), (2, .ref i2), (3, .ref i3), (4, .int y4)]) (Nat.le_of_ble_eq_true rfl) rfl ?_
  refine tq_aload_n (M := mL_law b n xs) (pc := 3244) dL_law_3244 rfl ?_
  obtain ⟨⟨⟩, eu5, hf⟩ := tq_be hf
  obtain ⟨fsu5, eu5⟩ := tq_is_s eu5
  obtain ⟨v4, ev4, hf⟩ := tq_be hf
  refine tq_calV (M := mL_law b n xs) (pc := 3245) (S := []) tk_y_X11_thrown tk_v_X11_thrown tk_RL_177 dL_law_3245 [] rfl (S0 := _) rfl eu5 rfl (Nat.le_of_ble_eq_true rfl) (d1 := d - 1) (b1 := 0) (s1 := 0) (bc' := (0 + bc)) (bs' := (0 + bs)) (Q1 := fun r h9 => r = .inl (some (.int v4)) ∧ v2.2 = h9) (by omega) (by omega) (by omega) (w_X11_thrown (by omega) ev4 (fun _ _ q => q)) (fun E h9 q => nomatch (show (Sum.inr E : tq_R) = Sum.inl _ from q.1)) (fun r9 h9 q => ?_)
  obtain ⟨q1, rfl⟩ := q
  cases (show (Sum.inl r9 : tq_R) = Sum.inl (some (.int v4)) from q1)
  refine tq_iload (M := mL_law b n xs) (pc := 3248) dL_law_3248 rfl ?_
  refine tq_icmp_eq (M := mL_law b n xs) (pc := 3250) (tgt := 3255) dL_law_3250 (by decide) (fun cc => ?_) (fun cc => ?_)
  · have hf := tq_ifp hf cc
    refine tq_iload (M := mL_law b n xs) (pc := 3255) dL_law_3255 rfl ?_
    refine tq_if_ne (M := mL_law b n xs) (pc := 3257) (tgt := 3272) dL_law_3257 (by decide) (fun cc => ?_) (fun cc => ?_)
    · have hf := tq_ifn hf cc
      refine tq_goto (M := mL_law b n xs) (pc := 3272) (tgt := 3605) dL_law_3272 (by decide) ?_
      obtain ⟨x6, ex6, hf⟩ := tq_le hf
      refine tq_iinc (M := mL_law b n xs) (pc := 3605) (v := x6) (L2 := [(4, .int x6), (6, .int v2.1), (5, .int v1.1), (0, .retAddr b), (1, .ref i1), (2, .ref i2), (3, .ref i3)]) dL_law_3605 rfl (by rw [ex6, tk_ki_5]) (Nat.le_of_ble_eq_true rfl) rfl ?_
      refine tq_goto (M := mL_law b n xs) (pc := 3608) (tgt := 23) dL_law_3608 (by decide) ?_
      refine tq_pick (L2 := [(0, .retAddr b), (1, .ref i1), (2, .ref i2), (3, .ref i3), (4, .int x6)]) [3, 4, 5, 6, 0] rfl ?_
      cases (Option.some.inj hf)
      exact tq_more (by omega) (by omega) (hc _ rfl)
    · have hf := tq_ifp hf cc
      refine tq_aload_n (M := mL_law b n xs) (pc := 3260) dL_law_3260 rfl ?_
      refine tq_iconst (M := mL_law b n xs) (pc := 3261) dL_law_3261 tk_ki_0 ?_
      obtain ⟨x7, ex7, hf⟩ := tq_be hf
      refine tq_laldF (M := mL_law b n xs) (pc := 3262) dL_law_3262 ex7 ?_
      refine tq_iload (M := mL_law b n xs) (pc := 3263) dL_law_3263 rfl ?_
      refine tq_i2l (M := mL_law b n xs) (pc := 3265) dL_law_3265 ?_
      refine tq_lcmp (M := mL_law b n xs) (pc := 3266) dL_law_3266 ?_
      refine tq_if_eq (M := mL_law b n xs) (pc := 3267) (tgt := 3272) dL_law_3267 (by decide) (fun cc => ?_) (fun cc => ?_)
      · have hf := tq_ifp hf cc
        refine tq_goto (M := mL_law b n xs) (pc := 3272) (tgt := 3605) dL_law_3272 (by decide) ?_
        obtain ⟨x8, ex8, hf⟩ := tq_le hf
        refine tq_iinc (M := mL_law b n xs) (pc := 3605) (v := x8) (L2 := [(4, .int x8), (6, .int v2.1), (5, .int v1.1), (0, .retAddr b), (1, .ref i1), (2, .ref i2), (3, .ref i3)]) dL_law_3605 rfl (by rw [ex8, tk_ki_5]) (Nat.le_of_ble_eq_true rfl) rfl ?_
        refine tq_goto (M := mL_law b n xs) (pc := 3608) (tgt := 23) dL_law_3608 (by decide) ?_
        refine tq_pick (L2 := [(0, .retAddr b), (1, .ref i1), (2, .ref i2), (3, .ref i3), (4, .int x8)]) [3, 4, 5, 6, 0] rfl ?_
        cases (Option.some.inj hf)
        exact tq_more (by omega) (by omega) (hc _ rfl)
      · have hf := tq_ifn hf cc
        refine tq_iconst (M := mL_law b n xs) (pc := 3270) dL_law_3270 tk_ki_0 ?_
        refine tq_zret (M := mL_law b n xs) (pc := 3271) dL_law_3271 rfl (Or.inl rfl) ?_
        cases (Option.some.inj hf)
        exact hx _ rfl
  · have hf := tq_ifn hf cc
    refine tq_iconst (M := mL_law b n xs) (pc := 3253) dL_law_3253 tk_ki_0 ?_
    refine tq_zret (M := mL_law b n xs) (pc := 3254) dL_law_3254 rfl (Or.inl rfl) ?_
    cases (Option.some.inj hf)
    exact hx _ rfl
def f_L_law_c3275 (n : Nat) (xs : Nat → Int32) (i1 i2 i3 : Nat) (y4 : Int32) (hh : tq_H) : Option ((Int32 × tq_H) ⊕ (Int32 × tq_H)) :=
  (tq_sx n xs (y4 + (1 : Int32))).bind fun x1 =>
  (f_L_take i1 x1 i3 hh).bind fun v2 =>
  (tq_sx n xs (y4 + (1 : Int32))).bind fun x3 =>
  (tq_is v2.2 i2 11).bind fun _ =>
  (f_X11_take i2 x3 v2.2).bind fun v4 =>
  (tq_is v4.2 i2 11).bind fun _ =>
  (f_X11_thrown i2 v4.2).bind fun v6 =>
  if v6 = v2.1 then
    if v2.1 = 0 then
      (tq_aj v4.2 i3 (0 : Int32)).bind fun x9 =>
      if (lg_cmp x9 (v4.1).toInt64) = 0 then
        tq_let (y4 + (5 : Int32)) fun x10 =>
        some (.inl (x10, v4.2))
      else
        some (.inr ((0 : Int32), v4.2))
    else
      tq_let (y4 + (5 : Int32)) fun x8 =>
      some (.inl (x8, v4.2))
  else
    some (.inr ((0 : Int32), v4.2))
set_option maxHeartbeats 4000000 in
set_option maxRecDepth 20000 in
theorem c_L_law_3275 {l : Launch} {d : Nat} (hd9 : 10 ≤ d) {b n : Nat} {xs : Nat → Int32} {i1 i2 i3 : Nat} {y4 : Int32} {hh : tq_H} {Q : tq_R → tq_H → Prop} {bc bs : Nat} {oo : (Int32 × tq_H) ⊕ (Int32 × tq_H)} (hf : f_L_law_c3275 n xs i1 i2 i3 y4 hh = some oo) (hc : ∀ s9, oo = .inl s9 → tq_W l (mL_law b n xs) d bc bs Q 23 [(0, .retAddr b), (1, .ref i1), (2, .ref i2), (3, .ref i3), (4, .int s9.1)] [] s9.2) (hx : ∀ e9, oo = .inr e9 → Q (.inl (some (.int e9.1))) e9.2) : tq_W l (mL_law b n xs) d (2 + bc) (12 + bs) Q 3275 [(0, .retAddr b), (1, .ref i1), (2, .ref i2), (3, .ref i3), (4, .int y4)] [] hh := by
  refine tq_aload_n (M := mL_law b n xs) (pc := 3275) dL_law_3275 rfl ?_
  refine tq_xload (M := mL_law b n xs) (pc := 3276) dL_law_3276 rfl ?_
  refine tq_iload (M := mL_law b n xs) (pc := 3277) dL_law_3277 rfl ?_
  refine tq_iconst (M := mL_law b n xs) (pc := 3279) dL_law_3279 tk_ki_1 ?_
  refine tq_iadd (M := mL_law b n xs) (pc := 3280) dL_law_3280 ?_
  obtain ⟨x1, ex1, hf⟩ := tq_be hf
  refine tq_xld (M := mL_law b n xs) (pc := 3281) dL_law_3281 (n := n) (xs := xs) rfl ex1 ?_
  refine tq_aload_n (M := mL_law b n xs) (pc := 3282) dL_law_3282 rfl ?_
  obtain ⟨v2, ev2, hf⟩ := tq_be hf
  refine tq_calSW (M := mL_law b n xs) (pc := 3283) (S := []) tk_w_L_take.1 tk_w_L_take.2.1 tk_w_L_take.2.2.1 tk_w_L_take.2.2.2.1 tk_w_L_take.2.2.2.2 tk_s_L_take tk_RL_343 dL_law_3283 [.ref i1, .int x1, .ref i3] rfl (Nat.le_of_ble_eq_true rfl) (d1 := d - 1) (b1 := 2) (s1 := 12) (bc' := (0 + bc)) (bs' := (0 + bs)) (Q1 := fun r h9 => r = .inl (some (.int v2.1)) ∧ v2.2 = h9) (by omega) (by omega) (by omega) (w_L_take (by omega) ev2 (fun _ _ q => q)) (fun E h9 q => nomatch (show (Sum.inr E : tq_R) = Sum.inl _ from q.1)) (fun r9 h9 q => ?_)
  obtain ⟨q1, rfl⟩ := q
  cases (show (Sum.inl r9 : tq_R) = Sum.inl (some (.int v2.1)) from q1)
  refine tq_istore (M := mL_law b n xs) (pc := 3286) dL_law_3286 (L2 := [(5, .int v2.1), (0, .retAddr b), (1, .ref i1), (2, .ref i2), (3, .ref i3), (4, .int y4)]) (Nat.le_of_ble_eq_true rfl) rfl ?_
  refine tq_aload_n (M := mL_law b n xs) (pc := 3288) dL_law_3288 rfl ?_
  refine tq_xload (M := mL_law b n xs) (pc := 3289) dL_law_3289 rfl ?_
  refine tq_iload (M := mL_law b n xs) (pc := 3290) dL_law_3290 rfl ?_
  refine tq_iconst (M := mL_law b n xs) (pc := 3292) dL_law_3292 tk_ki_1 ?_
  refine tq_iadd (M := mL_law b n xs) (pc := 3293) dL_law_3293 ?_
  obtain ⟨x3, ex3, hf⟩ := tq_be hf
  refine tq_xld (M := mL_law b n xs) (pc := 3294) dL_law_3294 (n := n) (xs := xs) rfl ex3 ?_
  obtain ⟨⟨⟩, eu5, hf⟩ := tq_be hf
  obtain ⟨fsu5, eu5⟩ := tq_is_s eu5
  obtain ⟨v4, ev4, hf⟩ := tq_be hf
  refine tq_calV (M := mL_law b n xs) (pc := 3295) (S := []) tk_y_X11_take tk_v_X11_take tk_RL_345 dL_law_3295 [.int x3] rfl (S0 := _) rfl eu5 rfl (Nat.le_of_ble_eq_true rfl) (d1 := d - 1) (b1 := 0) (s1 := 0) (bc' := (0 + bc)) (bs' := (0 + bs)) (Q1 := fun r h9 => r = .inl (some (.int v4.1)) ∧ v4.2 = h9) (by omega) (by omega) (by omega) (w_X11_take (by omega) ev4 (fun _ _ q => q)) (fun E h9 q => nomatch (show (Sum.inr E : tq_R) = Sum.inl _ from q.1)) (fun r9 h9 q => ?_)
  obtain ⟨q1, rfl⟩ := q
  cases (show (Sum.inl r9 : tq_R) = Sum.inl (some (.int v4.1)) from q1)
  refine tq_istore (M := mL_law b n xs) (pc := 3298) dL_law_3298 (L2 := [(6, .int v4.1), (5, .int v2.1), (0, .retAddr b), (1, .ref i1), (2, .ref i2), (3, .ref i3), (4, .int y4)]) (Nat.le_of_ble_eq_true rfl) rfl ?_
  refine tq_aload_n (M := mL_law b n xs) (pc := 3300) dL_law_3300 rfl ?_
  obtain ⟨⟨⟩, eu7, hf⟩ := tq_be hf
  obtain ⟨fsu7, eu7⟩ := tq_is_s eu7
  obtain ⟨v6, ev6, hf⟩ := tq_be hf
  refine tq_calV (M := mL_law b n xs) (pc := 3301) (S := []) tk_y_X11_thrown tk_v_X11_thrown tk_RL_177 dL_law_3301 [] rfl (S0 := _) rfl eu7 rfl (Nat.le_of_ble_eq_true rfl) (d1 := d - 1) (b1 := 0) (s1 := 0) (bc' := (0 + bc)) (bs' := (0 + bs)) (Q1 := fun r h9 => r = .inl (some (.int v6)) ∧ v4.2 = h9) (by omega) (by omega) (by omega) (w_X11_thrown (by omega) ev6 (fun _ _ q => q)) (fun E h9 q => nomatch (show (Sum.inr E : tq_R) = Sum.inl _ from q.1)) (fun r9 h9 q => ?_)
  obtain ⟨q1, rfl⟩ := q
  cases (show (Sum.inl r9 : tq_R) = Sum.inl (some (.int v6)) from q1)
  refine tq_iload (M := mL_law b n xs) (pc := 3304) dL_law_3304 rfl ?_
  refine tq_icmp_eq (M := mL_law b n xs) (pc := 3306) (tgt := 3311) dL_law_3306 (by decide) (fun cc => ?_) (fun cc => ?_)
  · have hf := tq_ifp hf cc
    refine tq_iload (M := mL_law b n xs) (pc := 3311) dL_law_3311 rfl ?_
    refine tq_if_ne (M := mL_law b n xs) (pc := 3313) (tgt := 3328) dL_law_3313 (by decide) (fun cc => ?_) (fun cc => ?_)
    · have hf := tq_ifn hf cc
      refine tq_goto (M := mL_law b n xs) (pc := 3328) (tgt := 3605) dL_law_3328 (by decide) ?_
      obtain ⟨x8, ex8, hf⟩ := tq_le hf
      refine tq_iinc (M := mL_law b n xs) (pc := 3605) (v := x8) (L2 := [(4, .int x8), (6, .int v4.1), (5, .int v2.1), (0, .retAddr b), (1, .ref i1), (2, .ref i2), (3, .ref i3)]) dL_law_3605 rfl (by rw [ex8, tk_ki_5]) (Nat.le_of_ble_eq_true rfl) rfl ?_
      refine tq_goto (M := mL_law b n xs) (pc := 3608) (tgt := 23) dL_law_3608 (by decide) ?_
      refine tq_pick (L2 := [(0, .retAddr b), (1, .ref i1), (2, .ref i2), (3, .ref i3), (4, .int x8)]) [3, 4, 5, 6, 0] rfl ?_
      cases (Option.some.inj hf)
      exact tq_more (by omega) (by omega) (hc _ rfl)
    · have hf := tq_ifp hf cc
      refine tq_aload_n (M := mL_law b n xs) (pc := 3316) dL_law_3316 rfl ?_
      refine tq_iconst (M := mL_law b n xs) (pc := 3317) dL_law_3317 tk_ki_0 ?_
      obtain ⟨x9, ex9, hf⟩ := tq_be hf
      refine tq_laldF (M := mL_law b n xs) (pc := 3318) dL_law_3318 ex9 ?_
      refine tq_iload (M := mL_law b n xs) (pc := 3319) dL_law_3319 rfl ?_
      refine tq_i2l (M := mL_law b n xs) (pc := 3321) dL_law_3321 ?_
      refine tq_lcmp (M := mL_law b n xs) (pc := 3322) dL_law_3322 ?_
      refine tq_if_eq (M := mL_law b n xs) (pc := 3323) (tgt := 3328) dL_law_3323 (by decide) (fun cc => ?_) (fun cc => ?_)
      · have hf := tq_ifp hf cc
        refine tq_goto (M := mL_law b n xs) (pc := 3328) (tgt := 3605) dL_law_3328 (by decide) ?_
        obtain ⟨x10, ex10, hf⟩ := tq_le hf
        refine tq_iinc (M := mL_law b n xs) (pc := 3605) (v := x10) (L2 := [(4, .int x10), (6, .int v4.1), (5, .int v2.1), (0, .retAddr b), (1, .ref i1), (2, .ref i2), (3, .ref i3)]) dL_law_3605 rfl (by rw [ex10, tk_ki_5]) (Nat.le_of_ble_eq_true rfl) rfl ?_
        refine tq_goto (M := mL_law b n xs) (pc := 3608) (tgt := 23) dL_law_3608 (by decide) ?_
        refine tq_pick (L2 := [(0, .retAddr b), (1, .ref i1), (2, .ref i2), (3, .ref i3), (4, .int x10)]) [3, 4, 5, 6, 0] rfl ?_
        cases (Option.some.inj hf)
        exact tq_more (by omega) (by omega) (hc _ rfl)
      · have hf := tq_ifn hf cc
        refine tq_iconst (M := mL_law b n xs) (pc := 3326) dL_law_3326 tk_ki_0 ?_
        refine tq_zret (M := mL_law b n xs) (pc := 3327) dL_law_3327 rfl (Or.inl rfl) ?_
        cases (Option.some.inj hf)
        exact hx _ rfl
  · have hf := tq_ifn hf cc
    refine tq_iconst (M := mL_law b n xs) (pc := 3309) dL_law_3309 tk_ki_0 ?_
    refine tq_zret (M := mL_law b n xs) (pc := 3310) dL_law_3310 rfl (Or.inl rfl) ?_
    cases (Option.some.inj hf)
    exact hx _ rfl
def f_L_law_c3331 (n : Nat) (xs : Nat → Int32) (i1 i2 i3 : Nat) (y4 : Int32) (hh : tq_H) : Option ((Int32 × tq_H) ⊕ (Int32 × tq_H)) :=
  (tq_sx n xs (y4 + (1 : Int32))).bind fun x1 =>
  (tq_sx n xs (y4 + (2 : Int32))).bind fun x2 =>
  (f_L_distance i1 x1 x2 i3 hh).bind fun v3 =>
  (tq_sx n xs (y4 + (1 : Int32))).bind fun x4 =>
  (tq_sx n xs (y4 + (2 : Int32))).bind fun x5 =>
  (tq_is v3.2 i2 11).bind fun _ =>
  (f_X11_distance i2 x4 x5 v3.2).bind fun v6 =>
  (tq_is v6.2 i2 11).bind fun _ =>
  (f_X11_thrown i2 v6.2).bind fun v8 =>
  if v8 = v3.1 then
    if v3.1 = 0 then
      (tq_aj v6.2 i3 (0 : Int32)).bind fun x11 =>
      if (lg_cmp x11 (v6.1).toInt64) = 0 then
        tq_let (y4 + (5 : Int32)) fun x12 =>
        some (.inl (x12, v6.2))
      else
        some (.inr ((0 : Int32), v6.2))
    else
      tq_let (y4 + (5 : Int32)) fun x10 =>
      some (.inl (x10, v6.2))
  else
    some (.inr ((0 : Int32), v6.2))
set_option maxHeartbeats 4000000 in
set_option maxRecDepth 20000 in
theorem c_L_law_3331 {l : Launch} {d : Nat} (hd9 : 10 ≤ d) {b n : Nat} {xs : Nat → Int32} {i1 i2 i3 : Nat} {y4 : Int32} {hh : tq_H} {Q : tq_R → tq_H → Prop} {bc bs : Nat} {oo : (Int32 × tq_H) ⊕ (Int32 × tq_H)} (hf : f_L_law_c3331 n xs i1 i2 i3 y4 hh = some oo) (hc : ∀ s9, oo = .inl s9 → tq_W l (mL_law b n xs) d bc bs Q 23 [(0, .retAddr b), (1, .ref i1), (2, .ref i2), (3, .ref i3), (4, .int s9.1)] [] s9.2) (hx : ∀ e9, oo = .inr e9 → Q (.inl (some (.int e9.1))) e9.2) : tq_W l (mL_law b n xs) d (17 + bc) (7744 + bs) Q 3331 [(0, .retAddr b), (1, .ref i1), (2, .ref i2), (3, .ref i3), (4, .int y4)] [] hh := by
  refine tq_aload_n (M := mL_law b n xs) (pc := 3331) dL_law_3331 rfl ?_
  refine tq_xload (M := mL_law b n xs) (pc := 3332) dL_law_3332 rfl ?_
  refine tq_iload (M := mL_law b n xs) (pc := 3333) dL_law_3333 rfl ?_
  refine tq_iconst (M := mL_law b n xs) (pc := 3335) dL_law_3335 tk_ki_1 ?_
  refine tq_iadd (M := mL_law b n xs) (pc := 3336) dL_law_3336 ?_
  obtain ⟨x1, ex1, hf⟩ := tq_be hf
  refine tq_xld (M := mL_law b n xs) (pc := 3337) dL_law_3337 (n := n) (xs := xs) rfl ex1 ?_
  refine tq_xload (M := mL_law b n xs) (pc := 3338) dL_law_3338 rfl ?_
  refine tq_iload (M := mL_law b n xs) (pc := 3339) dL_law_3339 rfl ?_
  refine tq_iconst (M := mL_law b n xs) (pc := 3341) dL_law_3341 tk_ki_2 ?_
  refine tq_iadd (M := mL_law b n xs) (pc := 3342) dL_law_3342 ?_
  obtain ⟨x2, ex2, hf⟩ := tq_be hf
  refine tq_xld (M := mL_law b n xs) (pc := 3343) dL_law_3343 (n := n) (xs := xs) rfl ex2 ?_
  refine tq_aload_n (M := mL_law b n xs) (pc := 3344) dL_law_3344 rfl ?_
  obtain ⟨v3, ev3, hf⟩ := tq_be hf
  refine tq_calSW (M := mL_law b n xs) (pc := 3345) (S := []) tk_w_L_distance.1 tk_w_L_distance.2.1 tk_w_L_distance.2.2.1 tk_w_L_distance.2.2.2.1 tk_w_L_distance.2.2.2.2 tk_s_L_distance tk_RL_346 dL_law_3345 [.ref i1, .int x1, .int x2, .ref i3] rfl (Nat.le_of_ble_eq_true rfl) (d1 := d - 1) (b1 := 17) (s1 := 7744) (bc' := (0 + bc)) (bs' := (0 + bs)) (Q1 := fun r h9 => r = .inl (some (.int v3.1)) ∧ v3.2 = h9) (by omega) (by omega) (by omega) (w_L_distance (by omega) ev3 (fun _ _ q => q)) (fun E h9 q => nomatch (show (Sum.inr E : tq_R) = Sum.inl _ from q.1)) (fun r9 h9 q => ?_)
  obtain ⟨q1, rfl⟩ := q
  cases (show (Sum.inl r9 : tq_R) = Sum.inl (some (.int v3.1)) from q1)
  refine tq_istore (M := mL_law b n xs) (pc := 3348) dL_law_3348 (L2 := [(5, .int v3.1), (0, .retAddr b), (1, .ref i1), (2, .ref i2), (3, .ref i3), (4, .int y4)]) (Nat.le_of_ble_eq_true rfl) rfl ?_
  refine tq_aload_n (M := mL_law b n xs) (pc := 3350) dL_law_3350 rfl ?_
  refine tq_xload (M := mL_law b n xs) (pc := 3351) dL_law_3351 rfl ?_
  refine tq_iload (M := mL_law b n xs) (pc := 3352) dL_law_3352 rfl ?_
  refine tq_iconst (M := mL_law b n xs) (pc := 3354) dL_law_3354 tk_ki_1 ?_
  refine tq_iadd (M := mL_law b n xs) (pc := 3355) dL_law_3355 ?_
  obtain ⟨x4, ex4, hf⟩ := tq_be hf
  refine tq_xld (M := mL_law b n xs) (pc := 3356) dL_law_3356 (n := n) (xs := xs) rfl ex4 ?_
  refine tq_xload (M := mL_law b n xs) (pc := 3357) dL_law_3357 rfl ?_
  refine tq_iload (M := mL_law b n xs) (pc := 3358) dL_law_3358 rfl ?_
  refine tq_iconst (M := mL_law b n xs) (pc := 3360) dL_law_3360 tk_ki_2 ?_
  refine tq_iadd (M := mL_law b n xs) (pc := 3361) dL_law_3361 ?_
  obtain ⟨x5, ex5, hf⟩ := tq_be hf
  refine tq_xld (M := mL_law b n xs) (pc := 3362) dL_law_3362 (n := n) (xs := xs) rfl ex5 ?_
  obtain ⟨⟨⟩, eu7, hf⟩ := tq_be hf
  obtain ⟨fsu7, eu7⟩ := tq_is_s eu7
  obtain ⟨v6, ev6, hf⟩ := tq_be hf
  refine tq_calV (M := mL_law b n xs) (pc := 3363) (S := []) tk_y_X11_distance tk_v_X11_distance tk_RL_348 dL_law_3363 [.int x4, .int x5] rfl (S0 := _) rfl eu7 rfl (Nat.le_of_ble_eq_true rfl) (d1 := d - 1) (b1 := 0) (s1 := 0) (bc' := (0 + bc)) (bs' := (0 + bs)) (Q1 := fun r h9 => r = .inl (some (.int v6.1)) ∧ v6.2 = h9) (by omega) (by omega) (by omega) (w_X11_distance (by omega) ev6 (fun _ _ q => q)) (fun E h9 q => nomatch (show (Sum.inr E : tq_R) = Sum.inl _ from q.1)) (fun r9 h9 q => ?_)
  obtain ⟨q1, rfl⟩ := q
  cases (show (Sum.inl r9 : tq_R) = Sum.inl (some (.int v6.1)) from q1)
  refine tq_istore (M := mL_law b n xs) (pc := 3366) dL_law_3366 (L2 := [(6, .int v6.1), (5, .int v3.1), (0, .retAddr b), (1, .ref i1), (2, .ref i2), (3, .ref i3), (4, .int y4)]) (Nat.le_of_ble_eq_true rfl) rfl ?_
  refine tq_aload_n (M := mL_law b n xs) (pc := 3368) dL_law_3368 rfl ?_
  obtain ⟨⟨⟩, eu9, hf⟩ := tq_be hf
  obtain ⟨fsu9, eu9⟩ := tq_is_s eu9
  obtain ⟨v8, ev8, hf⟩ := tq_be hf
  refine tq_calV (M := mL_law b n xs) (pc := 3369) (S := []) tk_y_X11_thrown tk_v_X11_thrown tk_RL_177 dL_law_3369 [] rfl (S0 := _) rfl eu9 rfl (Nat.le_of_ble_eq_true rfl) (d1 := d - 1) (b1 := 0) (s1 := 0) (bc' := (0 + bc)) (bs' := (0 + bs)) (Q1 := fun r h9 => r = .inl (some (.int v8)) ∧ v6.2 = h9) (by omega) (by omega) (by omega) (w_X11_thrown (by omega) ev8 (fun _ _ q => q)) (fun E h9 q => nomatch (show (Sum.inr E : tq_R) = Sum.inl _ from q.1)) (fun r9 h9 q => ?_)
  obtain ⟨q1, rfl⟩ := q
  cases (show (Sum.inl r9 : tq_R) = Sum.inl (some (.int v8)) from q1)
  refine tq_iload (M := mL_law b n xs) (pc := 3372) dL_law_3372 rfl ?_
  refine tq_icmp_eq (M := mL_law b n xs) (pc := 3374) (tgt := 3379) dL_law_3374 (by decide) (fun cc => ?_) (fun cc => ?_)
  · have hf := tq_ifp hf cc
    refine tq_iload (M := mL_law b n xs) (pc := 3379) dL_law_3379 rfl ?_
    refine tq_if_ne (M := mL_law b n xs) (pc := 3381) (tgt := 3396) dL_law_3381 (by decide) (fun cc => ?_) (fun cc => ?_)
    · have hf := tq_ifn hf cc
      refine tq_goto (M := mL_law b n xs) (pc := 3396) (tgt := 3605) dL_law_3396 (by decide) ?_
      obtain ⟨x10, ex10, hf⟩ := tq_le hf
      refine tq_iinc (M := mL_law b n xs) (pc := 3605) (v := x10) (L2 := [(4, .int x10), (6, .int v6.1), (5, .int v3.1), (0, .retAddr b), (1, .ref i1), (2, .ref i2), (3, .ref i3)]) dL_law_3605 rfl (by rw [ex10, tk_ki_5]) (Nat.le_of_ble_eq_true rfl) rfl ?_
      refine tq_goto (M := mL_law b n xs) (pc := 3608) (tgt := 23) dL_law_3608 (by decide) ?_
      refine tq_pick (L2 := [(0, .retAddr b), (1, .ref i1), (2, .ref i2), (3, .ref i3), (4, .int x10)]) [3, 4, 5, 6, 0] rfl ?_
      cases (Option.some.inj hf)
      exact tq_more (by omega) (by omega) (hc _ rfl)
    · have hf := tq_ifp hf cc
      refine tq_aload_n (M := mL_law b n xs) (pc := 3384) dL_law_3384 rfl ?_
      refine tq_iconst (M := mL_law b n xs) (pc := 3385) dL_law_3385 tk_ki_0 ?_
      obtain ⟨x11, ex11, hf⟩ := tq_be hf
      refine tq_laldF (M := mL_law b n xs) (pc := 3386) dL_law_3386 ex11 ?_
      refine tq_iload (M := mL_law b n xs) (pc := 3387) dL_law_3387 rfl ?_
      refine tq_i2l (M := mL_law b n xs) (pc := 3389) dL_law_3389 ?_
      refine tq_lcmp (M := mL_law b n xs) (pc := 3390) dL_law_3390 ?_
      refine tq_if_eq (M := mL_law b n xs) (pc := 3391) (tgt := 3396) dL_law_3391 (by decide) (fun cc => ?_) (fun cc => ?_)
      · have hf := tq_ifp hf cc
        refine tq_goto (M := mL_law b n xs) (pc := 3396) (tgt := 3605) dL_law_3396 (by decide) ?_
        obtain ⟨x12, ex12, hf⟩ := tq_le hf
        refine tq_iinc (M := mL_law b n xs) (pc := 3605) (v := x12) (L2 := [(4, .int x12), (6, .int v6.1), (5, .int v3.1), (0, .retAddr b), (1, .ref i1), (2, .ref i2), (3, .ref i3)]) dL_law_3605 rfl (by rw [ex12, tk_ki_5]) (Nat.le_of_ble_eq_true rfl) rfl ?_
        refine tq_goto (M := mL_law b n xs) (pc := 3608) (tgt := 23) dL_law_3608 (by decide) ?_
        refine tq_pick (L2 := [(0, .retAddr b), (1, .ref i1), (2, .ref i2), (3, .ref i3), (4, .int x12)]) [3, 4, 5, 6, 0] rfl ?_
        cases (Option.some.inj hf)
        exact tq_more (by omega) (by omega) (hc _ rfl)
      · have hf := tq_ifn hf cc
        refine tq_iconst (M := mL_law b n xs) (pc := 3394) dL_law_3394 tk_ki_0 ?_
        refine tq_zret (M := mL_law b n xs) (pc := 3395) dL_law_3395 rfl (Or.inl rfl) ?_
        cases (Option.some.inj hf)
        exact hx _ rfl
  · have hf := tq_ifn hf cc
    refine tq_iconst (M := mL_law b n xs) (pc := 3377) dL_law_3377 tk_ki_0 ?_
    refine tq_zret (M := mL_law b n xs) (pc := 3378) dL_law_3378 rfl (Or.inl rfl) ?_
    cases (Option.some.inj hf)
    exact hx _ rfl
def f_L_law_c3399 (n : Nat) (xs : Nat → Int32) (i1 i2 i3 : Nat) (y4 : Int32) (hh : tq_H) : Option ((Int32 × tq_H) ⊕ (Int32 × tq_H)) :=
  (tq_sx n xs (y4 + (1 : Int32))).bind fun x1 =>
  (tq_sx n xs (y4 + (2 : Int32))).bind fun x2 =>
  (tq_sx n xs (y4 + (3 : Int32))).bind fun x3 =>
  (f_L_odds i1 x1 x2 x3 i3 hh).bind fun v4 =>
  (tq_sx n xs (y4 + (1 : Int32))).bind fun x5 =>
  (tq_sx n xs (y4 + (2 : Int32))).bind fun x6 =>
  (tq_sx n xs (y4 + (3 : Int32))).bind fun x7 =>
  (tq_is v4.2 i2 11).bind fun _ =>
  (f_X11_odds i2 x5 x6 x7 v4.2).bind fun v8 =>
  (tq_is v8.2 i2 11).bind fun _ =>
  (f_X11_thrown i2 v8.2).bind fun v10 =>
  if v10 = v4.1 then
    if v4.1 = 0 then
      (tq_aj v8.2 i3 (0 : Int32)).bind fun x13 =>
      if (lg_cmp x13 (v8.1).toInt64) = 0 then
        tq_let (y4 + (5 : Int32)) fun x14 =>
        some (.inl (x14, v8.2))
      else
        some (.inr ((0 : Int32), v8.2))
    else
      tq_let (y4 + (5 : Int32)) fun x12 =>
      some (.inl (x12, v8.2))
  else
    some (.inr ((0 : Int32), v8.2))
set_option maxHeartbeats 4000000 in
set_option maxRecDepth 20000 in
theorem c_L_law_3399 {l : Launch} {d : Nat} (hd9 : 10 ≤ d) {b n : Nat} {xs : Nat → Int32} {i1 i2 i3 : Nat} {y4 : Int32} {hh : tq_H} {Q : tq_R → tq_H → Prop} {bc bs : Nat} {oo : (Int32 × tq_H) ⊕ (Int32 × tq_H)} (hf : f_L_law_c3399 n xs i1 i2 i3 y4 hh = some oo) (hc : ∀ s9, oo = .inl s9 → tq_W l (mL_law b n xs) d bc bs Q 23 [(0, .retAddr b), (1, .ref i1), (2, .ref i2), (3, .ref i3), (4, .int s9.1)] [] s9.2) (hx : ∀ e9, oo = .inr e9 → Q (.inl (some (.int e9.1))) e9.2) : tq_W l (mL_law b n xs) d (3 + bc) (18 + bs) Q 3399 [(0, .retAddr b), (1, .ref i1), (2, .ref i2), (3, .ref i3), (4, .int y4)] [] hh := by
  refine tq_aload_n (M := mL_law b n xs) (pc := 3399) dL_law_3399 rfl ?_
  refine tq_xload (M := mL_law b n xs) (pc := 3400) dL_law_3400 rfl ?_
  refine tq_iload (M := mL_law b n xs) (pc := 3401) dL_law_3401 rfl ?_
  refine tq_iconst (M := mL_law b n xs) (pc := 3403) dL_law_3403 tk_ki_1 ?_
  refine tq_iadd (M := mL_law b n xs) (pc := 3404) dL_law_3404 ?_
  obtain ⟨x1, ex1, hf⟩ := tq_be hf
  refine tq_xld (M := mL_law b n xs) (pc := 3405) dL_law_3405 (n := n) (xs := xs) rfl ex1 ?_
  refine tq_xload (M := mL_law b n xs) (pc := 3406) dL_law_3406 rfl ?_
  refine tq_iload (M := mL_law b n xs) (pc := 3407) dL_law_3407 rfl ?_
  refine tq_iconst (M := mL_law b n xs) (pc := 3409) dL_law_3409 tk_ki_2 ?_
  refine tq_iadd (M := mL_law b n xs) (pc := 3410) dL_law_3410 ?_
  obtain ⟨x2, ex2, hf⟩ := tq_be hf
  refine tq_xld (M := mL_law b n xs) (pc := 3411) dL_law_3411 (n := n) (xs := xs) rfl ex2 ?_
  refine tq_xload (M := mL_law b n xs) (pc := 3412) dL_law_3412 rfl ?_
  refine tq_iload (M := mL_law b n xs) (pc := 3413) dL_law_3413 rfl ?_
  refine tq_iconst (M := mL_law b n xs) (pc := 3415) dL_law_3415 tk_ki_3 ?_
  refine tq_iadd (M := mL_law b n xs) (pc := 3416) dL_law_3416 ?_
  obtain ⟨x3, ex3, hf⟩ := tq_be hf
  refine tq_xld (M := mL_law b n xs) (pc := 3417) dL_law_3417 (n := n) (xs := xs) rfl ex3 ?_
  refine tq_aload_n (M := mL_law b n xs) (pc := 3418) dL_law_3418 rfl ?_
  obtain ⟨v4, ev4, hf⟩ := tq_be hf
  refine tq_calSW (M := mL_law b n xs) (pc := 3419) (S := []) tk_w_L_odds.1 tk_w_L_odds.2.1 tk_w_L_odds.2.2.1 tk_w_L_odds.2.2.2.1 tk_w_L_odds.2.2.2.2 tk_s_L_odds tk_RL_349 dL_law_3419 [.ref i1, .int x1, .int x2, .int x3, .ref i3] rfl (Nat.le_of_ble_eq_true rfl) (d1 := d - 1) (b1 := 3) (s1 := 18) (bc' := (0 + bc)) (bs' := (0 + bs)) (Q1 := fun r h9 => r = .inl (some (.int v4.1)) ∧ v4.2 = h9) (by omega) (by omega) (by omega) (w_L_odds (by omega) ev4 (fun _ _ q => q)) (fun E h9 q => nomatch (show (Sum.inr E : tq_R) = Sum.inl _ from q.1)) (fun r9 h9 q => ?_)
  obtain ⟨q1, rfl⟩ := q
  cases (show (Sum.inl r9 : tq_R) = Sum.inl (some (.int v4.1)) from q1)
  refine tq_istore (M := mL_law b n xs) (pc := 3422) dL_law_3422 (L2 := [(5, .int v4.1), (0, .retAddr b), (1, .ref i1), (2, .ref i2), (3, .ref i3), (4, .int y4)]) (Nat.le_of_ble_eq_true rfl) rfl ?_
  refine tq_aload_n (M := mL_law b n xs) (pc := 3424) dL_law_3424 rfl ?_
  refine tq_xload (M := mL_law b n xs) (pc := 3425) dL_law_3425 rfl ?_
  refine tq_iload (M := mL_law b n xs) (pc := 3426) dL_law_3426 rfl ?_
  refine tq_iconst (M := mL_law b n xs) (pc := 3428) dL_law_3428 tk_ki_1 ?_
  refine tq_iadd (M := mL_law b n xs) (pc := 3429) dL_law_3429 ?_
  obtain ⟨x5, ex5, hf⟩ := tq_be hf
  refine tq_xld (M := mL_law b n xs) (pc := 3430) dL_law_3430 (n := n) (xs := xs) rfl ex5 ?_
  refine tq_xload (M := mL_law b n xs) (pc := 3431) dL_law_3431 rfl ?_
  refine tq_iload (M := mL_law b n xs) (pc := 3432) dL_law_3432 rfl ?_
  refine tq_iconst (M := mL_law b n xs) (pc := 3434) dL_law_3434 tk_ki_2 ?_
  refine tq_iadd (M := mL_law b n xs) (pc := 3435) dL_law_3435 ?_
  obtain ⟨x6, ex6, hf⟩ := tq_be hf
  refine tq_xld (M := mL_law b n xs) (pc := 3436) dL_law_3436 (n := n) (xs := xs) rfl ex6 ?_
  refine tq_xload (M := mL_law b n xs) (pc := 3437) dL_law_3437 rfl ?_
  refine tq_iload (M := mL_law b n xs) (pc := 3438) dL_law_3438 rfl ?_
  refine tq_iconst (M := mL_law b n xs) (pc := 3440) dL_law_3440 tk_ki_3 ?_
  refine tq_iadd (M := mL_law b n xs) (pc := 3441) dL_law_3441 ?_
  obtain ⟨x7, ex7, hf⟩ := tq_be hf
  refine tq_xld (M := mL_law b n xs) (pc := 3442) dL_law_3442 (n := n) (xs := xs) rfl ex7 ?_
  obtain ⟨⟨⟩, eu9, hf⟩ := tq_be hf
  obtain ⟨fsu9, eu9⟩ := tq_is_s eu9
  obtain ⟨v8, ev8, hf⟩ := tq_be hf
  refine tq_calV (M := mL_law b n xs) (pc := 3443) (S := []) tk_y_X11_odds tk_v_X11_odds tk_RL_351 dL_law_3443 [.int x5, .int x6, .int x7] rfl (S0 := _) rfl eu9 rfl (Nat.le_of_ble_eq_true rfl) (d1 := d - 1) (b1 := 0) (s1 := 0) (bc' := (0 + bc)) (bs' := (0 + bs)) (Q1 := fun r h9 => r = .inl (some (.int v8.1)) ∧ v8.2 = h9) (by omega) (by omega) (by omega) (w_X11_odds (by omega) ev8 (fun _ _ q => q)) (fun E h9 q => nomatch (show (Sum.inr E : tq_R) = Sum.inl _ from q.1)) (fun r9 h9 q => ?_)
  obtain ⟨q1, rfl⟩ := q
  cases (show (Sum.inl r9 : tq_R) = Sum.inl (some (.int v8.1)) from q1)
  refine tq_istore (M := mL_law b n xs) (pc := 3446) dL_law_3446 (L2 := [(6, .int v8.1), (5, .int v4.1), (0, .retAddr b), (1, .ref i1), (2, .ref i2), (3, .ref i3), (4, .int y4)]) (Nat.le_of_ble_eq_true rfl) rfl ?_
  refine tq_aload_n (M := mL_law b n xs) (pc := 3448) dL_law_3448 rfl ?_
  obtain ⟨⟨⟩, eu11, hf⟩ := tq_be hf
  obtain ⟨fsu11, eu11⟩ := tq_is_s eu11
  obtain ⟨v10, ev10, hf⟩ := tq_be hf
  refine tq_calV (M := mL_law b n xs) (pc := 3449) (S := []) tk_y_X11_thrown tk_v_X11_thrown tk_RL_177 dL_law_3449 [] rfl (S0 := _) rfl eu11 rfl (Nat.le_of_ble_eq_true rfl) (d1 := d - 1) (b1 := 0) (s1 := 0) (bc' := (0 + bc)) (bs' := (0 + bs)) (Q1 := fun r h9 => r = .inl (some (.int v10)) ∧ v8.2 = h9) (by omega) (by omega) (by omega) (w_X11_thrown (by omega) ev10 (fun _ _ q => q)) (fun E h9 q => nomatch (show (Sum.inr E : tq_R) = Sum.inl _ from q.1)) (fun r9 h9 q => ?_)
  obtain ⟨q1, rfl⟩ := q
  cases (show (Sum.inl r9 : tq_R) = Sum.inl (some (.int v10)) from q1)
  refine tq_iload (M := mL_law b n xs) (pc := 3452) dL_law_3452 rfl ?_
  refine tq_icmp_eq (M := mL_law b n xs) (pc := 3454) (tgt := 3459) dL_law_3454 (by decide) (fun cc => ?_) (fun cc => ?_)
  · have hf := tq_ifp hf cc
    refine tq_iload (M := mL_law b n xs) (pc := 3459) dL_law_3459 rfl ?_
    refine tq_if_ne (M := mL_law b n xs) (pc := 3461) (tgt := 3476) dL_law_3461 (by decide) (fun cc => ?_) (fun cc => ?_)
    · have hf := tq_ifn hf cc
      refine tq_goto (M := mL_law b n xs) (pc := 3476) (tgt := 3605) dL_law_3476 (by decide) ?_
      obtain ⟨x12, ex12, hf⟩ := tq_le hf
      refine tq_iinc (M := mL_law b n xs) (pc := 3605) (v := x12) (L2 := [(4, .int x12), (6, .int v8.1), (5, .int v4.1), (0, .retAddr b), (1, .ref i1), (2, .ref i2), (3, .ref i3)]) dL_law_3605 rfl (by rw [ex12, tk_ki_5]) (Nat.le_of_ble_eq_true rfl) rfl ?_
      refine tq_goto (M := mL_law b n xs) (pc := 3608) (tgt := 23) dL_law_3608 (by decide) ?_
      refine tq_pick (L2 := [(0, .retAddr b), (1, .ref i1), (2, .ref i2), (3, .ref i3), (4, .int x12)]) [3, 4, 5, 6, 0] rfl ?_
      cases (Option.some.inj hf)
      exact tq_more (by omega) (by omega) (hc _ rfl)
    · have hf := tq_ifp hf cc
      refine tq_aload_n (M := mL_law b n xs) (pc := 3464) dL_law_3464 rfl ?_
      refine tq_iconst (M := mL_law b n xs) (pc := 3465) dL_law_3465 tk_ki_0 ?_
      obtain ⟨x13, ex13, hf⟩ := tq_be hf
      refine tq_laldF (M := mL_law b n xs) (pc := 3466) dL_law_3466 ex13 ?_
      refine tq_iload (M := mL_law b n xs) (pc := 3467) dL_law_3467 rfl ?_
      refine tq_i2l (M := mL_law b n xs) (pc := 3469) dL_law_3469 ?_
      refine tq_lcmp (M := mL_law b n xs) (pc := 3470) dL_law_3470 ?_
      refine tq_if_eq (M := mL_law b n xs) (pc := 3471) (tgt := 3476) dL_law_3471 (by decide) (fun cc => ?_) (fun cc => ?_)
      · have hf := tq_ifp hf cc
        refine tq_goto (M := mL_law b n xs) (pc := 3476) (tgt := 3605) dL_law_3476 (by decide) ?_
        obtain ⟨x14, ex14, hf⟩ := tq_le hf
        refine tq_iinc (M := mL_law b n xs) (pc := 3605) (v := x14) (L2 := [(4, .int x14), (6, .int v8.1), (5, .int v4.1), (0, .retAddr b), (1, .ref i1), (2, .ref i2), (3, .ref i3)]) dL_law_3605 rfl (by rw [ex14, tk_ki_5]) (Nat.le_of_ble_eq_true rfl) rfl ?_
        refine tq_goto (M := mL_law b n xs) (pc := 3608) (tgt := 23) dL_law_3608 (by decide) ?_
        refine tq_pick (L2 := [(0, .retAddr b), (1, .ref i1), (2, .ref i2), (3, .ref i3), (4, .int x14)]) [3, 4, 5, 6, 0] rfl ?_
        cases (Option.some.inj hf)
        exact tq_more (by omega) (by omega) (hc _ rfl)
      · have hf := tq_ifn hf cc
        refine tq_iconst (M := mL_law b n xs) (pc := 3474) dL_law_3474 tk_ki_0 ?_
        refine tq_zret (M := mL_law b n xs) (pc := 3475) dL_law_3475 rfl (Or.inl rfl) ?_
        cases (Option.some.inj hf)
        exact hx _ rfl
  · have hf := tq_ifn hf cc
    refine tq_iconst (M := mL_law b n xs) (pc := 3457) dL_law_3457 tk_ki_0 ?_
    refine tq_zret (M := mL_law b n xs) (pc := 3458) dL_law_3458 rfl (Or.inl rfl) ?_
    cases (Option.some.inj hf)
    exact hx _ rfl
def f_L_law_c3479 (n : Nat) (xs : Nat → Int32) (i1 i2 i3 : Nat) (y4 : Int32) (hh : tq_H) : Option ((Int32 × tq_H) ⊕ (Int32 × tq_H)) :=
  (tq_sx n xs (y4 + (1 : Int32))).bind fun x1 =>
  (f_L_hide i1 x1 i3 hh).bind fun v2 =>
  (tq_sx n xs (y4 + (1 : Int32))).bind fun x3 =>
  (tq_is v2.2 i2 11).bind fun _ =>
  (f_X11_hide i2 x3 v2.2).bind fun v4 =>
  (tq_is v4.2 i2 11).bind fun _ =>
  (f_X11_thrown i2 v4.2).bind fun v6 =>
  if v6 = v2.1 then
    if v2.1 = 0 then
      (tq_aj v4.2 i3 (0 : Int32)).bind fun x9 =>
      tq_let (if v4.1 = 0 then (0 : Int64) else (1 : Int64)) fun p10 =>
      if (lg_cmp x9 p10) = 0 then
        tq_let (y4 + (5 : Int32)) fun x11 =>
        some (.inl (x11, v4.2))
      else
        some (.inr ((0 : Int32), v4.2))
    else
      tq_let (y4 + (5 : Int32)) fun x8 =>
      some (.inl (x8, v4.2))
  else
    some (.inr ((0 : Int32), v4.2))
set_option maxHeartbeats 4000000 in
set_option maxRecDepth 20000 in
theorem c_L_law_3479 {l : Launch} {d : Nat} (hd9 : 10 ≤ d) {b n : Nat} {xs : Nat → Int32} {i1 i2 i3 : Nat} {y4 : Int32} {hh : tq_H} {Q : tq_R → tq_H → Prop} {bc bs : Nat} {oo : (Int32 × tq_H) ⊕ (Int32 × tq_H)} (hf : f_L_law_c3479 n xs i1 i2 i3 y4 hh = some oo) (hc : ∀ s9, oo = .inl s9 → tq_W l (mL_law b n xs) d bc bs Q 23 [(0, .retAddr b), (1, .ref i1), (2, .ref i2), (3, .ref i3), (4, .int s9.1)] [] s9.2) (hx : ∀ e9, oo = .inr e9 → Q (.inl (some (.int e9.1))) e9.2) : tq_W l (mL_law b n xs) d (2 + bc) (12 + bs) Q 3479 [(0, .retAddr b), (1, .ref i1), (2, .ref i2), (3, .ref i3), (4, .int y4)] [] hh := by
  refine tq_aload_n (M := mL_law b n xs) (pc := 3479) dL_law_3479 rfl ?_
  refine tq_xload (M := mL_law b n xs) (pc := 3480) dL_law_3480 rfl ?_
  refine tq_iload (M := mL_law b n xs) (pc := 3481) dL_law_3481 rfl ?_
  refine tq_iconst (M := mL_law b n xs) (pc := 3483) dL_law_3483 tk_ki_1 ?_
  refine tq_iadd (M := mL_law b n xs) (pc := 3484) dL_law_3484 ?_
  obtain ⟨x1, ex1, hf⟩ := tq_be hf
  refine tq_xld (M := mL_law b n xs) (pc := 3485) dL_law_3485 (n := n) (xs := xs) rfl ex1 ?_
  refine tq_aload_n (M := mL_law b n xs) (pc := 3486) dL_law_3486 rfl ?_
  obtain ⟨v2, ev2, hf⟩ := tq_be hf
  refine tq_calSW (M := mL_law b n xs) (pc := 3487) (S := []) tk_w_L_hide.1 tk_w_L_hide.2.1 tk_w_L_hide.2.2.1 tk_w_L_hide.2.2.2.1 tk_w_L_hide.2.2.2.2 tk_s_L_hide tk_RL_352 dL_law_3487 [.ref i1, .int x1, .ref i3] rfl (Nat.le_of_ble_eq_true rfl) (d1 := d - 1) (b1 := 2) (s1 := 12) (bc' := (0 + bc)) (bs' := (0 + bs)) (Q1 := fun r h9 => r = .inl (some (.int v2.1)) ∧ v2.2 = h9) (by omega) (by omega) (by omega) (w_L_hide (by omega) ev2 (fun _ _ q => q)) (fun E h9 q => nomatch (show (Sum.inr E : tq_R) = Sum.inl _ from q.1)) (fun r9 h9 q => ?_)
  obtain ⟨q1, rfl⟩ := q
  cases (show (Sum.inl r9 : tq_R) = Sum.inl (some (.int v2.1)) from q1)
  refine tq_istore (M := mL_law b n xs) (pc := 3490) dL_law_3490 (L2 := [(5, .int v2.1), (0, .retAddr b), (1, .ref i1), (2, .ref i2), (3, .ref i3), (4, .int y4)]) (Nat.le_of_ble_eq_true rfl) rfl ?_
  refine tq_aload_n (M := mL_law b n xs) (pc := 3492) dL_law_3492 rfl ?_
  refine tq_xload (M := mL_law b n xs) (pc := 3493) dL_law_3493 rfl ?_
  refine tq_iload (M := mL_law b n xs) (pc := 3494) dL_law_3494 rfl ?_
  refine tq_iconst (M := mL_law b n xs) (pc := 3496) dL_law_3496 tk_ki_1 ?_
  refine tq_iadd (M := mL_law b n xs) (pc := 3497) dL_law_3497 ?_
  obtain ⟨x3, ex3, hf⟩ := tq_be hf
  refine tq_xld (M := mL_law b n xs) (pc := 3498) dL_law_3498 (n := n) (xs := xs) rfl ex3 ?_
  obtain ⟨⟨⟩, eu5, hf⟩ := tq_be hf
  obtain ⟨fsu5, eu5⟩ := tq_is_s eu5
  obtain ⟨v4, ev4, hf⟩ := tq_be hf
  refine tq_calV (M := mL_law b n xs) (pc := 3499) (S := []) tk_y_X11_hide tk_v_X11_hide tk_RL_354 dL_law_3499 [.int x3] rfl (S0 := _) rfl eu5 rfl (Nat.le_of_ble_eq_true rfl) (d1 := d - 1) (b1 := 0) (s1 := 0) (bc' := (0 + bc)) (bs' := (0 + bs)) (Q1 := fun r h9 => r = .inl (some (.int v4.1)) ∧ v4.2 = h9) (by omega) (by omega) (by omega) (w_X11_hide (by omega) ev4 (fun _ _ q => q)) (fun E h9 q => nomatch (show (Sum.inr E : tq_R) = Sum.inl _ from q.1)) (fun r9 h9 q => ?_)
  obtain ⟨q1, rfl⟩ := q
  cases (show (Sum.inl r9 : tq_R) = Sum.inl (some (.int v4.1)) from q1)
  refine tq_istore (M := mL_law b n xs) (pc := 3502) dL_law_3502 (L2 := [(6, .int v4.1), (5, .int v2.1), (0, .retAddr b), (1, .ref i1), (2, .ref i2), (3, .ref i3), (4, .int y4)]) (Nat.le_of_ble_eq_true rfl) rfl ?_
  refine tq_aload_n (M := mL_law b n xs) (pc := 3504) dL_law_3504 rfl ?_
  obtain ⟨⟨⟩, eu7, hf⟩ := tq_be hf
  obtain ⟨fsu7, eu7⟩ := tq_is_s eu7
  obtain ⟨v6, ev6, hf⟩ := tq_be hf
  refine tq_calV (M := mL_law b n xs) (pc := 3505) (S := []) tk_y_X11_thrown tk_v_X11_thrown tk_RL_177 dL_law_3505 [] rfl (S0 := _) rfl eu7 rfl (Nat.le_of_ble_eq_true rfl) (d1 := d - 1) (b1 := 0) (s1 := 0) (bc' := (0 + bc)) (bs' := (0 + bs)) (Q1 := fun r h9 => r = .inl (some (.int v6)) ∧ v4.2 = h9) (by omega) (by omega) (by omega) (w_X11_thrown (by omega) ev6 (fun _ _ q => q)) (fun E h9 q => nomatch (show (Sum.inr E : tq_R) = Sum.inl _ from q.1)) (fun r9 h9 q => ?_)
  obtain ⟨q1, rfl⟩ := q
  cases (show (Sum.inl r9 : tq_R) = Sum.inl (some (.int v6)) from q1)
  refine tq_iload (M := mL_law b n xs) (pc := 3508) dL_law_3508 rfl ?_
  refine tq_icmp_eq (M := mL_law b n xs) (pc := 3510) (tgt := 3515) dL_law_3510 (by decide) (fun cc => ?_) (fun cc => ?_)
  · have hf := tq_ifp hf cc
    refine tq_iload (M := mL_law b n xs) (pc := 3515) dL_law_3515 rfl ?_
    refine tq_if_ne (M := mL_law b n xs) (pc := 3517) (tgt := 3539) dL_law_3517 (by decide) (fun cc => ?_) (fun cc => ?_)
    · have hf := tq_ifn hf cc
      refine tq_goto (M := mL_law b n xs) (pc := 3539) (tgt := 3605) dL_law_3539 (by decide) ?_
      obtain ⟨x8, ex8, hf⟩ := tq_le hf
      refine tq_iinc (M := mL_law b n xs) (pc := 3605) (v := x8) (L2 := [(4, .int x8), (6, .int v4.1), (5, .int v2.1), (0, .retAddr b), (1, .ref i1), (2, .ref i2), (3, .ref i3)]) dL_law_3605 rfl (by rw [ex8, tk_ki_5]) (Nat.le_of_ble_eq_true rfl) rfl ?_
      refine tq_goto (M := mL_law b n xs) (pc := 3608) (tgt := 23) dL_law_3608 (by decide) ?_
      refine tq_pick (L2 := [(0, .retAddr b), (1, .ref i1), (2, .ref i2), (3, .ref i3), (4, .int x8)]) [3, 4, 5, 6, 0] rfl ?_
      cases (Option.some.inj hf)
      exact tq_more (by omega) (by omega) (hc _ rfl)
    · have hf := tq_ifp hf cc
      refine tq_aload_n (M := mL_law b n xs) (pc := 3520) dL_law_3520 rfl ?_
      refine tq_iconst (M := mL_law b n xs) (pc := 3521) dL_law_3521 tk_ki_0 ?_
      obtain ⟨x9, ex9, hf⟩ := tq_be hf
      refine tq_laldF (M := mL_law b n xs) (pc := 3522) dL_law_3522 ex9 ?_
      refine tq_iload (M := mL_law b n xs) (pc := 3523) dL_law_3523 rfl ?_
      obtain ⟨p10, ep10, hf⟩ := tq_le hf
      have HJ3525 : tq_W l (mL_law b n xs) d (0 + bc) (0 + bs) Q 3533 [(0, .retAddr b), (1, .ref i1), (2, .ref i2), (3, .ref i3), (4, .int y4)] [.long p10, .long x9] v4.2 := by
        refine tq_lcmp (M := mL_law b n xs) (pc := 3533) dL_law_3533 ?_
        refine tq_if_eq (M := mL_law b n xs) (pc := 3534) (tgt := 3539) dL_law_3534 (by decide) (fun cc => ?_) (fun cc => ?_)
        · have hf := tq_ifp hf cc
          refine tq_goto (M := mL_law b n xs) (pc := 3539) (tgt := 3605) dL_law_3539 (by decide) ?_
          obtain ⟨x11, ex11, hf⟩ := tq_le hf
          refine tq_iinc (M := mL_law b n xs) (pc := 3605) (v := x11) (L2 := [(4, .int x11), (0, .retAddr b), (1, .ref i1), (2, .ref i2), (3, .ref i3)]) dL_law_3605 rfl (by rw [ex11, tk_ki_5]) (Nat.le_of_ble_eq_true rfl) rfl ?_
          refine tq_goto (M := mL_law b n xs) (pc := 3608) (tgt := 23) dL_law_3608 (by decide) ?_
          refine tq_pick (L2 := [(0, .retAddr b), (1, .ref i1), (2, .ref i2), (3, .ref i3), (4, .int x11)]) [1, 2, 3, 4, 0] rfl ?_
          cases (Option.some.inj hf)
          exact tq_more (by omega) (by omega) (hc _ rfl)
        · have hf := tq_ifn hf cc
          refine tq_iconst (M := mL_law b n xs) (pc := 3537) dL_law_3537 tk_ki_0 ?_
          refine tq_zret (M := mL_law b n xs) (pc := 3538) dL_law_3538 rfl (Or.inl rfl) ?_
          cases (Option.some.inj hf)
          exact hx _ rfl
      refine tq_if_eq (M := mL_law b n xs) (pc := 3525) (tgt := 3532) dL_law_3525 (by decide) (fun cc => ?_) (fun cc => ?_)
      · have hf := tq_ifp ep10.symm cc
        refine tq_lconst (M := mL_law b n xs) (pc := 3532) dL_law_3532 tk_kl_0 ?_
        refine tq_pick (L2 := [(0, .retAddr b), (1, .ref i1), (2, .ref i2), (3, .ref i3), (4, .int y4)]) [2, 3, 4, 5, 6] rfl ?_
        cases hf
        exact HJ3525
      · have hf := tq_ifn ep10.symm cc
        refine tq_lconst (M := mL_law b n xs) (pc := 3528) dL_law_3528 tk_kl_1 ?_
        refine tq_goto (M := mL_law b n xs) (pc := 3529) (tgt := 3533) dL_law_3529 (by decide) ?_
        refine tq_pick (L2 := [(0, .retAddr b), (1, .ref i1), (2, .ref i2), (3, .ref i3), (4, .int y4)]) [2, 3, 4, 5, 6] rfl ?_
        cases hf
        exact HJ3525
  · have hf := tq_ifn hf cc
    refine tq_iconst (M := mL_law b n xs) (pc := 3513) dL_law_3513 tk_ki_0 ?_
    refine tq_zret (M := mL_law b n xs) (pc := 3514) dL_law_3514 rfl (Or.inl rfl) ?_
    cases (Option.some.inj hf)
    exact hx _ rfl
def f_L_law_c3542 (n : Nat) (xs : Nat → Int32) (i1 i2 i3 : Nat) (y4 : Int32) (hh : tq_H) : Option ((Int32 × tq_H) ⊕ (Int32 × tq_H)) :=
  (tq_sx n xs (y4 + (1 : Int32))).bind fun x1 =>
  (f_L_isSeen i1 x1 i3 hh).bind fun v2 =>
  (tq_sx n xs (y4 + (1 : Int32))).bind fun x3 =>
  (tq_is v2.2 i2 11).bind fun _ =>
  (f_X11_isSeen i2 x3 v2.2).bind fun v4 =>
  (tq_is v4.2 i2 11).bind fun _ =>
  (f_X11_thrown i2 v4.2).bind fun v6 =>
  if v6 = v2.1 then
    if v2.1 = 0 then
      (tq_aj v4.2 i3 (0 : Int32)).bind fun x9 =>
      tq_let (if v4.1 = 0 then (0 : Int64) else (1 : Int64)) fun p10 =>
      if (lg_cmp x9 p10) = 0 then
        tq_let (y4 + (5 : Int32)) fun x11 =>
        some (.inl (x11, v4.2))
      else
        some (.inr ((0 : Int32), v4.2))
    else
      tq_let (y4 + (5 : Int32)) fun x8 =>
      some (.inl (x8, v4.2))
  else
    some (.inr ((0 : Int32), v4.2))
set_option maxHeartbeats 4000000 in
set_option maxRecDepth 20000 in
theorem c_L_law_3542 {l : Launch} {d : Nat} (hd9 : 10 ≤ d) {b n : Nat} {xs : Nat → Int32} {i1 i2 i3 : Nat} {y4 : Int32} {hh : tq_H} {Q : tq_R → tq_H → Prop} {bc bs : Nat} {oo : (Int32 × tq_H) ⊕ (Int32 × tq_H)} (hf : f_L_law_c3542 n xs i1 i2 i3 y4 hh = some oo) (hc : ∀ s9, oo = .inl s9 → tq_W l (mL_law b n xs) d bc bs Q 23 [(0, .retAddr b), (1, .ref i1), (2, .ref i2), (3, .ref i3), (4, .int s9.1)] [] s9.2) (hx : ∀ e9, oo = .inr e9 → Q (.inl (some (.int e9.1))) e9.2) : tq_W l (mL_law b n xs) d (1 + bc) (6 + bs) Q 3542 [(0, .retAddr b), (1, .ref i1), (2, .ref i2), (3, .ref i3), (4, .int y4)] [] hh := by
  refine tq_aload_n (M := mL_law b n xs) (pc := 3542) dL_law_3542 rfl ?_
  refine tq_xload (M := mL_law b n xs) (pc := 3543) dL_law_3543 rfl ?_
  refine tq_iload (M := mL_law b n xs) (pc := 3544) dL_law_3544 rfl ?_
  refine tq_iconst (M := mL_law b n xs) (pc := 3546) dL_law_3546 tk_ki_1 ?_
  refine tq_iadd (M := mL_law b n xs) (pc := 3547) dL_law_3547 ?_
  obtain ⟨x1, ex1, hf⟩ := tq_be hf
  refine tq_xld (M := mL_law b n xs) (pc := 3548) dL_law_3548 (n := n) (xs := xs) rfl ex1 ?_
  refine tq_aload_n (M := mL_law b n xs) (pc := 3549) dL_law_3549 rfl ?_
  obtain ⟨v2, ev2, hf⟩ := tq_be hf
  refine tq_calSW (M := mL_law b n xs) (pc := 3550) (S := []) tk_w_L_isSeen.1 tk_w_L_isSeen.2.1 tk_w_L_isSeen.2.2.1 tk_w_L_isSeen.2.2.2.1 tk_w_L_isSeen.2.2.2.2 tk_s_L_isSeen tk_RL_355 dL_law_3550 [.ref i1, .int x1, .ref i3] rfl (Nat.le_of_ble_eq_true rfl) (d1 := d - 1) (b1 := 1) (s1 := 6) (bc' := (0 + bc)) (bs' := (0 + bs)) (Q1 := fun r h9 => r = .inl (some (.int v2.1)) ∧ v2.2 = h9) (by omega) (by omega) (by omega) (w_L_isSeen (by omega) ev2 (fun _ _ q => q)) (fun E h9 q => nomatch (show (Sum.inr E : tq_R) = Sum.inl _ from q.1)) (fun r9 h9 q => ?_)
  obtain ⟨q1, rfl⟩ := q
  cases (show (Sum.inl r9 : tq_R) = Sum.inl (some (.int v2.1)) from q1)
  refine tq_istore (M := mL_law b n xs) (pc := 3553) dL_law_3553 (L2 := [(5, .int v2.1), (0, .retAddr b), (1, .ref i1), (2, .ref i2), (3, .ref i3), (4, .int y4)]) (Nat.le_of_ble_eq_true rfl) rfl ?_
  refine tq_aload_n (M := mL_law b n xs) (pc := 3555) dL_law_3555 rfl ?_
  refine tq_xload (M := mL_law b n xs) (pc := 3556) dL_law_3556 rfl ?_
  refine tq_iload (M := mL_law b n xs) (pc := 3557) dL_law_3557 rfl ?_
  refine tq_iconst (M := mL_law b n xs) (pc := 3559) dL_law_3559 tk_ki_1 ?_
  refine tq_iadd (M := mL_law b n xs) (pc := 3560) dL_law_3560 ?_
  obtain ⟨x3, ex3, hf⟩ := tq_be hf
  refine tq_xld (M := mL_law b n xs) (pc := 3561) dL_law_3561 (n := n) (xs := xs) rfl ex3 ?_
  obtain ⟨⟨⟩, eu5, hf⟩ := tq_be hf
  obtain ⟨fsu5, eu5⟩ := tq_is_s eu5
  obtain ⟨v4, ev4, hf⟩ := tq_be hf
  refine tq_calV (M := mL_law b n xs) (pc := 3562) (S := []) tk_y_X11_isSeen tk_v_X11_isSeen tk_RL_357 dL_law_3562 [.int x3] rfl (S0 := _) rfl eu5 rfl (Nat.le_of_ble_eq_true rfl) (d1 := d - 1) (b1 := 0) (s1 := 0) (bc' := (0 + bc)) (bs' := (0 + bs)) (Q1 := fun r h9 => r = .inl (some (.int v4.1)) ∧ v4.2 = h9) (by omega) (by omega) (by omega) (w_X11_isSeen (by omega) ev4 (fun _ _ q => q)) (fun E h9 q => nomatch (show (Sum.inr E : tq_R) = Sum.inl _ from q.1)) (fun r9 h9 q => ?_)
  obtain ⟨q1, rfl⟩ := q
  cases (show (Sum.inl r9 : tq_R) = Sum.inl (some (.int v4.1)) from q1)
  refine tq_istore (M := mL_law b n xs) (pc := 3565) dL_law_3565 (L2 := [(6, .int v4.1), (5, .int v2.1), (0, .retAddr b), (1, .ref i1), (2, .ref i2), (3, .ref i3), (4, .int y4)]) (Nat.le_of_ble_eq_true rfl) rfl ?_
  refine tq_aload_n (M := mL_law b n xs) (pc := 3567) dL_law_3567 rfl ?_
  obtain ⟨⟨⟩, eu7, hf⟩ := tq_be hf
  obtain ⟨fsu7, eu7⟩ := tq_is_s eu7
  obtain ⟨v6, ev6, hf⟩ := tq_be hf
  refine tq_calV (M := mL_law b n xs) (pc := 3568) (S := []) tk_y_X11_thrown tk_v_X11_thrown tk_RL_177 dL_law_3568 [] rfl (S0 := _) rfl eu7 rfl (Nat.le_of_ble_eq_true rfl) (d1 := d - 1) (b1 := 0) (s1 := 0) (bc' := (0 + bc)) (bs' := (0 + bs)) (Q1 := fun r h9 => r = .inl (some (.int v6)) ∧ v4.2 = h9) (by omega) (by omega) (by omega) (w_X11_thrown (by omega) ev6 (fun _ _ q => q)) (fun E h9 q => nomatch (show (Sum.inr E : tq_R) = Sum.inl _ from q.1)) (fun r9 h9 q => ?_)
  obtain ⟨q1, rfl⟩ := q
  cases (show (Sum.inl r9 : tq_R) = Sum.inl (some (.int v6)) from q1)
  refine tq_iload (M := mL_law b n xs) (pc := 3571) dL_law_3571 rfl ?_
  refine tq_icmp_eq (M := mL_law b n xs) (pc := 3573) (tgt := 3578) dL_law_3573 (by decide) (fun cc => ?_) (fun cc => ?_)
  · have hf := tq_ifp hf cc
    refine tq_iload (M := mL_law b n xs) (pc := 3578) dL_law_3578 rfl ?_
    refine tq_if_ne (M := mL_law b n xs) (pc := 3580) (tgt := 3602) dL_law_3580 (by decide) (fun cc => ?_) (fun cc => ?_)
    · have hf := tq_ifn hf cc
      refine tq_goto (M := mL_law b n xs) (pc := 3602) (tgt := 3605) dL_law_3602 (by decide) ?_
      obtain ⟨x8, ex8, hf⟩ := tq_le hf
      refine tq_iinc (M := mL_law b n xs) (pc := 3605) (v := x8) (L2 := [(4, .int x8), (6, .int v4.1), (5, .int v2.1), (0, .retAddr b), (1, .ref i1), (2, .ref i2), (3, .ref i3)]) dL_law_3605 rfl (by rw [ex8, tk_ki_5]) (Nat.le_of_ble_eq_true rfl) rfl ?_
      refine tq_goto (M := mL_law b n xs) (pc := 3608) (tgt := 23) dL_law_3608 (by decide) ?_
      refine tq_pick (L2 := [(0, .retAddr b), (1, .ref i1), (2, .ref i2), (3, .ref i3), (4, .int x8)]) [3, 4, 5, 6, 0] rfl ?_
      cases (Option.some.inj hf)
      exact tq_more (by omega) (by omega) (hc _ rfl)
    · have hf := tq_ifp hf cc
      refine tq_aload_n (M := mL_law b n xs) (pc := 3583) dL_law_3583 rfl ?_
      refine tq_iconst (M := mL_law b n xs) (pc := 3584) dL_law_3584 tk_ki_0 ?_
      obtain ⟨x9, ex9, hf⟩ := tq_be hf
      refine tq_laldF (M := mL_law b n xs) (pc := 3585) dL_law_3585 ex9 ?_
      refine tq_iload (M := mL_law b n xs) (pc := 3586) dL_law_3586 rfl ?_
      obtain ⟨p10, ep10, hf⟩ := tq_le hf
      have HJ3588 : tq_W l (mL_law b n xs) d (0 + bc) (0 + bs) Q 3596 [(0, .retAddr b), (1, .ref i1), (2, .ref i2), (3, .ref i3), (4, .int y4)] [.long p10, .long x9] v4.2 := by
        refine tq_lcmp (M := mL_law b n xs) (pc := 3596) dL_law_3596 ?_
        refine tq_if_eq (M := mL_law b n xs) (pc := 3597) (tgt := 3602) dL_law_3597 (by decide) (fun cc => ?_) (fun cc => ?_)
        · have hf := tq_ifp hf cc
          refine tq_goto (M := mL_law b n xs) (pc := 3602) (tgt := 3605) dL_law_3602 (by decide) ?_
          obtain ⟨x11, ex11, hf⟩ := tq_le hf
          refine tq_iinc (M := mL_law b n xs) (pc := 3605) (v := x11) (L2 := [(4, .int x11), (0, .retAddr b), (1, .ref i1), (2, .ref i2), (3, .ref i3)]) dL_law_3605 rfl (by rw [ex11, tk_ki_5]) (Nat.le_of_ble_eq_true rfl) rfl ?_
          refine tq_goto (M := mL_law b n xs) (pc := 3608) (tgt := 23) dL_law_3608 (by decide) ?_
          refine tq_pick (L2 := [(0, .retAddr b), (1, .ref i1), (2, .ref i2), (3, .ref i3), (4, .int x11)]) [1, 2, 3, 4, 0] rfl ?_
          cases (Option.some.inj hf)
          exact tq_more (by omega) (by omega) (hc _ rfl)
        · have hf := tq_ifn hf cc
          refine tq_iconst (M := mL_law b n xs) (pc := 3600) dL_law_3600 tk_ki_0 ?_
          refine tq_zret (M := mL_law b n xs) (pc := 3601) dL_law_3601 rfl (Or.inl rfl) ?_
          cases (Option.some.inj hf)
          exact hx _ rfl
      refine tq_if_eq (M := mL_law b n xs) (pc := 3588) (tgt := 3595) dL_law_3588 (by decide) (fun cc => ?_) (fun cc => ?_)
      · have hf := tq_ifp ep10.symm cc
        refine tq_lconst (M := mL_law b n xs) (pc := 3595) dL_law_3595 tk_kl_0 ?_
        refine tq_pick (L2 := [(0, .retAddr b), (1, .ref i1), (2, .ref i2), (3, .ref i3), (4, .int y4)]) [2, 3, 4, 5, 6] rfl ?_
        cases hf
        exact HJ3588
      · have hf := tq_ifn ep10.symm cc
        refine tq_lconst (M := mL_law b n xs) (pc := 3591) dL_law_3591 tk_kl_1 ?_
        refine tq_goto (M := mL_law b n xs) (pc := 3592) (tgt := 3596) dL_law_3592 (by decide) ?_
        refine tq_pick (L2 := [(0, .retAddr b), (1, .ref i1), (2, .ref i2), (3, .ref i3), (4, .int y4)]) [2, 3, 4, 5, 6] rfl ?_
        cases hf
        exact HJ3588
  · have hf := tq_ifn hf cc
    refine tq_iconst (M := mL_law b n xs) (pc := 3576) dL_law_3576 tk_ki_0 ?_
    refine tq_zret (M := mL_law b n xs) (pc := 3577) dL_law_3577 rfl (Or.inl rfl) ?_
    cases (Option.some.inj hf)
    exact hx _ rfl
def f_L_law_c3605 (n : Nat) (xs : Nat → Int32) (i1 i2 i3 : Nat) (y4 : Int32) (hh : tq_H) : Option ((Int32 × tq_H) ⊕ (Int32 × tq_H)) :=
  tq_let (y4 + (5 : Int32)) fun x1 =>
  some (.inl (x1, hh))
set_option maxHeartbeats 4000000 in
set_option maxRecDepth 20000 in
theorem c_L_law_3605 {l : Launch} {d : Nat} (hd9 : 10 ≤ d) {b n : Nat} {xs : Nat → Int32} {i1 i2 i3 : Nat} {y4 : Int32} {hh : tq_H} {Q : tq_R → tq_H → Prop} {bc bs : Nat} {oo : (Int32 × tq_H) ⊕ (Int32 × tq_H)} (hf : f_L_law_c3605 n xs i1 i2 i3 y4 hh = some oo) (hc : ∀ s9, oo = .inl s9 → tq_W l (mL_law b n xs) d bc bs Q 23 [(0, .retAddr b), (1, .ref i1), (2, .ref i2), (3, .ref i3), (4, .int s9.1)] [] s9.2) (hx : ∀ e9, oo = .inr e9 → Q (.inl (some (.int e9.1))) e9.2) : tq_W l (mL_law b n xs) d (0 + bc) (0 + bs) Q 3605 [(0, .retAddr b), (1, .ref i1), (2, .ref i2), (3, .ref i3), (4, .int y4)] [] hh := by
  obtain ⟨x1, ex1, hf⟩ := tq_le hf
  refine tq_iinc (M := mL_law b n xs) (pc := 3605) (v := x1) (L2 := [(4, .int x1), (0, .retAddr b), (1, .ref i1), (2, .ref i2), (3, .ref i3)]) dL_law_3605 rfl (by rw [ex1, tk_ki_5]) (Nat.le_of_ble_eq_true rfl) rfl ?_
  refine tq_goto (M := mL_law b n xs) (pc := 3608) (tgt := 23) dL_law_3608 (by decide) ?_
  refine tq_pick (L2 := [(0, .retAddr b), (1, .ref i1), (2, .ref i2), (3, .ref i3), (4, .int x1)]) [1, 2, 3, 4, 0] rfl ?_
  cases (Option.some.inj hf)
  exact tq_more (by omega) (by omega) (hc _ rfl)
