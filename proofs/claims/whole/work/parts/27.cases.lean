/-! ===== the law, case by case ===== -/
theorem lg_self (x : Int64) : lg_cmp x x = 0 := by simp [lg_cmp]
theorem dL_law_0 : decode cL_law 0 = .ok (.new 8, 3) := by decide +kernel
theorem dL_law_3 : decode cL_law 3 = .ok (.dup, 1) := by decide +kernel
theorem dL_law_4 : decode cL_law 4 = .ok (.invokespecial 137, 3) := by decide +kernel
theorem dL_law_7 : decode cL_law 7 = .ok (.astore_n 1, 1) := by decide +kernel
theorem dL_law_8 : decode cL_law 8 = .ok (.new 138, 3) := by decide +kernel
theorem dL_law_11 : decode cL_law 11 = .ok (.dup, 1) := by decide +kernel
theorem dL_law_12 : decode cL_law 12 = .ok (.invokespecial 140, 3) := by decide +kernel
theorem dL_law_15 : decode cL_law 15 = .ok (.astore_n 2, 1) := by decide +kernel
theorem dL_law_16 : decode cL_law 16 = .ok (.iconst 1, 1) := by decide +kernel
theorem dL_law_17 : decode cL_law 17 = .ok (.newarray .long, 2) := by decide +kernel
theorem dL_law_19 : decode cL_law 19 = .ok (.astore_n 3, 1) := by decide +kernel
theorem dL_law_20 : decode cL_law 20 = .ok (.iconst 0, 1) := by decide +kernel
theorem dL_law_21 : decode cL_law 21 = .ok (.istore 4, 2) := by decide +kernel
theorem dL_law_23 : decode cL_law 23 = .ok (.iload 4, 2) := by decide +kernel
theorem dL_law_25 : decode cL_law 25 = .ok (.aload_n 0, 1) := by decide +kernel
theorem dL_law_26 : decode cL_law 26 = .ok (.arraylength, 1) := by decide +kernel
theorem dL_law_27 : decode cL_law 27 = .ok (.bipush 6, 2) := by decide +kernel
theorem dL_law_29 : decode cL_law 29 = .ok (.isub, 1) := by decide +kernel
theorem dL_law_30 : decode cL_law 30 = .ok (.if_icmp .gt 3124, 3) := by decide +kernel
theorem dL_law_33 : decode cL_law 33 = .ok (.aload_n 0, 1) := by decide +kernel
theorem dL_law_34 : decode cL_law 34 = .ok (.iload 4, 2) := by decide +kernel
theorem dL_law_36 : decode cL_law 36 = .ok (.iaload, 1) := by decide +kernel
theorem dL_law_37 : decode cL_law 37 = .ok (.bipush 63, 2) := by decide +kernel
theorem dL_law_39 : decode cL_law 39 = .ok (.iand, 1) := by decide +kernel
theorem dL_law_40 : decode cL_law 40 = .ok (.tableswitch 3108 0 63 #[272, 345, 358, 371, 384, 397, 410, 423, 436, 449, 505, 561, 617, 685, 753, 766, 822, 878, 946, 1002, 1058, 1071, 1127, 1140, 1196, 1209, 1222, 1278, 1334, 1390, 1446, 1502, 1558, 1626, 1694, 1750, 1806, 1862, 1875, 1888, 1901, 1993, 2061, 2117, 2185, 2198, 2211, 2224, 2237, 2250, 2263, 2304, 2347, 2403, 2483, 2563, 2631, 2735, 2815, 2871, 2915, 2971, 3027, 3083], 272) := by decide +kernel
theorem dL_law_312 : decode cL_law 312 = .ok (.aload_n 1, 1) := by decide +kernel
theorem dL_law_313 : decode cL_law 313 = .ok (.aload_n 0, 1) := by decide +kernel
theorem dL_law_314 : decode cL_law 314 = .ok (.iload 4, 2) := by decide +kernel
theorem dL_law_316 : decode cL_law 316 = .ok (.iconst 1, 1) := by decide +kernel
theorem dL_law_317 : decode cL_law 317 = .ok (.iadd, 1) := by decide +kernel
theorem dL_law_318 : decode cL_law 318 = .ok (.iaload, 1) := by decide +kernel
theorem dL_law_319 : decode cL_law 319 = .ok (.aload_n 0, 1) := by decide +kernel
theorem dL_law_320 : decode cL_law 320 = .ok (.iload 4, 2) := by decide +kernel
theorem dL_law_322 : decode cL_law 322 = .ok (.iconst 2, 1) := by decide +kernel
theorem dL_law_323 : decode cL_law 323 = .ok (.iadd, 1) := by decide +kernel
theorem dL_law_324 : decode cL_law 324 = .ok (.iaload, 1) := by decide +kernel
theorem dL_law_325 : decode cL_law 325 = .ok (.aload_n 0, 1) := by decide +kernel
theorem dL_law_326 : decode cL_law 326 = .ok (.iload 4, 2) := by decide +kernel
theorem dL_law_328 : decode cL_law 328 = .ok (.iconst 3, 1) := by decide +kernel
theorem dL_law_329 : decode cL_law 329 = .ok (.iadd, 1) := by decide +kernel
theorem dL_law_330 : decode cL_law 330 = .ok (.iaload, 1) := by decide +kernel
theorem dL_law_331 : decode cL_law 331 = .ok (.aload_n 0, 1) := by decide +kernel
theorem dL_law_332 : decode cL_law 332 = .ok (.iload 4, 2) := by decide +kernel
theorem dL_law_334 : decode cL_law 334 = .ok (.iconst 4, 1) := by decide +kernel
theorem dL_law_335 : decode cL_law 335 = .ok (.iadd, 1) := by decide +kernel
theorem dL_law_336 : decode cL_law 336 = .ok (.iaload, 1) := by decide +kernel
theorem dL_law_337 : decode cL_law 337 = .ok (.aload_n 0, 1) := by decide +kernel
theorem dL_law_338 : decode cL_law 338 = .ok (.iload 4, 2) := by decide +kernel
theorem dL_law_340 : decode cL_law 340 = .ok (.iconst 5, 1) := by decide +kernel
theorem dL_law_341 : decode cL_law 341 = .ok (.iadd, 1) := by decide +kernel
theorem dL_law_342 : decode cL_law 342 = .ok (.iaload, 1) := by decide +kernel
theorem dL_law_343 : decode cL_law 343 = .ok (.invokevirtual 141, 3) := by decide +kernel
theorem dL_law_346 : decode cL_law 346 = .ok (.aload_n 2, 1) := by decide +kernel
theorem dL_law_347 : decode cL_law 347 = .ok (.aload_n 0, 1) := by decide +kernel
theorem dL_law_348 : decode cL_law 348 = .ok (.iload 4, 2) := by decide +kernel
theorem dL_law_350 : decode cL_law 350 = .ok (.iconst 1, 1) := by decide +kernel
theorem dL_law_351 : decode cL_law 351 = .ok (.iadd, 1) := by decide +kernel
theorem dL_law_352 : decode cL_law 352 = .ok (.iaload, 1) := by decide +kernel
theorem dL_law_353 : decode cL_law 353 = .ok (.aload_n 0, 1) := by decide +kernel
theorem dL_law_354 : decode cL_law 354 = .ok (.iload 4, 2) := by decide +kernel
theorem dL_law_356 : decode cL_law 356 = .ok (.iconst 2, 1) := by decide +kernel
theorem dL_law_357 : decode cL_law 357 = .ok (.iadd, 1) := by decide +kernel
theorem dL_law_358 : decode cL_law 358 = .ok (.iaload, 1) := by decide +kernel
theorem dL_law_359 : decode cL_law 359 = .ok (.aload_n 0, 1) := by decide +kernel
theorem dL_law_360 : decode cL_law 360 = .ok (.iload 4, 2) := by decide +kernel
theorem dL_law_362 : decode cL_law 362 = .ok (.iconst 3, 1) := by decide +kernel
theorem dL_law_363 : decode cL_law 363 = .ok (.iadd, 1) := by decide +kernel
theorem dL_law_364 : decode cL_law 364 = .ok (.iaload, 1) := by decide +kernel
theorem dL_law_365 : decode cL_law 365 = .ok (.aload_n 0, 1) := by decide +kernel
theorem dL_law_366 : decode cL_law 366 = .ok (.iload 4, 2) := by decide +kernel
theorem dL_law_368 : decode cL_law 368 = .ok (.iconst 4, 1) := by decide +kernel
theorem dL_law_369 : decode cL_law 369 = .ok (.iadd, 1) := by decide +kernel
theorem dL_law_370 : decode cL_law 370 = .ok (.iaload, 1) := by decide +kernel
theorem dL_law_371 : decode cL_law 371 = .ok (.aload_n 0, 1) := by decide +kernel
theorem dL_law_372 : decode cL_law 372 = .ok (.iload 4, 2) := by decide +kernel
theorem dL_law_374 : decode cL_law 374 = .ok (.iconst 5, 1) := by decide +kernel
theorem dL_law_375 : decode cL_law 375 = .ok (.iadd, 1) := by decide +kernel
theorem dL_law_376 : decode cL_law 376 = .ok (.iaload, 1) := by decide +kernel
theorem dL_law_377 : decode cL_law 377 = .ok (.invokevirtual 144, 3) := by decide +kernel
theorem dL_law_380 : decode cL_law 380 = .ok (.if_icmp .eq 2768, 3) := by decide +kernel
theorem dL_law_383 : decode cL_law 383 = .ok (.iconst 0, 1) := by decide +kernel
theorem dL_law_384 : decode cL_law 384 = .ok (.ireturn, 1) := by decide +kernel
theorem dL_law_385 : decode cL_law 385 = .ok (.aload_n 1, 1) := by decide +kernel
theorem dL_law_386 : decode cL_law 386 = .ok (.invokevirtual 145, 3) := by decide +kernel
theorem dL_law_389 : decode cL_law 389 = .ok (.aload_n 2, 1) := by decide +kernel
theorem dL_law_390 : decode cL_law 390 = .ok (.invokevirtual 148, 3) := by decide +kernel
theorem dL_law_393 : decode cL_law 393 = .ok (.if_icmp .eq 2755, 3) := by decide +kernel
theorem dL_law_396 : decode cL_law 396 = .ok (.iconst 0, 1) := by decide +kernel
theorem dL_law_397 : decode cL_law 397 = .ok (.ireturn, 1) := by decide +kernel
theorem dL_law_398 : decode cL_law 398 = .ok (.aload_n 1, 1) := by decide +kernel
theorem dL_law_399 : decode cL_law 399 = .ok (.invokevirtual 149, 3) := by decide +kernel
theorem dL_law_402 : decode cL_law 402 = .ok (.aload_n 2, 1) := by decide +kernel
theorem dL_law_403 : decode cL_law 403 = .ok (.invokevirtual 152, 3) := by decide +kernel
theorem dL_law_406 : decode cL_law 406 = .ok (.if_icmp .eq 2742, 3) := by decide +kernel
theorem dL_law_409 : decode cL_law 409 = .ok (.iconst 0, 1) := by decide +kernel
theorem dL_law_410 : decode cL_law 410 = .ok (.ireturn, 1) := by decide +kernel
theorem dL_law_411 : decode cL_law 411 = .ok (.aload_n 1, 1) := by decide +kernel
theorem dL_law_412 : decode cL_law 412 = .ok (.invokevirtual 153, 3) := by decide +kernel
theorem dL_law_415 : decode cL_law 415 = .ok (.aload_n 2, 1) := by decide +kernel
theorem dL_law_416 : decode cL_law 416 = .ok (.invokevirtual 156, 3) := by decide +kernel
theorem dL_law_419 : decode cL_law 419 = .ok (.if_icmp .eq 2729, 3) := by decide +kernel
theorem dL_law_422 : decode cL_law 422 = .ok (.iconst 0, 1) := by decide +kernel
theorem dL_law_423 : decode cL_law 423 = .ok (.ireturn, 1) := by decide +kernel
theorem dL_law_424 : decode cL_law 424 = .ok (.aload_n 1, 1) := by decide +kernel
theorem dL_law_425 : decode cL_law 425 = .ok (.invokevirtual 157, 3) := by decide +kernel
theorem dL_law_428 : decode cL_law 428 = .ok (.aload_n 2, 1) := by decide +kernel
theorem dL_law_429 : decode cL_law 429 = .ok (.invokevirtual 160, 3) := by decide +kernel
theorem dL_law_432 : decode cL_law 432 = .ok (.if_icmp .eq 2716, 3) := by decide +kernel
theorem dL_law_435 : decode cL_law 435 = .ok (.iconst 0, 1) := by decide +kernel
theorem dL_law_436 : decode cL_law 436 = .ok (.ireturn, 1) := by decide +kernel
theorem dL_law_437 : decode cL_law 437 = .ok (.aload_n 1, 1) := by decide +kernel
theorem dL_law_438 : decode cL_law 438 = .ok (.invokevirtual 161, 3) := by decide +kernel
theorem dL_law_441 : decode cL_law 441 = .ok (.aload_n 2, 1) := by decide +kernel
theorem dL_law_442 : decode cL_law 442 = .ok (.invokevirtual 164, 3) := by decide +kernel
theorem dL_law_445 : decode cL_law 445 = .ok (.if_icmp .eq 2703, 3) := by decide +kernel
theorem dL_law_448 : decode cL_law 448 = .ok (.iconst 0, 1) := by decide +kernel
theorem dL_law_449 : decode cL_law 449 = .ok (.ireturn, 1) := by decide +kernel
theorem dL_law_450 : decode cL_law 450 = .ok (.aload_n 1, 1) := by decide +kernel
theorem dL_law_451 : decode cL_law 451 = .ok (.invokevirtual 165, 3) := by decide +kernel
theorem dL_law_454 : decode cL_law 454 = .ok (.aload_n 2, 1) := by decide +kernel
theorem dL_law_455 : decode cL_law 455 = .ok (.invokevirtual 168, 3) := by decide +kernel
theorem dL_law_458 : decode cL_law 458 = .ok (.if_icmp .eq 2690, 3) := by decide +kernel
theorem dL_law_461 : decode cL_law 461 = .ok (.iconst 0, 1) := by decide +kernel
theorem dL_law_462 : decode cL_law 462 = .ok (.ireturn, 1) := by decide +kernel
theorem dL_law_463 : decode cL_law 463 = .ok (.aload_n 1, 1) := by decide +kernel
theorem dL_law_464 : decode cL_law 464 = .ok (.invokevirtual 169, 3) := by decide +kernel
theorem dL_law_467 : decode cL_law 467 = .ok (.aload_n 2, 1) := by decide +kernel
theorem dL_law_468 : decode cL_law 468 = .ok (.invokevirtual 172, 3) := by decide +kernel
theorem dL_law_471 : decode cL_law 471 = .ok (.if_icmp .eq 2677, 3) := by decide +kernel
theorem dL_law_474 : decode cL_law 474 = .ok (.iconst 0, 1) := by decide +kernel
theorem dL_law_475 : decode cL_law 475 = .ok (.ireturn, 1) := by decide +kernel
theorem dL_law_476 : decode cL_law 476 = .ok (.aload_n 1, 1) := by decide +kernel
theorem dL_law_477 : decode cL_law 477 = .ok (.invokevirtual 173, 3) := by decide +kernel
theorem dL_law_480 : decode cL_law 480 = .ok (.aload_n 2, 1) := by decide +kernel
theorem dL_law_481 : decode cL_law 481 = .ok (.invokevirtual 176, 3) := by decide +kernel
theorem dL_law_484 : decode cL_law 484 = .ok (.if_icmp .eq 2664, 3) := by decide +kernel
theorem dL_law_487 : decode cL_law 487 = .ok (.iconst 0, 1) := by decide +kernel
theorem dL_law_488 : decode cL_law 488 = .ok (.ireturn, 1) := by decide +kernel
theorem dL_law_489 : decode cL_law 489 = .ok (.aload_n 1, 1) := by decide +kernel
theorem dL_law_490 : decode cL_law 490 = .ok (.aload_n 0, 1) := by decide +kernel
theorem dL_law_491 : decode cL_law 491 = .ok (.iload 4, 2) := by decide +kernel
theorem dL_law_493 : decode cL_law 493 = .ok (.iconst 1, 1) := by decide +kernel
theorem dL_law_494 : decode cL_law 494 = .ok (.iadd, 1) := by decide +kernel
theorem dL_law_495 : decode cL_law 495 = .ok (.iaload, 1) := by decide +kernel
theorem dL_law_496 : decode cL_law 496 = .ok (.aload_n 3, 1) := by decide +kernel
theorem dL_law_497 : decode cL_law 497 = .ok (.invokestatic 177, 3) := by decide +kernel
theorem dL_law_500 : decode cL_law 500 = .ok (.istore 5, 2) := by decide +kernel
theorem dL_law_502 : decode cL_law 502 = .ok (.aload_n 2, 1) := by decide +kernel
theorem dL_law_503 : decode cL_law 503 = .ok (.aload_n 0, 1) := by decide +kernel
theorem dL_law_504 : decode cL_law 504 = .ok (.iload 4, 2) := by decide +kernel
theorem dL_law_506 : decode cL_law 506 = .ok (.iconst 1, 1) := by decide +kernel
theorem dL_law_507 : decode cL_law 507 = .ok (.iadd, 1) := by decide +kernel
theorem dL_law_508 : decode cL_law 508 = .ok (.iaload, 1) := by decide +kernel
theorem dL_law_509 : decode cL_law 509 = .ok (.invokevirtual 182, 3) := by decide +kernel
theorem dL_law_512 : decode cL_law 512 = .ok (.istore 6, 2) := by decide +kernel
theorem dL_law_514 : decode cL_law 514 = .ok (.aload_n 2, 1) := by decide +kernel
theorem dL_law_515 : decode cL_law 515 = .ok (.invokevirtual 183, 3) := by decide +kernel
theorem dL_law_518 : decode cL_law 518 = .ok (.iload 5, 2) := by decide +kernel
theorem dL_law_520 : decode cL_law 520 = .ok (.if_icmp .eq 5, 3) := by decide +kernel
theorem dL_law_523 : decode cL_law 523 = .ok (.iconst 0, 1) := by decide +kernel
theorem dL_law_524 : decode cL_law 524 = .ok (.ireturn, 1) := by decide +kernel
theorem dL_law_525 : decode cL_law 525 = .ok (.iload 5, 2) := by decide +kernel
theorem dL_law_527 : decode cL_law 527 = .ok (.ifCond .ne 15, 3) := by decide +kernel
theorem dL_law_530 : decode cL_law 530 = .ok (.aload_n 3, 1) := by decide +kernel
theorem dL_law_531 : decode cL_law 531 = .ok (.iconst 0, 1) := by decide +kernel
theorem dL_law_532 : decode cL_law 532 = .ok (.laload, 1) := by decide +kernel
theorem dL_law_533 : decode cL_law 533 = .ok (.iload 6, 2) := by decide +kernel
theorem dL_law_535 : decode cL_law 535 = .ok (.i2l, 1) := by decide +kernel
theorem dL_law_536 : decode cL_law 536 = .ok (.lcmp, 1) := by decide +kernel
theorem dL_law_537 : decode cL_law 537 = .ok (.ifCond .eq 5, 3) := by decide +kernel
theorem dL_law_540 : decode cL_law 540 = .ok (.iconst 0, 1) := by decide +kernel
theorem dL_law_541 : decode cL_law 541 = .ok (.ireturn, 1) := by decide +kernel
theorem dL_law_542 : decode cL_law 542 = .ok (.goto 2606, 3) := by decide +kernel
theorem dL_law_545 : decode cL_law 545 = .ok (.aload_n 1, 1) := by decide +kernel
theorem dL_law_546 : decode cL_law 546 = .ok (.aload_n 0, 1) := by decide +kernel
theorem dL_law_547 : decode cL_law 547 = .ok (.iload 4, 2) := by decide +kernel
theorem dL_law_549 : decode cL_law 549 = .ok (.iconst 1, 1) := by decide +kernel
theorem dL_law_550 : decode cL_law 550 = .ok (.iadd, 1) := by decide +kernel
theorem dL_law_551 : decode cL_law 551 = .ok (.iaload, 1) := by decide +kernel
theorem dL_law_552 : decode cL_law 552 = .ok (.aload_n 3, 1) := by decide +kernel
theorem dL_law_553 : decode cL_law 553 = .ok (.invokestatic 186, 3) := by decide +kernel
theorem dL_law_556 : decode cL_law 556 = .ok (.istore 5, 2) := by decide +kernel
theorem dL_law_558 : decode cL_law 558 = .ok (.aload_n 2, 1) := by decide +kernel
theorem dL_law_559 : decode cL_law 559 = .ok (.aload_n 0, 1) := by decide +kernel
theorem dL_law_560 : decode cL_law 560 = .ok (.iload 4, 2) := by decide +kernel
theorem dL_law_562 : decode cL_law 562 = .ok (.iconst 1, 1) := by decide +kernel
theorem dL_law_563 : decode cL_law 563 = .ok (.iadd, 1) := by decide +kernel
theorem dL_law_564 : decode cL_law 564 = .ok (.iaload, 1) := by decide +kernel
theorem dL_law_565 : decode cL_law 565 = .ok (.invokevirtual 188, 3) := by decide +kernel
theorem dL_law_568 : decode cL_law 568 = .ok (.istore 6, 2) := by decide +kernel
theorem dL_law_570 : decode cL_law 570 = .ok (.aload_n 2, 1) := by decide +kernel
theorem dL_law_571 : decode cL_law 571 = .ok (.invokevirtual 183, 3) := by decide +kernel
theorem dL_law_574 : decode cL_law 574 = .ok (.iload 5, 2) := by decide +kernel
theorem dL_law_576 : decode cL_law 576 = .ok (.if_icmp .eq 5, 3) := by decide +kernel
theorem dL_law_579 : decode cL_law 579 = .ok (.iconst 0, 1) := by decide +kernel
theorem dL_law_580 : decode cL_law 580 = .ok (.ireturn, 1) := by decide +kernel
theorem dL_law_581 : decode cL_law 581 = .ok (.iload 5, 2) := by decide +kernel
theorem dL_law_583 : decode cL_law 583 = .ok (.ifCond .ne 15, 3) := by decide +kernel
theorem dL_law_586 : decode cL_law 586 = .ok (.aload_n 3, 1) := by decide +kernel
theorem dL_law_587 : decode cL_law 587 = .ok (.iconst 0, 1) := by decide +kernel
theorem dL_law_588 : decode cL_law 588 = .ok (.laload, 1) := by decide +kernel
theorem dL_law_589 : decode cL_law 589 = .ok (.iload 6, 2) := by decide +kernel
theorem dL_law_591 : decode cL_law 591 = .ok (.i2l, 1) := by decide +kernel
theorem dL_law_592 : decode cL_law 592 = .ok (.lcmp, 1) := by decide +kernel
theorem dL_law_593 : decode cL_law 593 = .ok (.ifCond .eq 5, 3) := by decide +kernel
theorem dL_law_596 : decode cL_law 596 = .ok (.iconst 0, 1) := by decide +kernel
theorem dL_law_597 : decode cL_law 597 = .ok (.ireturn, 1) := by decide +kernel
theorem dL_law_598 : decode cL_law 598 = .ok (.goto 2550, 3) := by decide +kernel
theorem dL_law_601 : decode cL_law 601 = .ok (.aload_n 1, 1) := by decide +kernel
theorem dL_law_602 : decode cL_law 602 = .ok (.aload_n 0, 1) := by decide +kernel
theorem dL_law_603 : decode cL_law 603 = .ok (.iload 4, 2) := by decide +kernel
theorem dL_law_605 : decode cL_law 605 = .ok (.iconst 1, 1) := by decide +kernel
theorem dL_law_606 : decode cL_law 606 = .ok (.iadd, 1) := by decide +kernel
theorem dL_law_607 : decode cL_law 607 = .ok (.iaload, 1) := by decide +kernel
theorem dL_law_608 : decode cL_law 608 = .ok (.aload_n 3, 1) := by decide +kernel
theorem dL_law_609 : decode cL_law 609 = .ok (.invokestatic 189, 3) := by decide +kernel
theorem dL_law_612 : decode cL_law 612 = .ok (.istore 5, 2) := by decide +kernel
theorem dL_law_614 : decode cL_law 614 = .ok (.aload_n 2, 1) := by decide +kernel
theorem dL_law_615 : decode cL_law 615 = .ok (.aload_n 0, 1) := by decide +kernel
theorem dL_law_616 : decode cL_law 616 = .ok (.iload 4, 2) := by decide +kernel
theorem dL_law_618 : decode cL_law 618 = .ok (.iconst 1, 1) := by decide +kernel
theorem dL_law_619 : decode cL_law 619 = .ok (.iadd, 1) := by decide +kernel
theorem dL_law_620 : decode cL_law 620 = .ok (.iaload, 1) := by decide +kernel
theorem dL_law_621 : decode cL_law 621 = .ok (.invokevirtual 191, 3) := by decide +kernel
theorem dL_law_624 : decode cL_law 624 = .ok (.istore 6, 2) := by decide +kernel
theorem dL_law_626 : decode cL_law 626 = .ok (.aload_n 2, 1) := by decide +kernel
theorem dL_law_627 : decode cL_law 627 = .ok (.invokevirtual 183, 3) := by decide +kernel
theorem dL_law_630 : decode cL_law 630 = .ok (.iload 5, 2) := by decide +kernel
theorem dL_law_632 : decode cL_law 632 = .ok (.if_icmp .eq 5, 3) := by decide +kernel
theorem dL_law_635 : decode cL_law 635 = .ok (.iconst 0, 1) := by decide +kernel
theorem dL_law_636 : decode cL_law 636 = .ok (.ireturn, 1) := by decide +kernel
theorem dL_law_637 : decode cL_law 637 = .ok (.iload 5, 2) := by decide +kernel
theorem dL_law_639 : decode cL_law 639 = .ok (.ifCond .ne 15, 3) := by decide +kernel
theorem dL_law_642 : decode cL_law 642 = .ok (.aload_n 3, 1) := by decide +kernel
theorem dL_law_643 : decode cL_law 643 = .ok (.iconst 0, 1) := by decide +kernel
theorem dL_law_644 : decode cL_law 644 = .ok (.laload, 1) := by decide +kernel
theorem dL_law_645 : decode cL_law 645 = .ok (.iload 6, 2) := by decide +kernel
theorem dL_law_647 : decode cL_law 647 = .ok (.i2l, 1) := by decide +kernel
theorem dL_law_648 : decode cL_law 648 = .ok (.lcmp, 1) := by decide +kernel
theorem dL_law_649 : decode cL_law 649 = .ok (.ifCond .eq 5, 3) := by decide +kernel
theorem dL_law_652 : decode cL_law 652 = .ok (.iconst 0, 1) := by decide +kernel
theorem dL_law_653 : decode cL_law 653 = .ok (.ireturn, 1) := by decide +kernel
theorem dL_law_654 : decode cL_law 654 = .ok (.goto 2494, 3) := by decide +kernel
theorem dL_law_657 : decode cL_law 657 = .ok (.aload_n 1, 1) := by decide +kernel
theorem dL_law_658 : decode cL_law 658 = .ok (.aload_n 0, 1) := by decide +kernel
theorem dL_law_659 : decode cL_law 659 = .ok (.iload 4, 2) := by decide +kernel
theorem dL_law_661 : decode cL_law 661 = .ok (.iconst 1, 1) := by decide +kernel
theorem dL_law_662 : decode cL_law 662 = .ok (.iadd, 1) := by decide +kernel
theorem dL_law_663 : decode cL_law 663 = .ok (.iaload, 1) := by decide +kernel
theorem dL_law_664 : decode cL_law 664 = .ok (.aload_n 0, 1) := by decide +kernel
theorem dL_law_665 : decode cL_law 665 = .ok (.iload 4, 2) := by decide +kernel
theorem dL_law_667 : decode cL_law 667 = .ok (.iconst 2, 1) := by decide +kernel
theorem dL_law_668 : decode cL_law 668 = .ok (.iadd, 1) := by decide +kernel
theorem dL_law_669 : decode cL_law 669 = .ok (.iaload, 1) := by decide +kernel
theorem dL_law_670 : decode cL_law 670 = .ok (.aload_n 3, 1) := by decide +kernel
theorem dL_law_671 : decode cL_law 671 = .ok (.invokestatic 192, 3) := by decide +kernel
theorem dL_law_674 : decode cL_law 674 = .ok (.istore 5, 2) := by decide +kernel
theorem dL_law_676 : decode cL_law 676 = .ok (.aload_n 2, 1) := by decide +kernel
theorem dL_law_677 : decode cL_law 677 = .ok (.aload_n 0, 1) := by decide +kernel
theorem dL_law_678 : decode cL_law 678 = .ok (.iload 4, 2) := by decide +kernel
theorem dL_law_680 : decode cL_law 680 = .ok (.iconst 1, 1) := by decide +kernel
theorem dL_law_681 : decode cL_law 681 = .ok (.iadd, 1) := by decide +kernel
theorem dL_law_682 : decode cL_law 682 = .ok (.iaload, 1) := by decide +kernel
theorem dL_law_683 : decode cL_law 683 = .ok (.aload_n 0, 1) := by decide +kernel
theorem dL_law_684 : decode cL_law 684 = .ok (.iload 4, 2) := by decide +kernel
theorem dL_law_686 : decode cL_law 686 = .ok (.iconst 2, 1) := by decide +kernel
theorem dL_law_687 : decode cL_law 687 = .ok (.iadd, 1) := by decide +kernel
theorem dL_law_688 : decode cL_law 688 = .ok (.iaload, 1) := by decide +kernel
theorem dL_law_689 : decode cL_law 689 = .ok (.invokevirtual 195, 3) := by decide +kernel
theorem dL_law_692 : decode cL_law 692 = .ok (.istore 6, 2) := by decide +kernel
theorem dL_law_694 : decode cL_law 694 = .ok (.aload_n 2, 1) := by decide +kernel
theorem dL_law_695 : decode cL_law 695 = .ok (.invokevirtual 183, 3) := by decide +kernel
theorem dL_law_698 : decode cL_law 698 = .ok (.iload 5, 2) := by decide +kernel
theorem dL_law_700 : decode cL_law 700 = .ok (.if_icmp .eq 5, 3) := by decide +kernel
theorem dL_law_703 : decode cL_law 703 = .ok (.iconst 0, 1) := by decide +kernel
theorem dL_law_704 : decode cL_law 704 = .ok (.ireturn, 1) := by decide +kernel
theorem dL_law_705 : decode cL_law 705 = .ok (.iload 5, 2) := by decide +kernel
theorem dL_law_707 : decode cL_law 707 = .ok (.ifCond .ne 15, 3) := by decide +kernel
theorem dL_law_710 : decode cL_law 710 = .ok (.aload_n 3, 1) := by decide +kernel
theorem dL_law_711 : decode cL_law 711 = .ok (.iconst 0, 1) := by decide +kernel
theorem dL_law_712 : decode cL_law 712 = .ok (.laload, 1) := by decide +kernel
theorem dL_law_713 : decode cL_law 713 = .ok (.iload 6, 2) := by decide +kernel
theorem dL_law_715 : decode cL_law 715 = .ok (.i2l, 1) := by decide +kernel
theorem dL_law_716 : decode cL_law 716 = .ok (.lcmp, 1) := by decide +kernel
theorem dL_law_717 : decode cL_law 717 = .ok (.ifCond .eq 5, 3) := by decide +kernel
theorem dL_law_720 : decode cL_law 720 = .ok (.iconst 0, 1) := by decide +kernel
theorem dL_law_721 : decode cL_law 721 = .ok (.ireturn, 1) := by decide +kernel
theorem dL_law_722 : decode cL_law 722 = .ok (.goto 2426, 3) := by decide +kernel
theorem dL_law_725 : decode cL_law 725 = .ok (.aload_n 1, 1) := by decide +kernel
theorem dL_law_726 : decode cL_law 726 = .ok (.aload_n 0, 1) := by decide +kernel
theorem dL_law_727 : decode cL_law 727 = .ok (.iload 4, 2) := by decide +kernel
theorem dL_law_729 : decode cL_law 729 = .ok (.iconst 1, 1) := by decide +kernel
theorem dL_law_730 : decode cL_law 730 = .ok (.iadd, 1) := by decide +kernel
theorem dL_law_731 : decode cL_law 731 = .ok (.iaload, 1) := by decide +kernel
theorem dL_law_732 : decode cL_law 732 = .ok (.aload_n 0, 1) := by decide +kernel
theorem dL_law_733 : decode cL_law 733 = .ok (.iload 4, 2) := by decide +kernel
theorem dL_law_735 : decode cL_law 735 = .ok (.iconst 2, 1) := by decide +kernel
theorem dL_law_736 : decode cL_law 736 = .ok (.iadd, 1) := by decide +kernel
theorem dL_law_737 : decode cL_law 737 = .ok (.iaload, 1) := by decide +kernel
theorem dL_law_738 : decode cL_law 738 = .ok (.aload_n 3, 1) := by decide +kernel
theorem dL_law_739 : decode cL_law 739 = .ok (.invokestatic 196, 3) := by decide +kernel
theorem dL_law_742 : decode cL_law 742 = .ok (.istore 5, 2) := by decide +kernel
theorem dL_law_744 : decode cL_law 744 = .ok (.aload_n 2, 1) := by decide +kernel
theorem dL_law_745 : decode cL_law 745 = .ok (.aload_n 0, 1) := by decide +kernel
theorem dL_law_746 : decode cL_law 746 = .ok (.iload 4, 2) := by decide +kernel
theorem dL_law_748 : decode cL_law 748 = .ok (.iconst 1, 1) := by decide +kernel
theorem dL_law_749 : decode cL_law 749 = .ok (.iadd, 1) := by decide +kernel
theorem dL_law_750 : decode cL_law 750 = .ok (.iaload, 1) := by decide +kernel
theorem dL_law_751 : decode cL_law 751 = .ok (.aload_n 0, 1) := by decide +kernel
theorem dL_law_752 : decode cL_law 752 = .ok (.iload 4, 2) := by decide +kernel
theorem dL_law_754 : decode cL_law 754 = .ok (.iconst 2, 1) := by decide +kernel
theorem dL_law_755 : decode cL_law 755 = .ok (.iadd, 1) := by decide +kernel
theorem dL_law_756 : decode cL_law 756 = .ok (.iaload, 1) := by decide +kernel
theorem dL_law_757 : decode cL_law 757 = .ok (.invokevirtual 198, 3) := by decide +kernel
theorem dL_law_760 : decode cL_law 760 = .ok (.istore 6, 2) := by decide +kernel
theorem dL_law_762 : decode cL_law 762 = .ok (.aload_n 2, 1) := by decide +kernel
theorem dL_law_763 : decode cL_law 763 = .ok (.invokevirtual 183, 3) := by decide +kernel
theorem dL_law_766 : decode cL_law 766 = .ok (.iload 5, 2) := by decide +kernel
theorem dL_law_768 : decode cL_law 768 = .ok (.if_icmp .eq 5, 3) := by decide +kernel
theorem dL_law_771 : decode cL_law 771 = .ok (.iconst 0, 1) := by decide +kernel
theorem dL_law_772 : decode cL_law 772 = .ok (.ireturn, 1) := by decide +kernel
theorem dL_law_773 : decode cL_law 773 = .ok (.iload 5, 2) := by decide +kernel
theorem dL_law_775 : decode cL_law 775 = .ok (.ifCond .ne 15, 3) := by decide +kernel
theorem dL_law_778 : decode cL_law 778 = .ok (.aload_n 3, 1) := by decide +kernel
theorem dL_law_779 : decode cL_law 779 = .ok (.iconst 0, 1) := by decide +kernel
theorem dL_law_780 : decode cL_law 780 = .ok (.laload, 1) := by decide +kernel
theorem dL_law_781 : decode cL_law 781 = .ok (.iload 6, 2) := by decide +kernel
theorem dL_law_783 : decode cL_law 783 = .ok (.i2l, 1) := by decide +kernel
theorem dL_law_784 : decode cL_law 784 = .ok (.lcmp, 1) := by decide +kernel
theorem dL_law_785 : decode cL_law 785 = .ok (.ifCond .eq 5, 3) := by decide +kernel
theorem dL_law_788 : decode cL_law 788 = .ok (.iconst 0, 1) := by decide +kernel
theorem dL_law_789 : decode cL_law 789 = .ok (.ireturn, 1) := by decide +kernel
theorem dL_law_790 : decode cL_law 790 = .ok (.goto 2358, 3) := by decide +kernel
theorem dL_law_793 : decode cL_law 793 = .ok (.aload_n 1, 1) := by decide +kernel
theorem dL_law_794 : decode cL_law 794 = .ok (.invokevirtual 199, 3) := by decide +kernel
theorem dL_law_797 : decode cL_law 797 = .ok (.aload_n 2, 1) := by decide +kernel
theorem dL_law_798 : decode cL_law 798 = .ok (.invokevirtual 202, 3) := by decide +kernel
theorem dL_law_801 : decode cL_law 801 = .ok (.if_icmp .eq 2347, 3) := by decide +kernel
theorem dL_law_804 : decode cL_law 804 = .ok (.iconst 0, 1) := by decide +kernel
theorem dL_law_805 : decode cL_law 805 = .ok (.ireturn, 1) := by decide +kernel
theorem dL_law_806 : decode cL_law 806 = .ok (.aload_n 1, 1) := by decide +kernel
theorem dL_law_807 : decode cL_law 807 = .ok (.aload_n 0, 1) := by decide +kernel
theorem dL_law_808 : decode cL_law 808 = .ok (.iload 4, 2) := by decide +kernel
theorem dL_law_810 : decode cL_law 810 = .ok (.iconst 1, 1) := by decide +kernel
theorem dL_law_811 : decode cL_law 811 = .ok (.iadd, 1) := by decide +kernel
theorem dL_law_812 : decode cL_law 812 = .ok (.iaload, 1) := by decide +kernel
theorem dL_law_813 : decode cL_law 813 = .ok (.aload_n 3, 1) := by decide +kernel
theorem dL_law_814 : decode cL_law 814 = .ok (.invokestatic 203, 3) := by decide +kernel
theorem dL_law_817 : decode cL_law 817 = .ok (.istore 5, 2) := by decide +kernel
theorem dL_law_819 : decode cL_law 819 = .ok (.aload_n 2, 1) := by decide +kernel
theorem dL_law_820 : decode cL_law 820 = .ok (.aload_n 0, 1) := by decide +kernel
theorem dL_law_821 : decode cL_law 821 = .ok (.iload 4, 2) := by decide +kernel
theorem dL_law_823 : decode cL_law 823 = .ok (.iconst 1, 1) := by decide +kernel
theorem dL_law_824 : decode cL_law 824 = .ok (.iadd, 1) := by decide +kernel
theorem dL_law_825 : decode cL_law 825 = .ok (.iaload, 1) := by decide +kernel
theorem dL_law_826 : decode cL_law 826 = .ok (.invokevirtual 205, 3) := by decide +kernel
theorem dL_law_829 : decode cL_law 829 = .ok (.istore 6, 2) := by decide +kernel
theorem dL_law_831 : decode cL_law 831 = .ok (.aload_n 2, 1) := by decide +kernel
theorem dL_law_832 : decode cL_law 832 = .ok (.invokevirtual 183, 3) := by decide +kernel
theorem dL_law_835 : decode cL_law 835 = .ok (.iload 5, 2) := by decide +kernel
theorem dL_law_837 : decode cL_law 837 = .ok (.if_icmp .eq 5, 3) := by decide +kernel
theorem dL_law_840 : decode cL_law 840 = .ok (.iconst 0, 1) := by decide +kernel
theorem dL_law_841 : decode cL_law 841 = .ok (.ireturn, 1) := by decide +kernel
theorem dL_law_842 : decode cL_law 842 = .ok (.iload 5, 2) := by decide +kernel
theorem dL_law_844 : decode cL_law 844 = .ok (.ifCond .ne 15, 3) := by decide +kernel
theorem dL_law_847 : decode cL_law 847 = .ok (.aload_n 3, 1) := by decide +kernel
theorem dL_law_848 : decode cL_law 848 = .ok (.iconst 0, 1) := by decide +kernel
theorem dL_law_849 : decode cL_law 849 = .ok (.laload, 1) := by decide +kernel
theorem dL_law_850 : decode cL_law 850 = .ok (.iload 6, 2) := by decide +kernel
theorem dL_law_852 : decode cL_law 852 = .ok (.i2l, 1) := by decide +kernel
theorem dL_law_853 : decode cL_law 853 = .ok (.lcmp, 1) := by decide +kernel
theorem dL_law_854 : decode cL_law 854 = .ok (.ifCond .eq 5, 3) := by decide +kernel
theorem dL_law_857 : decode cL_law 857 = .ok (.iconst 0, 1) := by decide +kernel
theorem dL_law_858 : decode cL_law 858 = .ok (.ireturn, 1) := by decide +kernel
theorem dL_law_859 : decode cL_law 859 = .ok (.goto 2289, 3) := by decide +kernel
theorem dL_law_862 : decode cL_law 862 = .ok (.aload_n 1, 1) := by decide +kernel
theorem dL_law_863 : decode cL_law 863 = .ok (.aload_n 0, 1) := by decide +kernel
theorem dL_law_864 : decode cL_law 864 = .ok (.iload 4, 2) := by decide +kernel
theorem dL_law_866 : decode cL_law 866 = .ok (.iconst 1, 1) := by decide +kernel
theorem dL_law_867 : decode cL_law 867 = .ok (.iadd, 1) := by decide +kernel
theorem dL_law_868 : decode cL_law 868 = .ok (.iaload, 1) := by decide +kernel
theorem dL_law_869 : decode cL_law 869 = .ok (.aload_n 3, 1) := by decide +kernel
theorem dL_law_870 : decode cL_law 870 = .ok (.invokestatic 206, 3) := by decide +kernel
theorem dL_law_873 : decode cL_law 873 = .ok (.istore 5, 2) := by decide +kernel
theorem dL_law_875 : decode cL_law 875 = .ok (.aload_n 2, 1) := by decide +kernel
theorem dL_law_876 : decode cL_law 876 = .ok (.aload_n 0, 1) := by decide +kernel
theorem dL_law_877 : decode cL_law 877 = .ok (.iload 4, 2) := by decide +kernel
theorem dL_law_879 : decode cL_law 879 = .ok (.iconst 1, 1) := by decide +kernel
theorem dL_law_880 : decode cL_law 880 = .ok (.iadd, 1) := by decide +kernel
theorem dL_law_881 : decode cL_law 881 = .ok (.iaload, 1) := by decide +kernel
theorem dL_law_882 : decode cL_law 882 = .ok (.invokevirtual 208, 3) := by decide +kernel
theorem dL_law_885 : decode cL_law 885 = .ok (.istore 6, 2) := by decide +kernel
theorem dL_law_887 : decode cL_law 887 = .ok (.aload_n 2, 1) := by decide +kernel
theorem dL_law_888 : decode cL_law 888 = .ok (.invokevirtual 183, 3) := by decide +kernel
theorem dL_law_891 : decode cL_law 891 = .ok (.iload 5, 2) := by decide +kernel
theorem dL_law_893 : decode cL_law 893 = .ok (.if_icmp .eq 5, 3) := by decide +kernel
theorem dL_law_896 : decode cL_law 896 = .ok (.iconst 0, 1) := by decide +kernel
theorem dL_law_897 : decode cL_law 897 = .ok (.ireturn, 1) := by decide +kernel
theorem dL_law_898 : decode cL_law 898 = .ok (.iload 5, 2) := by decide +kernel
theorem dL_law_900 : decode cL_law 900 = .ok (.ifCond .ne 15, 3) := by decide +kernel
theorem dL_law_903 : decode cL_law 903 = .ok (.aload_n 3, 1) := by decide +kernel
theorem dL_law_904 : decode cL_law 904 = .ok (.iconst 0, 1) := by decide +kernel
theorem dL_law_905 : decode cL_law 905 = .ok (.laload, 1) := by decide +kernel
theorem dL_law_906 : decode cL_law 906 = .ok (.iload 6, 2) := by decide +kernel
theorem dL_law_908 : decode cL_law 908 = .ok (.i2l, 1) := by decide +kernel
theorem dL_law_909 : decode cL_law 909 = .ok (.lcmp, 1) := by decide +kernel
theorem dL_law_910 : decode cL_law 910 = .ok (.ifCond .eq 5, 3) := by decide +kernel
theorem dL_law_913 : decode cL_law 913 = .ok (.iconst 0, 1) := by decide +kernel
theorem dL_law_914 : decode cL_law 914 = .ok (.ireturn, 1) := by decide +kernel
theorem dL_law_915 : decode cL_law 915 = .ok (.goto 2233, 3) := by decide +kernel
theorem dL_law_918 : decode cL_law 918 = .ok (.aload_n 1, 1) := by decide +kernel
theorem dL_law_919 : decode cL_law 919 = .ok (.aload_n 0, 1) := by decide +kernel
theorem dL_law_920 : decode cL_law 920 = .ok (.iload 4, 2) := by decide +kernel
theorem dL_law_922 : decode cL_law 922 = .ok (.iconst 1, 1) := by decide +kernel
theorem dL_law_923 : decode cL_law 923 = .ok (.iadd, 1) := by decide +kernel
theorem dL_law_924 : decode cL_law 924 = .ok (.iaload, 1) := by decide +kernel
theorem dL_law_925 : decode cL_law 925 = .ok (.aload_n 0, 1) := by decide +kernel
theorem dL_law_926 : decode cL_law 926 = .ok (.iload 4, 2) := by decide +kernel
theorem dL_law_928 : decode cL_law 928 = .ok (.iconst 2, 1) := by decide +kernel
theorem dL_law_929 : decode cL_law 929 = .ok (.iadd, 1) := by decide +kernel
theorem dL_law_930 : decode cL_law 930 = .ok (.iaload, 1) := by decide +kernel
theorem dL_law_931 : decode cL_law 931 = .ok (.aload_n 3, 1) := by decide +kernel
theorem dL_law_932 : decode cL_law 932 = .ok (.invokestatic 209, 3) := by decide +kernel
theorem dL_law_935 : decode cL_law 935 = .ok (.istore 5, 2) := by decide +kernel
theorem dL_law_937 : decode cL_law 937 = .ok (.aload_n 2, 1) := by decide +kernel
theorem dL_law_938 : decode cL_law 938 = .ok (.aload_n 0, 1) := by decide +kernel
theorem dL_law_939 : decode cL_law 939 = .ok (.iload 4, 2) := by decide +kernel
theorem dL_law_941 : decode cL_law 941 = .ok (.iconst 1, 1) := by decide +kernel
theorem dL_law_942 : decode cL_law 942 = .ok (.iadd, 1) := by decide +kernel
theorem dL_law_943 : decode cL_law 943 = .ok (.iaload, 1) := by decide +kernel
theorem dL_law_944 : decode cL_law 944 = .ok (.aload_n 0, 1) := by decide +kernel
theorem dL_law_945 : decode cL_law 945 = .ok (.iload 4, 2) := by decide +kernel
theorem dL_law_947 : decode cL_law 947 = .ok (.iconst 2, 1) := by decide +kernel
theorem dL_law_948 : decode cL_law 948 = .ok (.iadd, 1) := by decide +kernel
theorem dL_law_949 : decode cL_law 949 = .ok (.iaload, 1) := by decide +kernel
theorem dL_law_950 : decode cL_law 950 = .ok (.invokevirtual 211, 3) := by decide +kernel
theorem dL_law_953 : decode cL_law 953 = .ok (.istore 6, 2) := by decide +kernel
theorem dL_law_955 : decode cL_law 955 = .ok (.aload_n 2, 1) := by decide +kernel
theorem dL_law_956 : decode cL_law 956 = .ok (.invokevirtual 183, 3) := by decide +kernel
theorem dL_law_959 : decode cL_law 959 = .ok (.iload 5, 2) := by decide +kernel
theorem dL_law_961 : decode cL_law 961 = .ok (.if_icmp .eq 5, 3) := by decide +kernel
theorem dL_law_964 : decode cL_law 964 = .ok (.iconst 0, 1) := by decide +kernel
theorem dL_law_965 : decode cL_law 965 = .ok (.ireturn, 1) := by decide +kernel
theorem dL_law_966 : decode cL_law 966 = .ok (.iload 5, 2) := by decide +kernel
theorem dL_law_968 : decode cL_law 968 = .ok (.ifCond .ne 15, 3) := by decide +kernel
theorem dL_law_971 : decode cL_law 971 = .ok (.aload_n 3, 1) := by decide +kernel
theorem dL_law_972 : decode cL_law 972 = .ok (.iconst 0, 1) := by decide +kernel
theorem dL_law_973 : decode cL_law 973 = .ok (.laload, 1) := by decide +kernel
theorem dL_law_974 : decode cL_law 974 = .ok (.iload 6, 2) := by decide +kernel
theorem dL_law_976 : decode cL_law 976 = .ok (.i2l, 1) := by decide +kernel
theorem dL_law_977 : decode cL_law 977 = .ok (.lcmp, 1) := by decide +kernel
theorem dL_law_978 : decode cL_law 978 = .ok (.ifCond .eq 5, 3) := by decide +kernel
theorem dL_law_981 : decode cL_law 981 = .ok (.iconst 0, 1) := by decide +kernel
theorem dL_law_982 : decode cL_law 982 = .ok (.ireturn, 1) := by decide +kernel
theorem dL_law_983 : decode cL_law 983 = .ok (.goto 2165, 3) := by decide +kernel
theorem dL_law_986 : decode cL_law 986 = .ok (.aload_n 1, 1) := by decide +kernel
theorem dL_law_987 : decode cL_law 987 = .ok (.aload_n 0, 1) := by decide +kernel
theorem dL_law_988 : decode cL_law 988 = .ok (.iload 4, 2) := by decide +kernel
theorem dL_law_990 : decode cL_law 990 = .ok (.iconst 1, 1) := by decide +kernel
theorem dL_law_991 : decode cL_law 991 = .ok (.iadd, 1) := by decide +kernel
theorem dL_law_992 : decode cL_law 992 = .ok (.iaload, 1) := by decide +kernel
theorem dL_law_993 : decode cL_law 993 = .ok (.aload_n 3, 1) := by decide +kernel
theorem dL_law_994 : decode cL_law 994 = .ok (.invokestatic 212, 3) := by decide +kernel
theorem dL_law_997 : decode cL_law 997 = .ok (.istore 5, 2) := by decide +kernel
theorem dL_law_999 : decode cL_law 999 = .ok (.aload_n 2, 1) := by decide +kernel
theorem dL_law_1000 : decode cL_law 1000 = .ok (.aload_n 0, 1) := by decide +kernel
theorem dL_law_1001 : decode cL_law 1001 = .ok (.iload 4, 2) := by decide +kernel
theorem dL_law_1003 : decode cL_law 1003 = .ok (.iconst 1, 1) := by decide +kernel
theorem dL_law_1004 : decode cL_law 1004 = .ok (.iadd, 1) := by decide +kernel
theorem dL_law_1005 : decode cL_law 1005 = .ok (.iaload, 1) := by decide +kernel
theorem dL_law_1006 : decode cL_law 1006 = .ok (.invokevirtual 214, 3) := by decide +kernel
theorem dL_law_1009 : decode cL_law 1009 = .ok (.istore 6, 2) := by decide +kernel
theorem dL_law_1011 : decode cL_law 1011 = .ok (.aload_n 2, 1) := by decide +kernel
theorem dL_law_1012 : decode cL_law 1012 = .ok (.invokevirtual 183, 3) := by decide +kernel
theorem dL_law_1015 : decode cL_law 1015 = .ok (.iload 5, 2) := by decide +kernel
theorem dL_law_1017 : decode cL_law 1017 = .ok (.if_icmp .eq 5, 3) := by decide +kernel
theorem dL_law_1020 : decode cL_law 1020 = .ok (.iconst 0, 1) := by decide +kernel
theorem dL_law_1021 : decode cL_law 1021 = .ok (.ireturn, 1) := by decide +kernel
theorem dL_law_1022 : decode cL_law 1022 = .ok (.iload 5, 2) := by decide +kernel
theorem dL_law_1024 : decode cL_law 1024 = .ok (.ifCond .ne 15, 3) := by decide +kernel
theorem dL_law_1027 : decode cL_law 1027 = .ok (.aload_n 3, 1) := by decide +kernel
theorem dL_law_1028 : decode cL_law 1028 = .ok (.iconst 0, 1) := by decide +kernel
theorem dL_law_1029 : decode cL_law 1029 = .ok (.laload, 1) := by decide +kernel
theorem dL_law_1030 : decode cL_law 1030 = .ok (.iload 6, 2) := by decide +kernel
theorem dL_law_1032 : decode cL_law 1032 = .ok (.i2l, 1) := by decide +kernel
theorem dL_law_1033 : decode cL_law 1033 = .ok (.lcmp, 1) := by decide +kernel
theorem dL_law_1034 : decode cL_law 1034 = .ok (.ifCond .eq 5, 3) := by decide +kernel
theorem dL_law_1037 : decode cL_law 1037 = .ok (.iconst 0, 1) := by decide +kernel
theorem dL_law_1038 : decode cL_law 1038 = .ok (.ireturn, 1) := by decide +kernel
theorem dL_law_1039 : decode cL_law 1039 = .ok (.goto 2109, 3) := by decide +kernel
theorem dL_law_1042 : decode cL_law 1042 = .ok (.aload_n 1, 1) := by decide +kernel
theorem dL_law_1043 : decode cL_law 1043 = .ok (.aload_n 0, 1) := by decide +kernel
theorem dL_law_1044 : decode cL_law 1044 = .ok (.iload 4, 2) := by decide +kernel
theorem dL_law_1046 : decode cL_law 1046 = .ok (.iconst 1, 1) := by decide +kernel
theorem dL_law_1047 : decode cL_law 1047 = .ok (.iadd, 1) := by decide +kernel
theorem dL_law_1048 : decode cL_law 1048 = .ok (.iaload, 1) := by decide +kernel
theorem dL_law_1049 : decode cL_law 1049 = .ok (.aload_n 3, 1) := by decide +kernel
theorem dL_law_1050 : decode cL_law 1050 = .ok (.invokestatic 215, 3) := by decide +kernel
theorem dL_law_1053 : decode cL_law 1053 = .ok (.istore 5, 2) := by decide +kernel
theorem dL_law_1055 : decode cL_law 1055 = .ok (.aload_n 2, 1) := by decide +kernel
theorem dL_law_1056 : decode cL_law 1056 = .ok (.aload_n 0, 1) := by decide +kernel
theorem dL_law_1057 : decode cL_law 1057 = .ok (.iload 4, 2) := by decide +kernel
theorem dL_law_1059 : decode cL_law 1059 = .ok (.iconst 1, 1) := by decide +kernel
theorem dL_law_1060 : decode cL_law 1060 = .ok (.iadd, 1) := by decide +kernel
theorem dL_law_1061 : decode cL_law 1061 = .ok (.iaload, 1) := by decide +kernel
theorem dL_law_1062 : decode cL_law 1062 = .ok (.invokevirtual 217, 3) := by decide +kernel
theorem dL_law_1065 : decode cL_law 1065 = .ok (.istore 6, 2) := by decide +kernel
theorem dL_law_1067 : decode cL_law 1067 = .ok (.aload_n 2, 1) := by decide +kernel
theorem dL_law_1068 : decode cL_law 1068 = .ok (.invokevirtual 183, 3) := by decide +kernel
theorem dL_law_1071 : decode cL_law 1071 = .ok (.iload 5, 2) := by decide +kernel
theorem dL_law_1073 : decode cL_law 1073 = .ok (.if_icmp .eq 5, 3) := by decide +kernel
theorem dL_law_1076 : decode cL_law 1076 = .ok (.iconst 0, 1) := by decide +kernel
theorem dL_law_1077 : decode cL_law 1077 = .ok (.ireturn, 1) := by decide +kernel
theorem dL_law_1078 : decode cL_law 1078 = .ok (.iload 5, 2) := by decide +kernel
theorem dL_law_1080 : decode cL_law 1080 = .ok (.ifCond .ne 15, 3) := by decide +kernel
theorem dL_law_1083 : decode cL_law 1083 = .ok (.aload_n 3, 1) := by decide +kernel
theorem dL_law_1084 : decode cL_law 1084 = .ok (.iconst 0, 1) := by decide +kernel
theorem dL_law_1085 : decode cL_law 1085 = .ok (.laload, 1) := by decide +kernel
theorem dL_law_1086 : decode cL_law 1086 = .ok (.iload 6, 2) := by decide +kernel
theorem dL_law_1088 : decode cL_law 1088 = .ok (.i2l, 1) := by decide +kernel
theorem dL_law_1089 : decode cL_law 1089 = .ok (.lcmp, 1) := by decide +kernel
theorem dL_law_1090 : decode cL_law 1090 = .ok (.ifCond .eq 5, 3) := by decide +kernel
theorem dL_law_1093 : decode cL_law 1093 = .ok (.iconst 0, 1) := by decide +kernel
theorem dL_law_1094 : decode cL_law 1094 = .ok (.ireturn, 1) := by decide +kernel
theorem dL_law_1095 : decode cL_law 1095 = .ok (.goto 2053, 3) := by decide +kernel
theorem dL_law_1098 : decode cL_law 1098 = .ok (.aload_n 1, 1) := by decide +kernel
theorem dL_law_1099 : decode cL_law 1099 = .ok (.invokevirtual 218, 3) := by decide +kernel
theorem dL_law_1102 : decode cL_law 1102 = .ok (.aload_n 2, 1) := by decide +kernel
theorem dL_law_1103 : decode cL_law 1103 = .ok (.invokevirtual 221, 3) := by decide +kernel
theorem dL_law_1106 : decode cL_law 1106 = .ok (.if_icmp .eq 2042, 3) := by decide +kernel
theorem dL_law_1109 : decode cL_law 1109 = .ok (.iconst 0, 1) := by decide +kernel
theorem dL_law_1110 : decode cL_law 1110 = .ok (.ireturn, 1) := by decide +kernel
theorem dL_law_1111 : decode cL_law 1111 = .ok (.aload_n 1, 1) := by decide +kernel
theorem dL_law_1112 : decode cL_law 1112 = .ok (.aload_n 0, 1) := by decide +kernel
theorem dL_law_1113 : decode cL_law 1113 = .ok (.iload 4, 2) := by decide +kernel
theorem dL_law_1115 : decode cL_law 1115 = .ok (.iconst 1, 1) := by decide +kernel
theorem dL_law_1116 : decode cL_law 1116 = .ok (.iadd, 1) := by decide +kernel
theorem dL_law_1117 : decode cL_law 1117 = .ok (.iaload, 1) := by decide +kernel
theorem dL_law_1118 : decode cL_law 1118 = .ok (.aload_n 3, 1) := by decide +kernel
theorem dL_law_1119 : decode cL_law 1119 = .ok (.invokestatic 222, 3) := by decide +kernel
theorem dL_law_1122 : decode cL_law 1122 = .ok (.istore 5, 2) := by decide +kernel
theorem dL_law_1124 : decode cL_law 1124 = .ok (.aload_n 2, 1) := by decide +kernel
theorem dL_law_1125 : decode cL_law 1125 = .ok (.aload_n 0, 1) := by decide +kernel
theorem dL_law_1126 : decode cL_law 1126 = .ok (.iload 4, 2) := by decide +kernel
theorem dL_law_1128 : decode cL_law 1128 = .ok (.iconst 1, 1) := by decide +kernel
theorem dL_law_1129 : decode cL_law 1129 = .ok (.iadd, 1) := by decide +kernel
theorem dL_law_1130 : decode cL_law 1130 = .ok (.iaload, 1) := by decide +kernel
theorem dL_law_1131 : decode cL_law 1131 = .ok (.invokevirtual 224, 3) := by decide +kernel
theorem dL_law_1134 : decode cL_law 1134 = .ok (.istore 6, 2) := by decide +kernel
theorem dL_law_1136 : decode cL_law 1136 = .ok (.aload_n 2, 1) := by decide +kernel
theorem dL_law_1137 : decode cL_law 1137 = .ok (.invokevirtual 183, 3) := by decide +kernel
theorem dL_law_1140 : decode cL_law 1140 = .ok (.iload 5, 2) := by decide +kernel
theorem dL_law_1142 : decode cL_law 1142 = .ok (.if_icmp .eq 5, 3) := by decide +kernel
theorem dL_law_1145 : decode cL_law 1145 = .ok (.iconst 0, 1) := by decide +kernel
theorem dL_law_1146 : decode cL_law 1146 = .ok (.ireturn, 1) := by decide +kernel
theorem dL_law_1147 : decode cL_law 1147 = .ok (.iload 5, 2) := by decide +kernel
theorem dL_law_1149 : decode cL_law 1149 = .ok (.ifCond .ne 15, 3) := by decide +kernel
theorem dL_law_1152 : decode cL_law 1152 = .ok (.aload_n 3, 1) := by decide +kernel
theorem dL_law_1153 : decode cL_law 1153 = .ok (.iconst 0, 1) := by decide +kernel
theorem dL_law_1154 : decode cL_law 1154 = .ok (.laload, 1) := by decide +kernel
theorem dL_law_1155 : decode cL_law 1155 = .ok (.iload 6, 2) := by decide +kernel
theorem dL_law_1157 : decode cL_law 1157 = .ok (.i2l, 1) := by decide +kernel
theorem dL_law_1158 : decode cL_law 1158 = .ok (.lcmp, 1) := by decide +kernel
theorem dL_law_1159 : decode cL_law 1159 = .ok (.ifCond .eq 5, 3) := by decide +kernel
theorem dL_law_1162 : decode cL_law 1162 = .ok (.iconst 0, 1) := by decide +kernel
theorem dL_law_1163 : decode cL_law 1163 = .ok (.ireturn, 1) := by decide +kernel
theorem dL_law_1164 : decode cL_law 1164 = .ok (.goto 1984, 3) := by decide +kernel
theorem dL_law_1167 : decode cL_law 1167 = .ok (.aload_n 1, 1) := by decide +kernel
theorem dL_law_1168 : decode cL_law 1168 = .ok (.invokevirtual 225, 3) := by decide +kernel
theorem dL_law_1171 : decode cL_law 1171 = .ok (.aload_n 2, 1) := by decide +kernel
theorem dL_law_1172 : decode cL_law 1172 = .ok (.invokevirtual 228, 3) := by decide +kernel
theorem dL_law_1175 : decode cL_law 1175 = .ok (.if_icmp .eq 1973, 3) := by decide +kernel
theorem dL_law_1178 : decode cL_law 1178 = .ok (.iconst 0, 1) := by decide +kernel
theorem dL_law_1179 : decode cL_law 1179 = .ok (.ireturn, 1) := by decide +kernel
theorem dL_law_1180 : decode cL_law 1180 = .ok (.aload_n 1, 1) := by decide +kernel
theorem dL_law_1181 : decode cL_law 1181 = .ok (.aload_n 0, 1) := by decide +kernel
theorem dL_law_1182 : decode cL_law 1182 = .ok (.iload 4, 2) := by decide +kernel
theorem dL_law_1184 : decode cL_law 1184 = .ok (.iconst 1, 1) := by decide +kernel
theorem dL_law_1185 : decode cL_law 1185 = .ok (.iadd, 1) := by decide +kernel
theorem dL_law_1186 : decode cL_law 1186 = .ok (.iaload, 1) := by decide +kernel
theorem dL_law_1187 : decode cL_law 1187 = .ok (.aload_n 3, 1) := by decide +kernel
theorem dL_law_1188 : decode cL_law 1188 = .ok (.invokestatic 229, 3) := by decide +kernel
theorem dL_law_1191 : decode cL_law 1191 = .ok (.istore 5, 2) := by decide +kernel
theorem dL_law_1193 : decode cL_law 1193 = .ok (.aload_n 2, 1) := by decide +kernel
theorem dL_law_1194 : decode cL_law 1194 = .ok (.aload_n 0, 1) := by decide +kernel
theorem dL_law_1195 : decode cL_law 1195 = .ok (.iload 4, 2) := by decide +kernel
theorem dL_law_1197 : decode cL_law 1197 = .ok (.iconst 1, 1) := by decide +kernel
theorem dL_law_1198 : decode cL_law 1198 = .ok (.iadd, 1) := by decide +kernel
theorem dL_law_1199 : decode cL_law 1199 = .ok (.iaload, 1) := by decide +kernel
theorem dL_law_1200 : decode cL_law 1200 = .ok (.invokevirtual 231, 3) := by decide +kernel
theorem dL_law_1203 : decode cL_law 1203 = .ok (.istore 6, 2) := by decide +kernel
theorem dL_law_1205 : decode cL_law 1205 = .ok (.aload_n 2, 1) := by decide +kernel
theorem dL_law_1206 : decode cL_law 1206 = .ok (.invokevirtual 183, 3) := by decide +kernel
theorem dL_law_1209 : decode cL_law 1209 = .ok (.iload 5, 2) := by decide +kernel
theorem dL_law_1211 : decode cL_law 1211 = .ok (.if_icmp .eq 5, 3) := by decide +kernel
theorem dL_law_1214 : decode cL_law 1214 = .ok (.iconst 0, 1) := by decide +kernel
theorem dL_law_1215 : decode cL_law 1215 = .ok (.ireturn, 1) := by decide +kernel
theorem dL_law_1216 : decode cL_law 1216 = .ok (.iload 5, 2) := by decide +kernel
theorem dL_law_1218 : decode cL_law 1218 = .ok (.ifCond .ne 15, 3) := by decide +kernel
theorem dL_law_1221 : decode cL_law 1221 = .ok (.aload_n 3, 1) := by decide +kernel
theorem dL_law_1222 : decode cL_law 1222 = .ok (.iconst 0, 1) := by decide +kernel
theorem dL_law_1223 : decode cL_law 1223 = .ok (.laload, 1) := by decide +kernel
theorem dL_law_1224 : decode cL_law 1224 = .ok (.iload 6, 2) := by decide +kernel
theorem dL_law_1226 : decode cL_law 1226 = .ok (.i2l, 1) := by decide +kernel
theorem dL_law_1227 : decode cL_law 1227 = .ok (.lcmp, 1) := by decide +kernel
theorem dL_law_1228 : decode cL_law 1228 = .ok (.ifCond .eq 5, 3) := by decide +kernel
theorem dL_law_1231 : decode cL_law 1231 = .ok (.iconst 0, 1) := by decide +kernel
theorem dL_law_1232 : decode cL_law 1232 = .ok (.ireturn, 1) := by decide +kernel
theorem dL_law_1233 : decode cL_law 1233 = .ok (.goto 1915, 3) := by decide +kernel
theorem dL_law_1236 : decode cL_law 1236 = .ok (.aload_n 1, 1) := by decide +kernel
theorem dL_law_1237 : decode cL_law 1237 = .ok (.invokevirtual 232, 3) := by decide +kernel
theorem dL_law_1240 : decode cL_law 1240 = .ok (.aload_n 2, 1) := by decide +kernel
theorem dL_law_1241 : decode cL_law 1241 = .ok (.invokevirtual 235, 3) := by decide +kernel
theorem dL_law_1244 : decode cL_law 1244 = .ok (.if_icmp .eq 1904, 3) := by decide +kernel
theorem dL_law_1247 : decode cL_law 1247 = .ok (.iconst 0, 1) := by decide +kernel
theorem dL_law_1248 : decode cL_law 1248 = .ok (.ireturn, 1) := by decide +kernel
theorem dL_law_1249 : decode cL_law 1249 = .ok (.aload_n 1, 1) := by decide +kernel
theorem dL_law_1250 : decode cL_law 1250 = .ok (.invokevirtual 236, 3) := by decide +kernel
theorem dL_law_1253 : decode cL_law 1253 = .ok (.aload_n 2, 1) := by decide +kernel
theorem dL_law_1254 : decode cL_law 1254 = .ok (.invokevirtual 239, 3) := by decide +kernel
theorem dL_law_1257 : decode cL_law 1257 = .ok (.if_icmp .eq 1891, 3) := by decide +kernel
theorem dL_law_1260 : decode cL_law 1260 = .ok (.iconst 0, 1) := by decide +kernel
theorem dL_law_1261 : decode cL_law 1261 = .ok (.ireturn, 1) := by decide +kernel
theorem dL_law_1262 : decode cL_law 1262 = .ok (.aload_n 1, 1) := by decide +kernel
theorem dL_law_1263 : decode cL_law 1263 = .ok (.aload_n 0, 1) := by decide +kernel
theorem dL_law_1264 : decode cL_law 1264 = .ok (.iload 4, 2) := by decide +kernel
theorem dL_law_1266 : decode cL_law 1266 = .ok (.iconst 1, 1) := by decide +kernel
theorem dL_law_1267 : decode cL_law 1267 = .ok (.iadd, 1) := by decide +kernel
theorem dL_law_1268 : decode cL_law 1268 = .ok (.iaload, 1) := by decide +kernel
theorem dL_law_1269 : decode cL_law 1269 = .ok (.aload_n 3, 1) := by decide +kernel
theorem dL_law_1270 : decode cL_law 1270 = .ok (.invokestatic 240, 3) := by decide +kernel
theorem dL_law_1273 : decode cL_law 1273 = .ok (.istore 5, 2) := by decide +kernel
theorem dL_law_1275 : decode cL_law 1275 = .ok (.aload_n 2, 1) := by decide +kernel
theorem dL_law_1276 : decode cL_law 1276 = .ok (.aload_n 0, 1) := by decide +kernel
theorem dL_law_1277 : decode cL_law 1277 = .ok (.iload 4, 2) := by decide +kernel
theorem dL_law_1279 : decode cL_law 1279 = .ok (.iconst 1, 1) := by decide +kernel
theorem dL_law_1280 : decode cL_law 1280 = .ok (.iadd, 1) := by decide +kernel
theorem dL_law_1281 : decode cL_law 1281 = .ok (.iaload, 1) := by decide +kernel
theorem dL_law_1282 : decode cL_law 1282 = .ok (.invokevirtual 242, 3) := by decide +kernel
theorem dL_law_1285 : decode cL_law 1285 = .ok (.istore 6, 2) := by decide +kernel
theorem dL_law_1287 : decode cL_law 1287 = .ok (.aload_n 2, 1) := by decide +kernel
theorem dL_law_1288 : decode cL_law 1288 = .ok (.invokevirtual 183, 3) := by decide +kernel
theorem dL_law_1291 : decode cL_law 1291 = .ok (.iload 5, 2) := by decide +kernel
theorem dL_law_1293 : decode cL_law 1293 = .ok (.if_icmp .eq 5, 3) := by decide +kernel
theorem dL_law_1296 : decode cL_law 1296 = .ok (.iconst 0, 1) := by decide +kernel
theorem dL_law_1297 : decode cL_law 1297 = .ok (.ireturn, 1) := by decide +kernel
theorem dL_law_1298 : decode cL_law 1298 = .ok (.iload 5, 2) := by decide +kernel
theorem dL_law_1300 : decode cL_law 1300 = .ok (.ifCond .ne 15, 3) := by decide +kernel
theorem dL_law_1303 : decode cL_law 1303 = .ok (.aload_n 3, 1) := by decide +kernel
theorem dL_law_1304 : decode cL_law 1304 = .ok (.iconst 0, 1) := by decide +kernel
theorem dL_law_1305 : decode cL_law 1305 = .ok (.laload, 1) := by decide +kernel
theorem dL_law_1306 : decode cL_law 1306 = .ok (.iload 6, 2) := by decide +kernel
theorem dL_law_1308 : decode cL_law 1308 = .ok (.i2l, 1) := by decide +kernel
theorem dL_law_1309 : decode cL_law 1309 = .ok (.lcmp, 1) := by decide +kernel
theorem dL_law_1310 : decode cL_law 1310 = .ok (.ifCond .eq 5, 3) := by decide +kernel
theorem dL_law_1313 : decode cL_law 1313 = .ok (.iconst 0, 1) := by decide +kernel
theorem dL_law_1314 : decode cL_law 1314 = .ok (.ireturn, 1) := by decide +kernel
theorem dL_law_1315 : decode cL_law 1315 = .ok (.goto 1833, 3) := by decide +kernel
theorem dL_law_1318 : decode cL_law 1318 = .ok (.aload_n 1, 1) := by decide +kernel
theorem dL_law_1319 : decode cL_law 1319 = .ok (.aload_n 0, 1) := by decide +kernel
theorem dL_law_1320 : decode cL_law 1320 = .ok (.iload 4, 2) := by decide +kernel
theorem dL_law_1322 : decode cL_law 1322 = .ok (.iconst 1, 1) := by decide +kernel
theorem dL_law_1323 : decode cL_law 1323 = .ok (.iadd, 1) := by decide +kernel
theorem dL_law_1324 : decode cL_law 1324 = .ok (.iaload, 1) := by decide +kernel
theorem dL_law_1325 : decode cL_law 1325 = .ok (.aload_n 3, 1) := by decide +kernel
theorem dL_law_1326 : decode cL_law 1326 = .ok (.invokestatic 243, 3) := by decide +kernel
theorem dL_law_1329 : decode cL_law 1329 = .ok (.istore 5, 2) := by decide +kernel
theorem dL_law_1331 : decode cL_law 1331 = .ok (.aload_n 2, 1) := by decide +kernel
theorem dL_law_1332 : decode cL_law 1332 = .ok (.aload_n 0, 1) := by decide +kernel
theorem dL_law_1333 : decode cL_law 1333 = .ok (.iload 4, 2) := by decide +kernel
theorem dL_law_1335 : decode cL_law 1335 = .ok (.iconst 1, 1) := by decide +kernel
theorem dL_law_1336 : decode cL_law 1336 = .ok (.iadd, 1) := by decide +kernel
theorem dL_law_1337 : decode cL_law 1337 = .ok (.iaload, 1) := by decide +kernel
theorem dL_law_1338 : decode cL_law 1338 = .ok (.invokevirtual 245, 3) := by decide +kernel
theorem dL_law_1341 : decode cL_law 1341 = .ok (.istore 6, 2) := by decide +kernel
theorem dL_law_1343 : decode cL_law 1343 = .ok (.aload_n 2, 1) := by decide +kernel
theorem dL_law_1344 : decode cL_law 1344 = .ok (.invokevirtual 183, 3) := by decide +kernel
theorem dL_law_1347 : decode cL_law 1347 = .ok (.iload 5, 2) := by decide +kernel
theorem dL_law_1349 : decode cL_law 1349 = .ok (.if_icmp .eq 5, 3) := by decide +kernel
theorem dL_law_1352 : decode cL_law 1352 = .ok (.iconst 0, 1) := by decide +kernel
theorem dL_law_1353 : decode cL_law 1353 = .ok (.ireturn, 1) := by decide +kernel
theorem dL_law_1354 : decode cL_law 1354 = .ok (.iload 5, 2) := by decide +kernel
theorem dL_law_1356 : decode cL_law 1356 = .ok (.ifCond .ne 15, 3) := by decide +kernel
theorem dL_law_1359 : decode cL_law 1359 = .ok (.aload_n 3, 1) := by decide +kernel
theorem dL_law_1360 : decode cL_law 1360 = .ok (.iconst 0, 1) := by decide +kernel
theorem dL_law_1361 : decode cL_law 1361 = .ok (.laload, 1) := by decide +kernel
theorem dL_law_1362 : decode cL_law 1362 = .ok (.iload 6, 2) := by decide +kernel
theorem dL_law_1364 : decode cL_law 1364 = .ok (.i2l, 1) := by decide +kernel
theorem dL_law_1365 : decode cL_law 1365 = .ok (.lcmp, 1) := by decide +kernel
theorem dL_law_1366 : decode cL_law 1366 = .ok (.ifCond .eq 5, 3) := by decide +kernel
theorem dL_law_1369 : decode cL_law 1369 = .ok (.iconst 0, 1) := by decide +kernel
theorem dL_law_1370 : decode cL_law 1370 = .ok (.ireturn, 1) := by decide +kernel
theorem dL_law_1371 : decode cL_law 1371 = .ok (.goto 1777, 3) := by decide +kernel
theorem dL_law_1374 : decode cL_law 1374 = .ok (.aload_n 1, 1) := by decide +kernel
theorem dL_law_1375 : decode cL_law 1375 = .ok (.aload_n 0, 1) := by decide +kernel
theorem dL_law_1376 : decode cL_law 1376 = .ok (.iload 4, 2) := by decide +kernel
theorem dL_law_1378 : decode cL_law 1378 = .ok (.iconst 1, 1) := by decide +kernel
theorem dL_law_1379 : decode cL_law 1379 = .ok (.iadd, 1) := by decide +kernel
theorem dL_law_1380 : decode cL_law 1380 = .ok (.iaload, 1) := by decide +kernel
theorem dL_law_1381 : decode cL_law 1381 = .ok (.aload_n 3, 1) := by decide +kernel
theorem dL_law_1382 : decode cL_law 1382 = .ok (.invokestatic 246, 3) := by decide +kernel
theorem dL_law_1385 : decode cL_law 1385 = .ok (.istore 5, 2) := by decide +kernel
theorem dL_law_1387 : decode cL_law 1387 = .ok (.aload_n 2, 1) := by decide +kernel
theorem dL_law_1388 : decode cL_law 1388 = .ok (.aload_n 0, 1) := by decide +kernel
theorem dL_law_1389 : decode cL_law 1389 = .ok (.iload 4, 2) := by decide +kernel
theorem dL_law_1391 : decode cL_law 1391 = .ok (.iconst 1, 1) := by decide +kernel
theorem dL_law_1392 : decode cL_law 1392 = .ok (.iadd, 1) := by decide +kernel
theorem dL_law_1393 : decode cL_law 1393 = .ok (.iaload, 1) := by decide +kernel
theorem dL_law_1394 : decode cL_law 1394 = .ok (.invokevirtual 248, 3) := by decide +kernel
theorem dL_law_1397 : decode cL_law 1397 = .ok (.istore 6, 2) := by decide +kernel
theorem dL_law_1399 : decode cL_law 1399 = .ok (.aload_n 2, 1) := by decide +kernel
theorem dL_law_1400 : decode cL_law 1400 = .ok (.invokevirtual 183, 3) := by decide +kernel
theorem dL_law_1403 : decode cL_law 1403 = .ok (.iload 5, 2) := by decide +kernel
theorem dL_law_1405 : decode cL_law 1405 = .ok (.if_icmp .eq 5, 3) := by decide +kernel
theorem dL_law_1408 : decode cL_law 1408 = .ok (.iconst 0, 1) := by decide +kernel
theorem dL_law_1409 : decode cL_law 1409 = .ok (.ireturn, 1) := by decide +kernel
theorem dL_law_1410 : decode cL_law 1410 = .ok (.iload 5, 2) := by decide +kernel
theorem dL_law_1412 : decode cL_law 1412 = .ok (.ifCond .ne 15, 3) := by decide +kernel
theorem dL_law_1415 : decode cL_law 1415 = .ok (.aload_n 3, 1) := by decide +kernel
theorem dL_law_1416 : decode cL_law 1416 = .ok (.iconst 0, 1) := by decide +kernel
theorem dL_law_1417 : decode cL_law 1417 = .ok (.laload, 1) := by decide +kernel
theorem dL_law_1418 : decode cL_law 1418 = .ok (.iload 6, 2) := by decide +kernel
theorem dL_law_1420 : decode cL_law 1420 = .ok (.i2l, 1) := by decide +kernel
theorem dL_law_1421 : decode cL_law 1421 = .ok (.lcmp, 1) := by decide +kernel
theorem dL_law_1422 : decode cL_law 1422 = .ok (.ifCond .eq 5, 3) := by decide +kernel
theorem dL_law_1425 : decode cL_law 1425 = .ok (.iconst 0, 1) := by decide +kernel
theorem dL_law_1426 : decode cL_law 1426 = .ok (.ireturn, 1) := by decide +kernel
theorem dL_law_1427 : decode cL_law 1427 = .ok (.goto 1721, 3) := by decide +kernel
theorem dL_law_1430 : decode cL_law 1430 = .ok (.aload_n 1, 1) := by decide +kernel
theorem dL_law_1431 : decode cL_law 1431 = .ok (.aload_n 0, 1) := by decide +kernel
theorem dL_law_1432 : decode cL_law 1432 = .ok (.iload 4, 2) := by decide +kernel
theorem dL_law_1434 : decode cL_law 1434 = .ok (.iconst 1, 1) := by decide +kernel
theorem dL_law_1435 : decode cL_law 1435 = .ok (.iadd, 1) := by decide +kernel
theorem dL_law_1436 : decode cL_law 1436 = .ok (.iaload, 1) := by decide +kernel
theorem dL_law_1437 : decode cL_law 1437 = .ok (.aload_n 3, 1) := by decide +kernel
theorem dL_law_1438 : decode cL_law 1438 = .ok (.invokestatic 249, 3) := by decide +kernel
theorem dL_law_1441 : decode cL_law 1441 = .ok (.istore 5, 2) := by decide +kernel
theorem dL_law_1443 : decode cL_law 1443 = .ok (.aload_n 2, 1) := by decide +kernel
theorem dL_law_1444 : decode cL_law 1444 = .ok (.aload_n 0, 1) := by decide +kernel
theorem dL_law_1445 : decode cL_law 1445 = .ok (.iload 4, 2) := by decide +kernel
theorem dL_law_1447 : decode cL_law 1447 = .ok (.iconst 1, 1) := by decide +kernel
theorem dL_law_1448 : decode cL_law 1448 = .ok (.iadd, 1) := by decide +kernel
theorem dL_law_1449 : decode cL_law 1449 = .ok (.iaload, 1) := by decide +kernel
theorem dL_law_1450 : decode cL_law 1450 = .ok (.invokevirtual 251, 3) := by decide +kernel
theorem dL_law_1453 : decode cL_law 1453 = .ok (.istore 6, 2) := by decide +kernel
theorem dL_law_1455 : decode cL_law 1455 = .ok (.aload_n 2, 1) := by decide +kernel
theorem dL_law_1456 : decode cL_law 1456 = .ok (.invokevirtual 183, 3) := by decide +kernel
theorem dL_law_1459 : decode cL_law 1459 = .ok (.iload 5, 2) := by decide +kernel
theorem dL_law_1461 : decode cL_law 1461 = .ok (.if_icmp .eq 5, 3) := by decide +kernel
theorem dL_law_1464 : decode cL_law 1464 = .ok (.iconst 0, 1) := by decide +kernel
theorem dL_law_1465 : decode cL_law 1465 = .ok (.ireturn, 1) := by decide +kernel
theorem dL_law_1466 : decode cL_law 1466 = .ok (.iload 5, 2) := by decide +kernel
theorem dL_law_1468 : decode cL_law 1468 = .ok (.ifCond .ne 15, 3) := by decide +kernel
theorem dL_law_1471 : decode cL_law 1471 = .ok (.aload_n 3, 1) := by decide +kernel
theorem dL_law_1472 : decode cL_law 1472 = .ok (.iconst 0, 1) := by decide +kernel
theorem dL_law_1473 : decode cL_law 1473 = .ok (.laload, 1) := by decide +kernel
theorem dL_law_1474 : decode cL_law 1474 = .ok (.iload 6, 2) := by decide +kernel
theorem dL_law_1476 : decode cL_law 1476 = .ok (.i2l, 1) := by decide +kernel
theorem dL_law_1477 : decode cL_law 1477 = .ok (.lcmp, 1) := by decide +kernel
theorem dL_law_1478 : decode cL_law 1478 = .ok (.ifCond .eq 5, 3) := by decide +kernel
theorem dL_law_1481 : decode cL_law 1481 = .ok (.iconst 0, 1) := by decide +kernel
theorem dL_law_1482 : decode cL_law 1482 = .ok (.ireturn, 1) := by decide +kernel
theorem dL_law_1483 : decode cL_law 1483 = .ok (.goto 1665, 3) := by decide +kernel
theorem dL_law_1486 : decode cL_law 1486 = .ok (.aload_n 1, 1) := by decide +kernel
theorem dL_law_1487 : decode cL_law 1487 = .ok (.aload_n 0, 1) := by decide +kernel
theorem dL_law_1488 : decode cL_law 1488 = .ok (.iload 4, 2) := by decide +kernel
theorem dL_law_1490 : decode cL_law 1490 = .ok (.iconst 1, 1) := by decide +kernel
theorem dL_law_1491 : decode cL_law 1491 = .ok (.iadd, 1) := by decide +kernel
theorem dL_law_1492 : decode cL_law 1492 = .ok (.iaload, 1) := by decide +kernel
theorem dL_law_1493 : decode cL_law 1493 = .ok (.aload_n 3, 1) := by decide +kernel
theorem dL_law_1494 : decode cL_law 1494 = .ok (.invokestatic 252, 3) := by decide +kernel
theorem dL_law_1497 : decode cL_law 1497 = .ok (.istore 5, 2) := by decide +kernel
theorem dL_law_1499 : decode cL_law 1499 = .ok (.aload_n 2, 1) := by decide +kernel
theorem dL_law_1500 : decode cL_law 1500 = .ok (.aload_n 0, 1) := by decide +kernel
theorem dL_law_1501 : decode cL_law 1501 = .ok (.iload 4, 2) := by decide +kernel
theorem dL_law_1503 : decode cL_law 1503 = .ok (.iconst 1, 1) := by decide +kernel
theorem dL_law_1504 : decode cL_law 1504 = .ok (.iadd, 1) := by decide +kernel
theorem dL_law_1505 : decode cL_law 1505 = .ok (.iaload, 1) := by decide +kernel
theorem dL_law_1506 : decode cL_law 1506 = .ok (.invokevirtual 254, 3) := by decide +kernel
theorem dL_law_1509 : decode cL_law 1509 = .ok (.istore 6, 2) := by decide +kernel
theorem dL_law_1511 : decode cL_law 1511 = .ok (.aload_n 2, 1) := by decide +kernel
theorem dL_law_1512 : decode cL_law 1512 = .ok (.invokevirtual 183, 3) := by decide +kernel
theorem dL_law_1515 : decode cL_law 1515 = .ok (.iload 5, 2) := by decide +kernel
theorem dL_law_1517 : decode cL_law 1517 = .ok (.if_icmp .eq 5, 3) := by decide +kernel
theorem dL_law_1520 : decode cL_law 1520 = .ok (.iconst 0, 1) := by decide +kernel
theorem dL_law_1521 : decode cL_law 1521 = .ok (.ireturn, 1) := by decide +kernel
theorem dL_law_1522 : decode cL_law 1522 = .ok (.iload 5, 2) := by decide +kernel
theorem dL_law_1524 : decode cL_law 1524 = .ok (.ifCond .ne 15, 3) := by decide +kernel
theorem dL_law_1527 : decode cL_law 1527 = .ok (.aload_n 3, 1) := by decide +kernel
theorem dL_law_1528 : decode cL_law 1528 = .ok (.iconst 0, 1) := by decide +kernel
theorem dL_law_1529 : decode cL_law 1529 = .ok (.laload, 1) := by decide +kernel
theorem dL_law_1530 : decode cL_law 1530 = .ok (.iload 6, 2) := by decide +kernel
theorem dL_law_1532 : decode cL_law 1532 = .ok (.i2l, 1) := by decide +kernel
theorem dL_law_1533 : decode cL_law 1533 = .ok (.lcmp, 1) := by decide +kernel
theorem dL_law_1534 : decode cL_law 1534 = .ok (.ifCond .eq 5, 3) := by decide +kernel
theorem dL_law_1537 : decode cL_law 1537 = .ok (.iconst 0, 1) := by decide +kernel
theorem dL_law_1538 : decode cL_law 1538 = .ok (.ireturn, 1) := by decide +kernel
theorem dL_law_1539 : decode cL_law 1539 = .ok (.goto 1609, 3) := by decide +kernel
theorem dL_law_1542 : decode cL_law 1542 = .ok (.aload_n 1, 1) := by decide +kernel
theorem dL_law_1543 : decode cL_law 1543 = .ok (.aload_n 0, 1) := by decide +kernel
theorem dL_law_1544 : decode cL_law 1544 = .ok (.iload 4, 2) := by decide +kernel
theorem dL_law_1546 : decode cL_law 1546 = .ok (.iconst 1, 1) := by decide +kernel
theorem dL_law_1547 : decode cL_law 1547 = .ok (.iadd, 1) := by decide +kernel
theorem dL_law_1548 : decode cL_law 1548 = .ok (.iaload, 1) := by decide +kernel
theorem dL_law_1549 : decode cL_law 1549 = .ok (.aload_n 3, 1) := by decide +kernel
theorem dL_law_1550 : decode cL_law 1550 = .ok (.invokestatic 255, 3) := by decide +kernel
theorem dL_law_1553 : decode cL_law 1553 = .ok (.istore 5, 2) := by decide +kernel
theorem dL_law_1555 : decode cL_law 1555 = .ok (.aload_n 2, 1) := by decide +kernel
theorem dL_law_1556 : decode cL_law 1556 = .ok (.aload_n 0, 1) := by decide +kernel
theorem dL_law_1557 : decode cL_law 1557 = .ok (.iload 4, 2) := by decide +kernel
theorem dL_law_1559 : decode cL_law 1559 = .ok (.iconst 1, 1) := by decide +kernel
theorem dL_law_1560 : decode cL_law 1560 = .ok (.iadd, 1) := by decide +kernel
theorem dL_law_1561 : decode cL_law 1561 = .ok (.iaload, 1) := by decide +kernel
theorem dL_law_1562 : decode cL_law 1562 = .ok (.invokevirtual 257, 3) := by decide +kernel
theorem dL_law_1565 : decode cL_law 1565 = .ok (.istore 6, 2) := by decide +kernel
theorem dL_law_1567 : decode cL_law 1567 = .ok (.aload_n 2, 1) := by decide +kernel
theorem dL_law_1568 : decode cL_law 1568 = .ok (.invokevirtual 183, 3) := by decide +kernel
theorem dL_law_1571 : decode cL_law 1571 = .ok (.iload 5, 2) := by decide +kernel
theorem dL_law_1573 : decode cL_law 1573 = .ok (.if_icmp .eq 5, 3) := by decide +kernel
theorem dL_law_1576 : decode cL_law 1576 = .ok (.iconst 0, 1) := by decide +kernel
theorem dL_law_1577 : decode cL_law 1577 = .ok (.ireturn, 1) := by decide +kernel
theorem dL_law_1578 : decode cL_law 1578 = .ok (.iload 5, 2) := by decide +kernel
theorem dL_law_1580 : decode cL_law 1580 = .ok (.ifCond .ne 15, 3) := by decide +kernel
theorem dL_law_1583 : decode cL_law 1583 = .ok (.aload_n 3, 1) := by decide +kernel
theorem dL_law_1584 : decode cL_law 1584 = .ok (.iconst 0, 1) := by decide +kernel
theorem dL_law_1585 : decode cL_law 1585 = .ok (.laload, 1) := by decide +kernel
theorem dL_law_1586 : decode cL_law 1586 = .ok (.iload 6, 2) := by decide +kernel
theorem dL_law_1588 : decode cL_law 1588 = .ok (.i2l, 1) := by decide +kernel
theorem dL_law_1589 : decode cL_law 1589 = .ok (.lcmp, 1) := by decide +kernel
theorem dL_law_1590 : decode cL_law 1590 = .ok (.ifCond .eq 5, 3) := by decide +kernel
theorem dL_law_1593 : decode cL_law 1593 = .ok (.iconst 0, 1) := by decide +kernel
theorem dL_law_1594 : decode cL_law 1594 = .ok (.ireturn, 1) := by decide +kernel
theorem dL_law_1595 : decode cL_law 1595 = .ok (.goto 1553, 3) := by decide +kernel
theorem dL_law_1598 : decode cL_law 1598 = .ok (.aload_n 1, 1) := by decide +kernel
theorem dL_law_1599 : decode cL_law 1599 = .ok (.aload_n 0, 1) := by decide +kernel
theorem dL_law_1600 : decode cL_law 1600 = .ok (.iload 4, 2) := by decide +kernel
theorem dL_law_1602 : decode cL_law 1602 = .ok (.iconst 1, 1) := by decide +kernel
theorem dL_law_1603 : decode cL_law 1603 = .ok (.iadd, 1) := by decide +kernel
theorem dL_law_1604 : decode cL_law 1604 = .ok (.iaload, 1) := by decide +kernel
theorem dL_law_1605 : decode cL_law 1605 = .ok (.aload_n 0, 1) := by decide +kernel
theorem dL_law_1606 : decode cL_law 1606 = .ok (.iload 4, 2) := by decide +kernel
theorem dL_law_1608 : decode cL_law 1608 = .ok (.iconst 2, 1) := by decide +kernel
theorem dL_law_1609 : decode cL_law 1609 = .ok (.iadd, 1) := by decide +kernel
theorem dL_law_1610 : decode cL_law 1610 = .ok (.iaload, 1) := by decide +kernel
theorem dL_law_1611 : decode cL_law 1611 = .ok (.aload_n 3, 1) := by decide +kernel
theorem dL_law_1612 : decode cL_law 1612 = .ok (.invokestatic 258, 3) := by decide +kernel
theorem dL_law_1615 : decode cL_law 1615 = .ok (.istore 5, 2) := by decide +kernel
theorem dL_law_1617 : decode cL_law 1617 = .ok (.aload_n 2, 1) := by decide +kernel
theorem dL_law_1618 : decode cL_law 1618 = .ok (.aload_n 0, 1) := by decide +kernel
theorem dL_law_1619 : decode cL_law 1619 = .ok (.iload 4, 2) := by decide +kernel
theorem dL_law_1621 : decode cL_law 1621 = .ok (.iconst 1, 1) := by decide +kernel
theorem dL_law_1622 : decode cL_law 1622 = .ok (.iadd, 1) := by decide +kernel
theorem dL_law_1623 : decode cL_law 1623 = .ok (.iaload, 1) := by decide +kernel
theorem dL_law_1624 : decode cL_law 1624 = .ok (.aload_n 0, 1) := by decide +kernel
theorem dL_law_1625 : decode cL_law 1625 = .ok (.iload 4, 2) := by decide +kernel
theorem dL_law_1627 : decode cL_law 1627 = .ok (.iconst 2, 1) := by decide +kernel
theorem dL_law_1628 : decode cL_law 1628 = .ok (.iadd, 1) := by decide +kernel
theorem dL_law_1629 : decode cL_law 1629 = .ok (.iaload, 1) := by decide +kernel
theorem dL_law_1630 : decode cL_law 1630 = .ok (.invokevirtual 260, 3) := by decide +kernel
theorem dL_law_1633 : decode cL_law 1633 = .ok (.istore 6, 2) := by decide +kernel
theorem dL_law_1635 : decode cL_law 1635 = .ok (.aload_n 2, 1) := by decide +kernel
theorem dL_law_1636 : decode cL_law 1636 = .ok (.invokevirtual 183, 3) := by decide +kernel
theorem dL_law_1639 : decode cL_law 1639 = .ok (.iload 5, 2) := by decide +kernel
theorem dL_law_1641 : decode cL_law 1641 = .ok (.if_icmp .eq 5, 3) := by decide +kernel
theorem dL_law_1644 : decode cL_law 1644 = .ok (.iconst 0, 1) := by decide +kernel
theorem dL_law_1645 : decode cL_law 1645 = .ok (.ireturn, 1) := by decide +kernel
theorem dL_law_1646 : decode cL_law 1646 = .ok (.iload 5, 2) := by decide +kernel
theorem dL_law_1648 : decode cL_law 1648 = .ok (.ifCond .ne 15, 3) := by decide +kernel
theorem dL_law_1651 : decode cL_law 1651 = .ok (.aload_n 3, 1) := by decide +kernel
theorem dL_law_1652 : decode cL_law 1652 = .ok (.iconst 0, 1) := by decide +kernel
theorem dL_law_1653 : decode cL_law 1653 = .ok (.laload, 1) := by decide +kernel
theorem dL_law_1654 : decode cL_law 1654 = .ok (.iload 6, 2) := by decide +kernel
theorem dL_law_1656 : decode cL_law 1656 = .ok (.i2l, 1) := by decide +kernel
theorem dL_law_1657 : decode cL_law 1657 = .ok (.lcmp, 1) := by decide +kernel
theorem dL_law_1658 : decode cL_law 1658 = .ok (.ifCond .eq 5, 3) := by decide +kernel
theorem dL_law_1661 : decode cL_law 1661 = .ok (.iconst 0, 1) := by decide +kernel
theorem dL_law_1662 : decode cL_law 1662 = .ok (.ireturn, 1) := by decide +kernel
theorem dL_law_1663 : decode cL_law 1663 = .ok (.goto 1485, 3) := by decide +kernel
theorem dL_law_1666 : decode cL_law 1666 = .ok (.aload_n 1, 1) := by decide +kernel
theorem dL_law_1667 : decode cL_law 1667 = .ok (.aload_n 0, 1) := by decide +kernel
theorem dL_law_1668 : decode cL_law 1668 = .ok (.iload 4, 2) := by decide +kernel
theorem dL_law_1670 : decode cL_law 1670 = .ok (.iconst 1, 1) := by decide +kernel
theorem dL_law_1671 : decode cL_law 1671 = .ok (.iadd, 1) := by decide +kernel
theorem dL_law_1672 : decode cL_law 1672 = .ok (.iaload, 1) := by decide +kernel
theorem dL_law_1673 : decode cL_law 1673 = .ok (.aload_n 0, 1) := by decide +kernel
theorem dL_law_1674 : decode cL_law 1674 = .ok (.iload 4, 2) := by decide +kernel
theorem dL_law_1676 : decode cL_law 1676 = .ok (.iconst 2, 1) := by decide +kernel
theorem dL_law_1677 : decode cL_law 1677 = .ok (.iadd, 1) := by decide +kernel
theorem dL_law_1678 : decode cL_law 1678 = .ok (.iaload, 1) := by decide +kernel
theorem dL_law_1679 : decode cL_law 1679 = .ok (.aload_n 3, 1) := by decide +kernel
theorem dL_law_1680 : decode cL_law 1680 = .ok (.invokestatic 261, 3) := by decide +kernel
theorem dL_law_1683 : decode cL_law 1683 = .ok (.istore 5, 2) := by decide +kernel
theorem dL_law_1685 : decode cL_law 1685 = .ok (.aload_n 2, 1) := by decide +kernel
theorem dL_law_1686 : decode cL_law 1686 = .ok (.aload_n 0, 1) := by decide +kernel
theorem dL_law_1687 : decode cL_law 1687 = .ok (.iload 4, 2) := by decide +kernel
theorem dL_law_1689 : decode cL_law 1689 = .ok (.iconst 1, 1) := by decide +kernel
theorem dL_law_1690 : decode cL_law 1690 = .ok (.iadd, 1) := by decide +kernel
theorem dL_law_1691 : decode cL_law 1691 = .ok (.iaload, 1) := by decide +kernel
theorem dL_law_1692 : decode cL_law 1692 = .ok (.aload_n 0, 1) := by decide +kernel
theorem dL_law_1693 : decode cL_law 1693 = .ok (.iload 4, 2) := by decide +kernel
theorem dL_law_1695 : decode cL_law 1695 = .ok (.iconst 2, 1) := by decide +kernel
theorem dL_law_1696 : decode cL_law 1696 = .ok (.iadd, 1) := by decide +kernel
theorem dL_law_1697 : decode cL_law 1697 = .ok (.iaload, 1) := by decide +kernel
theorem dL_law_1698 : decode cL_law 1698 = .ok (.invokevirtual 263, 3) := by decide +kernel
theorem dL_law_1701 : decode cL_law 1701 = .ok (.istore 6, 2) := by decide +kernel
theorem dL_law_1703 : decode cL_law 1703 = .ok (.aload_n 2, 1) := by decide +kernel
theorem dL_law_1704 : decode cL_law 1704 = .ok (.invokevirtual 183, 3) := by decide +kernel
theorem dL_law_1707 : decode cL_law 1707 = .ok (.iload 5, 2) := by decide +kernel
theorem dL_law_1709 : decode cL_law 1709 = .ok (.if_icmp .eq 5, 3) := by decide +kernel
theorem dL_law_1712 : decode cL_law 1712 = .ok (.iconst 0, 1) := by decide +kernel
theorem dL_law_1713 : decode cL_law 1713 = .ok (.ireturn, 1) := by decide +kernel
theorem dL_law_1714 : decode cL_law 1714 = .ok (.iload 5, 2) := by decide +kernel
theorem dL_law_1716 : decode cL_law 1716 = .ok (.ifCond .ne 15, 3) := by decide +kernel
theorem dL_law_1719 : decode cL_law 1719 = .ok (.aload_n 3, 1) := by decide +kernel
theorem dL_law_1720 : decode cL_law 1720 = .ok (.iconst 0, 1) := by decide +kernel
theorem dL_law_1721 : decode cL_law 1721 = .ok (.laload, 1) := by decide +kernel
theorem dL_law_1722 : decode cL_law 1722 = .ok (.iload 6, 2) := by decide +kernel
theorem dL_law_1724 : decode cL_law 1724 = .ok (.i2l, 1) := by decide +kernel
theorem dL_law_1725 : decode cL_law 1725 = .ok (.lcmp, 1) := by decide +kernel
theorem dL_law_1726 : decode cL_law 1726 = .ok (.ifCond .eq 5, 3) := by decide +kernel
theorem dL_law_1729 : decode cL_law 1729 = .ok (.iconst 0, 1) := by decide +kernel
theorem dL_law_1730 : decode cL_law 1730 = .ok (.ireturn, 1) := by decide +kernel
theorem dL_law_1731 : decode cL_law 1731 = .ok (.goto 1417, 3) := by decide +kernel
theorem dL_law_1734 : decode cL_law 1734 = .ok (.aload_n 1, 1) := by decide +kernel
theorem dL_law_1735 : decode cL_law 1735 = .ok (.aload_n 0, 1) := by decide +kernel
theorem dL_law_1736 : decode cL_law 1736 = .ok (.iload 4, 2) := by decide +kernel
theorem dL_law_1738 : decode cL_law 1738 = .ok (.iconst 1, 1) := by decide +kernel
theorem dL_law_1739 : decode cL_law 1739 = .ok (.iadd, 1) := by decide +kernel
theorem dL_law_1740 : decode cL_law 1740 = .ok (.iaload, 1) := by decide +kernel
theorem dL_law_1741 : decode cL_law 1741 = .ok (.aload_n 3, 1) := by decide +kernel
theorem dL_law_1742 : decode cL_law 1742 = .ok (.invokestatic 264, 3) := by decide +kernel
theorem dL_law_1745 : decode cL_law 1745 = .ok (.istore 5, 2) := by decide +kernel
theorem dL_law_1747 : decode cL_law 1747 = .ok (.aload_n 2, 1) := by decide +kernel
theorem dL_law_1748 : decode cL_law 1748 = .ok (.aload_n 0, 1) := by decide +kernel
theorem dL_law_1749 : decode cL_law 1749 = .ok (.iload 4, 2) := by decide +kernel
theorem dL_law_1751 : decode cL_law 1751 = .ok (.iconst 1, 1) := by decide +kernel
theorem dL_law_1752 : decode cL_law 1752 = .ok (.iadd, 1) := by decide +kernel
theorem dL_law_1753 : decode cL_law 1753 = .ok (.iaload, 1) := by decide +kernel
theorem dL_law_1754 : decode cL_law 1754 = .ok (.invokevirtual 266, 3) := by decide +kernel
theorem dL_law_1757 : decode cL_law 1757 = .ok (.istore 6, 2) := by decide +kernel
theorem dL_law_1759 : decode cL_law 1759 = .ok (.aload_n 2, 1) := by decide +kernel
theorem dL_law_1760 : decode cL_law 1760 = .ok (.invokevirtual 183, 3) := by decide +kernel
theorem dL_law_1763 : decode cL_law 1763 = .ok (.iload 5, 2) := by decide +kernel
theorem dL_law_1765 : decode cL_law 1765 = .ok (.if_icmp .eq 5, 3) := by decide +kernel
theorem dL_law_1768 : decode cL_law 1768 = .ok (.iconst 0, 1) := by decide +kernel
theorem dL_law_1769 : decode cL_law 1769 = .ok (.ireturn, 1) := by decide +kernel
theorem dL_law_1770 : decode cL_law 1770 = .ok (.iload 5, 2) := by decide +kernel
theorem dL_law_1772 : decode cL_law 1772 = .ok (.ifCond .ne 15, 3) := by decide +kernel
theorem dL_law_1775 : decode cL_law 1775 = .ok (.aload_n 3, 1) := by decide +kernel
theorem dL_law_1776 : decode cL_law 1776 = .ok (.iconst 0, 1) := by decide +kernel
theorem dL_law_1777 : decode cL_law 1777 = .ok (.laload, 1) := by decide +kernel
theorem dL_law_1778 : decode cL_law 1778 = .ok (.iload 6, 2) := by decide +kernel
theorem dL_law_1780 : decode cL_law 1780 = .ok (.i2l, 1) := by decide +kernel
theorem dL_law_1781 : decode cL_law 1781 = .ok (.lcmp, 1) := by decide +kernel
theorem dL_law_1782 : decode cL_law 1782 = .ok (.ifCond .eq 5, 3) := by decide +kernel
theorem dL_law_1785 : decode cL_law 1785 = .ok (.iconst 0, 1) := by decide +kernel
theorem dL_law_1786 : decode cL_law 1786 = .ok (.ireturn, 1) := by decide +kernel
theorem dL_law_1787 : decode cL_law 1787 = .ok (.goto 1361, 3) := by decide +kernel
theorem dL_law_1790 : decode cL_law 1790 = .ok (.aload_n 1, 1) := by decide +kernel
theorem dL_law_1791 : decode cL_law 1791 = .ok (.aload_n 0, 1) := by decide +kernel
theorem dL_law_1792 : decode cL_law 1792 = .ok (.iload 4, 2) := by decide +kernel
theorem dL_law_1794 : decode cL_law 1794 = .ok (.iconst 1, 1) := by decide +kernel
theorem dL_law_1795 : decode cL_law 1795 = .ok (.iadd, 1) := by decide +kernel
theorem dL_law_1796 : decode cL_law 1796 = .ok (.iaload, 1) := by decide +kernel
theorem dL_law_1797 : decode cL_law 1797 = .ok (.aload_n 3, 1) := by decide +kernel
theorem dL_law_1798 : decode cL_law 1798 = .ok (.invokestatic 267, 3) := by decide +kernel
theorem dL_law_1801 : decode cL_law 1801 = .ok (.istore 5, 2) := by decide +kernel
theorem dL_law_1803 : decode cL_law 1803 = .ok (.aload_n 2, 1) := by decide +kernel
theorem dL_law_1804 : decode cL_law 1804 = .ok (.aload_n 0, 1) := by decide +kernel
theorem dL_law_1805 : decode cL_law 1805 = .ok (.iload 4, 2) := by decide +kernel
theorem dL_law_1807 : decode cL_law 1807 = .ok (.iconst 1, 1) := by decide +kernel
theorem dL_law_1808 : decode cL_law 1808 = .ok (.iadd, 1) := by decide +kernel
theorem dL_law_1809 : decode cL_law 1809 = .ok (.iaload, 1) := by decide +kernel
theorem dL_law_1810 : decode cL_law 1810 = .ok (.invokevirtual 269, 3) := by decide +kernel
theorem dL_law_1813 : decode cL_law 1813 = .ok (.istore 6, 2) := by decide +kernel
theorem dL_law_1815 : decode cL_law 1815 = .ok (.aload_n 2, 1) := by decide +kernel
theorem dL_law_1816 : decode cL_law 1816 = .ok (.invokevirtual 183, 3) := by decide +kernel
theorem dL_law_1819 : decode cL_law 1819 = .ok (.iload 5, 2) := by decide +kernel
theorem dL_law_1821 : decode cL_law 1821 = .ok (.if_icmp .eq 5, 3) := by decide +kernel
theorem dL_law_1824 : decode cL_law 1824 = .ok (.iconst 0, 1) := by decide +kernel
theorem dL_law_1825 : decode cL_law 1825 = .ok (.ireturn, 1) := by decide +kernel
theorem dL_law_1826 : decode cL_law 1826 = .ok (.iload 5, 2) := by decide +kernel
theorem dL_law_1828 : decode cL_law 1828 = .ok (.ifCond .ne 15, 3) := by decide +kernel
theorem dL_law_1831 : decode cL_law 1831 = .ok (.aload_n 3, 1) := by decide +kernel
theorem dL_law_1832 : decode cL_law 1832 = .ok (.iconst 0, 1) := by decide +kernel
theorem dL_law_1833 : decode cL_law 1833 = .ok (.laload, 1) := by decide +kernel
theorem dL_law_1834 : decode cL_law 1834 = .ok (.iload 6, 2) := by decide +kernel
theorem dL_law_1836 : decode cL_law 1836 = .ok (.i2l, 1) := by decide +kernel
theorem dL_law_1837 : decode cL_law 1837 = .ok (.lcmp, 1) := by decide +kernel
theorem dL_law_1838 : decode cL_law 1838 = .ok (.ifCond .eq 5, 3) := by decide +kernel
theorem dL_law_1841 : decode cL_law 1841 = .ok (.iconst 0, 1) := by decide +kernel
theorem dL_law_1842 : decode cL_law 1842 = .ok (.ireturn, 1) := by decide +kernel
theorem dL_law_1843 : decode cL_law 1843 = .ok (.goto 1305, 3) := by decide +kernel
theorem dL_law_1846 : decode cL_law 1846 = .ok (.aload_n 1, 1) := by decide +kernel
theorem dL_law_1847 : decode cL_law 1847 = .ok (.aload_n 0, 1) := by decide +kernel
theorem dL_law_1848 : decode cL_law 1848 = .ok (.iload 4, 2) := by decide +kernel
theorem dL_law_1850 : decode cL_law 1850 = .ok (.iconst 1, 1) := by decide +kernel
theorem dL_law_1851 : decode cL_law 1851 = .ok (.iadd, 1) := by decide +kernel
theorem dL_law_1852 : decode cL_law 1852 = .ok (.iaload, 1) := by decide +kernel
theorem dL_law_1853 : decode cL_law 1853 = .ok (.aload_n 3, 1) := by decide +kernel
theorem dL_law_1854 : decode cL_law 1854 = .ok (.invokestatic 270, 3) := by decide +kernel
theorem dL_law_1857 : decode cL_law 1857 = .ok (.istore 5, 2) := by decide +kernel
theorem dL_law_1859 : decode cL_law 1859 = .ok (.aload_n 2, 1) := by decide +kernel
theorem dL_law_1860 : decode cL_law 1860 = .ok (.aload_n 0, 1) := by decide +kernel
theorem dL_law_1861 : decode cL_law 1861 = .ok (.iload 4, 2) := by decide +kernel
theorem dL_law_1863 : decode cL_law 1863 = .ok (.iconst 1, 1) := by decide +kernel
theorem dL_law_1864 : decode cL_law 1864 = .ok (.iadd, 1) := by decide +kernel
theorem dL_law_1865 : decode cL_law 1865 = .ok (.iaload, 1) := by decide +kernel
theorem dL_law_1866 : decode cL_law 1866 = .ok (.invokevirtual 272, 3) := by decide +kernel
theorem dL_law_1869 : decode cL_law 1869 = .ok (.istore 6, 2) := by decide +kernel
theorem dL_law_1871 : decode cL_law 1871 = .ok (.aload_n 2, 1) := by decide +kernel
theorem dL_law_1872 : decode cL_law 1872 = .ok (.invokevirtual 183, 3) := by decide +kernel
theorem dL_law_1875 : decode cL_law 1875 = .ok (.iload 5, 2) := by decide +kernel
theorem dL_law_1877 : decode cL_law 1877 = .ok (.if_icmp .eq 5, 3) := by decide +kernel
theorem dL_law_1880 : decode cL_law 1880 = .ok (.iconst 0, 1) := by decide +kernel
theorem dL_law_1881 : decode cL_law 1881 = .ok (.ireturn, 1) := by decide +kernel
theorem dL_law_1882 : decode cL_law 1882 = .ok (.iload 5, 2) := by decide +kernel
theorem dL_law_1884 : decode cL_law 1884 = .ok (.ifCond .ne 15, 3) := by decide +kernel
theorem dL_law_1887 : decode cL_law 1887 = .ok (.aload_n 3, 1) := by decide +kernel
theorem dL_law_1888 : decode cL_law 1888 = .ok (.iconst 0, 1) := by decide +kernel
theorem dL_law_1889 : decode cL_law 1889 = .ok (.laload, 1) := by decide +kernel
theorem dL_law_1890 : decode cL_law 1890 = .ok (.iload 6, 2) := by decide +kernel
theorem dL_law_1892 : decode cL_law 1892 = .ok (.i2l, 1) := by decide +kernel
theorem dL_law_1893 : decode cL_law 1893 = .ok (.lcmp, 1) := by decide +kernel
theorem dL_law_1894 : decode cL_law 1894 = .ok (.ifCond .eq 5, 3) := by decide +kernel
theorem dL_law_1897 : decode cL_law 1897 = .ok (.iconst 0, 1) := by decide +kernel
theorem dL_law_1898 : decode cL_law 1898 = .ok (.ireturn, 1) := by decide +kernel
theorem dL_law_1899 : decode cL_law 1899 = .ok (.goto 1249, 3) := by decide +kernel
theorem dL_law_1902 : decode cL_law 1902 = .ok (.aload_n 1, 1) := by decide +kernel
theorem dL_law_1903 : decode cL_law 1903 = .ok (.invokevirtual 273, 3) := by decide +kernel
theorem dL_law_1906 : decode cL_law 1906 = .ok (.aload_n 2, 1) := by decide +kernel
theorem dL_law_1907 : decode cL_law 1907 = .ok (.invokevirtual 276, 3) := by decide +kernel
theorem dL_law_1910 : decode cL_law 1910 = .ok (.if_icmp .eq 1238, 3) := by decide +kernel
theorem dL_law_1913 : decode cL_law 1913 = .ok (.iconst 0, 1) := by decide +kernel
theorem dL_law_1914 : decode cL_law 1914 = .ok (.ireturn, 1) := by decide +kernel
theorem dL_law_1915 : decode cL_law 1915 = .ok (.aload_n 1, 1) := by decide +kernel
theorem dL_law_1916 : decode cL_law 1916 = .ok (.invokevirtual 277, 3) := by decide +kernel
theorem dL_law_1919 : decode cL_law 1919 = .ok (.aload_n 2, 1) := by decide +kernel
theorem dL_law_1920 : decode cL_law 1920 = .ok (.invokevirtual 280, 3) := by decide +kernel
theorem dL_law_1923 : decode cL_law 1923 = .ok (.if_icmp .eq 1225, 3) := by decide +kernel
theorem dL_law_1926 : decode cL_law 1926 = .ok (.iconst 0, 1) := by decide +kernel
theorem dL_law_1927 : decode cL_law 1927 = .ok (.ireturn, 1) := by decide +kernel
theorem dL_law_1928 : decode cL_law 1928 = .ok (.aload_n 1, 1) := by decide +kernel
theorem dL_law_1929 : decode cL_law 1929 = .ok (.invokevirtual 281, 3) := by decide +kernel
theorem dL_law_1932 : decode cL_law 1932 = .ok (.aload_n 2, 1) := by decide +kernel
theorem dL_law_1933 : decode cL_law 1933 = .ok (.invokevirtual 284, 3) := by decide +kernel
theorem dL_law_1936 : decode cL_law 1936 = .ok (.if_icmp .eq 1212, 3) := by decide +kernel
theorem dL_law_1939 : decode cL_law 1939 = .ok (.iconst 0, 1) := by decide +kernel
theorem dL_law_1940 : decode cL_law 1940 = .ok (.ireturn, 1) := by decide +kernel
theorem dL_law_1941 : decode cL_law 1941 = .ok (.aload_n 1, 1) := by decide +kernel
theorem dL_law_1942 : decode cL_law 1942 = .ok (.aload_n 0, 1) := by decide +kernel
theorem dL_law_1943 : decode cL_law 1943 = .ok (.iload 4, 2) := by decide +kernel
theorem dL_law_1945 : decode cL_law 1945 = .ok (.iconst 1, 1) := by decide +kernel
theorem dL_law_1946 : decode cL_law 1946 = .ok (.iadd, 1) := by decide +kernel
theorem dL_law_1947 : decode cL_law 1947 = .ok (.iaload, 1) := by decide +kernel
theorem dL_law_1948 : decode cL_law 1948 = .ok (.aload_n 0, 1) := by decide +kernel
theorem dL_law_1949 : decode cL_law 1949 = .ok (.iload 4, 2) := by decide +kernel
theorem dL_law_1951 : decode cL_law 1951 = .ok (.iconst 2, 1) := by decide +kernel
theorem dL_law_1952 : decode cL_law 1952 = .ok (.iadd, 1) := by decide +kernel
theorem dL_law_1953 : decode cL_law 1953 = .ok (.iaload, 1) := by decide +kernel
theorem dL_law_1954 : decode cL_law 1954 = .ok (.aload_n 0, 1) := by decide +kernel
theorem dL_law_1955 : decode cL_law 1955 = .ok (.iload 4, 2) := by decide +kernel
theorem dL_law_1957 : decode cL_law 1957 = .ok (.iconst 3, 1) := by decide +kernel
theorem dL_law_1958 : decode cL_law 1958 = .ok (.iadd, 1) := by decide +kernel
theorem dL_law_1959 : decode cL_law 1959 = .ok (.iaload, 1) := by decide +kernel
theorem dL_law_1960 : decode cL_law 1960 = .ok (.aload_n 0, 1) := by decide +kernel
theorem dL_law_1961 : decode cL_law 1961 = .ok (.iload 4, 2) := by decide +kernel
theorem dL_law_1963 : decode cL_law 1963 = .ok (.iconst 4, 1) := by decide +kernel
theorem dL_law_1964 : decode cL_law 1964 = .ok (.iadd, 1) := by decide +kernel
theorem dL_law_1965 : decode cL_law 1965 = .ok (.iaload, 1) := by decide +kernel
theorem dL_law_1966 : decode cL_law 1966 = .ok (.aload_n 3, 1) := by decide +kernel
theorem dL_law_1967 : decode cL_law 1967 = .ok (.invokestatic 285, 3) := by decide +kernel
theorem dL_law_1970 : decode cL_law 1970 = .ok (.istore 5, 2) := by decide +kernel
theorem dL_law_1972 : decode cL_law 1972 = .ok (.aload_n 2, 1) := by decide +kernel
theorem dL_law_1973 : decode cL_law 1973 = .ok (.aload_n 0, 1) := by decide +kernel
theorem dL_law_1974 : decode cL_law 1974 = .ok (.iload 4, 2) := by decide +kernel
theorem dL_law_1976 : decode cL_law 1976 = .ok (.iconst 1, 1) := by decide +kernel
theorem dL_law_1977 : decode cL_law 1977 = .ok (.iadd, 1) := by decide +kernel
theorem dL_law_1978 : decode cL_law 1978 = .ok (.iaload, 1) := by decide +kernel
theorem dL_law_1979 : decode cL_law 1979 = .ok (.aload_n 0, 1) := by decide +kernel
theorem dL_law_1980 : decode cL_law 1980 = .ok (.iload 4, 2) := by decide +kernel
theorem dL_law_1982 : decode cL_law 1982 = .ok (.iconst 2, 1) := by decide +kernel
theorem dL_law_1983 : decode cL_law 1983 = .ok (.iadd, 1) := by decide +kernel
theorem dL_law_1984 : decode cL_law 1984 = .ok (.iaload, 1) := by decide +kernel
theorem dL_law_1985 : decode cL_law 1985 = .ok (.aload_n 0, 1) := by decide +kernel
theorem dL_law_1986 : decode cL_law 1986 = .ok (.iload 4, 2) := by decide +kernel
theorem dL_law_1988 : decode cL_law 1988 = .ok (.iconst 3, 1) := by decide +kernel
theorem dL_law_1989 : decode cL_law 1989 = .ok (.iadd, 1) := by decide +kernel
theorem dL_law_1990 : decode cL_law 1990 = .ok (.iaload, 1) := by decide +kernel
theorem dL_law_1991 : decode cL_law 1991 = .ok (.aload_n 0, 1) := by decide +kernel
theorem dL_law_1992 : decode cL_law 1992 = .ok (.iload 4, 2) := by decide +kernel
theorem dL_law_1994 : decode cL_law 1994 = .ok (.iconst 4, 1) := by decide +kernel
theorem dL_law_1995 : decode cL_law 1995 = .ok (.iadd, 1) := by decide +kernel
theorem dL_law_1996 : decode cL_law 1996 = .ok (.iaload, 1) := by decide +kernel
theorem dL_law_1997 : decode cL_law 1997 = .ok (.invokevirtual 288, 3) := by decide +kernel
theorem dL_law_2000 : decode cL_law 2000 = .ok (.istore 6, 2) := by decide +kernel
theorem dL_law_2002 : decode cL_law 2002 = .ok (.aload_n 2, 1) := by decide +kernel
theorem dL_law_2003 : decode cL_law 2003 = .ok (.invokevirtual 183, 3) := by decide +kernel
theorem dL_law_2006 : decode cL_law 2006 = .ok (.iload 5, 2) := by decide +kernel
theorem dL_law_2008 : decode cL_law 2008 = .ok (.if_icmp .eq 5, 3) := by decide +kernel
theorem dL_law_2011 : decode cL_law 2011 = .ok (.iconst 0, 1) := by decide +kernel
theorem dL_law_2012 : decode cL_law 2012 = .ok (.ireturn, 1) := by decide +kernel
theorem dL_law_2013 : decode cL_law 2013 = .ok (.iload 5, 2) := by decide +kernel
theorem dL_law_2015 : decode cL_law 2015 = .ok (.ifCond .ne 15, 3) := by decide +kernel
theorem dL_law_2018 : decode cL_law 2018 = .ok (.aload_n 3, 1) := by decide +kernel
theorem dL_law_2019 : decode cL_law 2019 = .ok (.iconst 0, 1) := by decide +kernel
theorem dL_law_2020 : decode cL_law 2020 = .ok (.laload, 1) := by decide +kernel
theorem dL_law_2021 : decode cL_law 2021 = .ok (.iload 6, 2) := by decide +kernel
theorem dL_law_2023 : decode cL_law 2023 = .ok (.i2l, 1) := by decide +kernel
theorem dL_law_2024 : decode cL_law 2024 = .ok (.lcmp, 1) := by decide +kernel
theorem dL_law_2025 : decode cL_law 2025 = .ok (.ifCond .eq 5, 3) := by decide +kernel
theorem dL_law_2028 : decode cL_law 2028 = .ok (.iconst 0, 1) := by decide +kernel
theorem dL_law_2029 : decode cL_law 2029 = .ok (.ireturn, 1) := by decide +kernel
theorem dL_law_2030 : decode cL_law 2030 = .ok (.goto 1118, 3) := by decide +kernel
theorem dL_law_2033 : decode cL_law 2033 = .ok (.aload_n 1, 1) := by decide +kernel
theorem dL_law_2034 : decode cL_law 2034 = .ok (.aload_n 0, 1) := by decide +kernel
theorem dL_law_2035 : decode cL_law 2035 = .ok (.iload 4, 2) := by decide +kernel
theorem dL_law_2037 : decode cL_law 2037 = .ok (.iconst 1, 1) := by decide +kernel
theorem dL_law_2038 : decode cL_law 2038 = .ok (.iadd, 1) := by decide +kernel
theorem dL_law_2039 : decode cL_law 2039 = .ok (.iaload, 1) := by decide +kernel
theorem dL_law_2040 : decode cL_law 2040 = .ok (.aload_n 0, 1) := by decide +kernel
theorem dL_law_2041 : decode cL_law 2041 = .ok (.iload 4, 2) := by decide +kernel
theorem dL_law_2043 : decode cL_law 2043 = .ok (.iconst 2, 1) := by decide +kernel
theorem dL_law_2044 : decode cL_law 2044 = .ok (.iadd, 1) := by decide +kernel
theorem dL_law_2045 : decode cL_law 2045 = .ok (.iaload, 1) := by decide +kernel
theorem dL_law_2046 : decode cL_law 2046 = .ok (.aload_n 3, 1) := by decide +kernel
theorem dL_law_2047 : decode cL_law 2047 = .ok (.invokestatic 289, 3) := by decide +kernel
theorem dL_law_2050 : decode cL_law 2050 = .ok (.istore 5, 2) := by decide +kernel
theorem dL_law_2052 : decode cL_law 2052 = .ok (.aload_n 2, 1) := by decide +kernel
theorem dL_law_2053 : decode cL_law 2053 = .ok (.aload_n 0, 1) := by decide +kernel
theorem dL_law_2054 : decode cL_law 2054 = .ok (.iload 4, 2) := by decide +kernel
theorem dL_law_2056 : decode cL_law 2056 = .ok (.iconst 1, 1) := by decide +kernel
theorem dL_law_2057 : decode cL_law 2057 = .ok (.iadd, 1) := by decide +kernel
theorem dL_law_2058 : decode cL_law 2058 = .ok (.iaload, 1) := by decide +kernel
theorem dL_law_2059 : decode cL_law 2059 = .ok (.aload_n 0, 1) := by decide +kernel
theorem dL_law_2060 : decode cL_law 2060 = .ok (.iload 4, 2) := by decide +kernel
theorem dL_law_2062 : decode cL_law 2062 = .ok (.iconst 2, 1) := by decide +kernel
theorem dL_law_2063 : decode cL_law 2063 = .ok (.iadd, 1) := by decide +kernel
theorem dL_law_2064 : decode cL_law 2064 = .ok (.iaload, 1) := by decide +kernel
theorem dL_law_2065 : decode cL_law 2065 = .ok (.invokevirtual 291, 3) := by decide +kernel
theorem dL_law_2068 : decode cL_law 2068 = .ok (.istore 6, 2) := by decide +kernel
theorem dL_law_2070 : decode cL_law 2070 = .ok (.aload_n 2, 1) := by decide +kernel
theorem dL_law_2071 : decode cL_law 2071 = .ok (.invokevirtual 183, 3) := by decide +kernel
theorem dL_law_2074 : decode cL_law 2074 = .ok (.iload 5, 2) := by decide +kernel
theorem dL_law_2076 : decode cL_law 2076 = .ok (.if_icmp .eq 5, 3) := by decide +kernel
theorem dL_law_2079 : decode cL_law 2079 = .ok (.iconst 0, 1) := by decide +kernel
theorem dL_law_2080 : decode cL_law 2080 = .ok (.ireturn, 1) := by decide +kernel
theorem dL_law_2081 : decode cL_law 2081 = .ok (.iload 5, 2) := by decide +kernel
theorem dL_law_2083 : decode cL_law 2083 = .ok (.ifCond .ne 15, 3) := by decide +kernel
theorem dL_law_2086 : decode cL_law 2086 = .ok (.aload_n 3, 1) := by decide +kernel
theorem dL_law_2087 : decode cL_law 2087 = .ok (.iconst 0, 1) := by decide +kernel
theorem dL_law_2088 : decode cL_law 2088 = .ok (.laload, 1) := by decide +kernel
theorem dL_law_2089 : decode cL_law 2089 = .ok (.iload 6, 2) := by decide +kernel
theorem dL_law_2091 : decode cL_law 2091 = .ok (.i2l, 1) := by decide +kernel
theorem dL_law_2092 : decode cL_law 2092 = .ok (.lcmp, 1) := by decide +kernel
theorem dL_law_2093 : decode cL_law 2093 = .ok (.ifCond .eq 5, 3) := by decide +kernel
theorem dL_law_2096 : decode cL_law 2096 = .ok (.iconst 0, 1) := by decide +kernel
theorem dL_law_2097 : decode cL_law 2097 = .ok (.ireturn, 1) := by decide +kernel
theorem dL_law_2098 : decode cL_law 2098 = .ok (.goto 1050, 3) := by decide +kernel
theorem dL_law_2101 : decode cL_law 2101 = .ok (.aload_n 1, 1) := by decide +kernel
theorem dL_law_2102 : decode cL_law 2102 = .ok (.aload_n 0, 1) := by decide +kernel
theorem dL_law_2103 : decode cL_law 2103 = .ok (.iload 4, 2) := by decide +kernel
theorem dL_law_2105 : decode cL_law 2105 = .ok (.iconst 1, 1) := by decide +kernel
theorem dL_law_2106 : decode cL_law 2106 = .ok (.iadd, 1) := by decide +kernel
theorem dL_law_2107 : decode cL_law 2107 = .ok (.iaload, 1) := by decide +kernel
theorem dL_law_2108 : decode cL_law 2108 = .ok (.aload_n 3, 1) := by decide +kernel
theorem dL_law_2109 : decode cL_law 2109 = .ok (.invokestatic 292, 3) := by decide +kernel
theorem dL_law_2112 : decode cL_law 2112 = .ok (.istore 5, 2) := by decide +kernel
theorem dL_law_2114 : decode cL_law 2114 = .ok (.aload_n 2, 1) := by decide +kernel
theorem dL_law_2115 : decode cL_law 2115 = .ok (.aload_n 0, 1) := by decide +kernel
theorem dL_law_2116 : decode cL_law 2116 = .ok (.iload 4, 2) := by decide +kernel
theorem dL_law_2118 : decode cL_law 2118 = .ok (.iconst 1, 1) := by decide +kernel
theorem dL_law_2119 : decode cL_law 2119 = .ok (.iadd, 1) := by decide +kernel
theorem dL_law_2120 : decode cL_law 2120 = .ok (.iaload, 1) := by decide +kernel
theorem dL_law_2121 : decode cL_law 2121 = .ok (.invokevirtual 294, 3) := by decide +kernel
theorem dL_law_2124 : decode cL_law 2124 = .ok (.istore 6, 2) := by decide +kernel
theorem dL_law_2126 : decode cL_law 2126 = .ok (.aload_n 2, 1) := by decide +kernel
theorem dL_law_2127 : decode cL_law 2127 = .ok (.invokevirtual 183, 3) := by decide +kernel
theorem dL_law_2130 : decode cL_law 2130 = .ok (.iload 5, 2) := by decide +kernel
theorem dL_law_2132 : decode cL_law 2132 = .ok (.if_icmp .eq 5, 3) := by decide +kernel
theorem dL_law_2135 : decode cL_law 2135 = .ok (.iconst 0, 1) := by decide +kernel
theorem dL_law_2136 : decode cL_law 2136 = .ok (.ireturn, 1) := by decide +kernel
theorem dL_law_2137 : decode cL_law 2137 = .ok (.iload 5, 2) := by decide +kernel
theorem dL_law_2139 : decode cL_law 2139 = .ok (.ifCond .ne 15, 3) := by decide +kernel
theorem dL_law_2142 : decode cL_law 2142 = .ok (.aload_n 3, 1) := by decide +kernel
theorem dL_law_2143 : decode cL_law 2143 = .ok (.iconst 0, 1) := by decide +kernel
theorem dL_law_2144 : decode cL_law 2144 = .ok (.laload, 1) := by decide +kernel
theorem dL_law_2145 : decode cL_law 2145 = .ok (.iload 6, 2) := by decide +kernel
theorem dL_law_2147 : decode cL_law 2147 = .ok (.i2l, 1) := by decide +kernel
theorem dL_law_2148 : decode cL_law 2148 = .ok (.lcmp, 1) := by decide +kernel
theorem dL_law_2149 : decode cL_law 2149 = .ok (.ifCond .eq 5, 3) := by decide +kernel
theorem dL_law_2152 : decode cL_law 2152 = .ok (.iconst 0, 1) := by decide +kernel
theorem dL_law_2153 : decode cL_law 2153 = .ok (.ireturn, 1) := by decide +kernel
theorem dL_law_2154 : decode cL_law 2154 = .ok (.goto 994, 3) := by decide +kernel
theorem dL_law_2157 : decode cL_law 2157 = .ok (.aload_n 1, 1) := by decide +kernel
theorem dL_law_2158 : decode cL_law 2158 = .ok (.aload_n 0, 1) := by decide +kernel
theorem dL_law_2159 : decode cL_law 2159 = .ok (.iload 4, 2) := by decide +kernel
theorem dL_law_2161 : decode cL_law 2161 = .ok (.iconst 1, 1) := by decide +kernel
theorem dL_law_2162 : decode cL_law 2162 = .ok (.iadd, 1) := by decide +kernel
theorem dL_law_2163 : decode cL_law 2163 = .ok (.iaload, 1) := by decide +kernel
theorem dL_law_2164 : decode cL_law 2164 = .ok (.aload_n 0, 1) := by decide +kernel
theorem dL_law_2165 : decode cL_law 2165 = .ok (.iload 4, 2) := by decide +kernel
theorem dL_law_2167 : decode cL_law 2167 = .ok (.iconst 2, 1) := by decide +kernel
theorem dL_law_2168 : decode cL_law 2168 = .ok (.iadd, 1) := by decide +kernel
theorem dL_law_2169 : decode cL_law 2169 = .ok (.iaload, 1) := by decide +kernel
theorem dL_law_2170 : decode cL_law 2170 = .ok (.aload_n 3, 1) := by decide +kernel
theorem dL_law_2171 : decode cL_law 2171 = .ok (.invokestatic 295, 3) := by decide +kernel
theorem dL_law_2174 : decode cL_law 2174 = .ok (.istore 5, 2) := by decide +kernel
theorem dL_law_2176 : decode cL_law 2176 = .ok (.aload_n 2, 1) := by decide +kernel
theorem dL_law_2177 : decode cL_law 2177 = .ok (.aload_n 0, 1) := by decide +kernel
theorem dL_law_2178 : decode cL_law 2178 = .ok (.iload 4, 2) := by decide +kernel
theorem dL_law_2180 : decode cL_law 2180 = .ok (.iconst 1, 1) := by decide +kernel
theorem dL_law_2181 : decode cL_law 2181 = .ok (.iadd, 1) := by decide +kernel
theorem dL_law_2182 : decode cL_law 2182 = .ok (.iaload, 1) := by decide +kernel
theorem dL_law_2183 : decode cL_law 2183 = .ok (.aload_n 0, 1) := by decide +kernel
theorem dL_law_2184 : decode cL_law 2184 = .ok (.iload 4, 2) := by decide +kernel
theorem dL_law_2186 : decode cL_law 2186 = .ok (.iconst 2, 1) := by decide +kernel
theorem dL_law_2187 : decode cL_law 2187 = .ok (.iadd, 1) := by decide +kernel
theorem dL_law_2188 : decode cL_law 2188 = .ok (.iaload, 1) := by decide +kernel
theorem dL_law_2189 : decode cL_law 2189 = .ok (.invokevirtual 297, 3) := by decide +kernel
theorem dL_law_2192 : decode cL_law 2192 = .ok (.istore 6, 2) := by decide +kernel
theorem dL_law_2194 : decode cL_law 2194 = .ok (.aload_n 2, 1) := by decide +kernel
theorem dL_law_2195 : decode cL_law 2195 = .ok (.invokevirtual 183, 3) := by decide +kernel
theorem dL_law_2198 : decode cL_law 2198 = .ok (.iload 5, 2) := by decide +kernel
theorem dL_law_2200 : decode cL_law 2200 = .ok (.if_icmp .eq 5, 3) := by decide +kernel
theorem dL_law_2203 : decode cL_law 2203 = .ok (.iconst 0, 1) := by decide +kernel
theorem dL_law_2204 : decode cL_law 2204 = .ok (.ireturn, 1) := by decide +kernel
theorem dL_law_2205 : decode cL_law 2205 = .ok (.iload 5, 2) := by decide +kernel
theorem dL_law_2207 : decode cL_law 2207 = .ok (.ifCond .ne 15, 3) := by decide +kernel
theorem dL_law_2210 : decode cL_law 2210 = .ok (.aload_n 3, 1) := by decide +kernel
theorem dL_law_2211 : decode cL_law 2211 = .ok (.iconst 0, 1) := by decide +kernel
theorem dL_law_2212 : decode cL_law 2212 = .ok (.laload, 1) := by decide +kernel
theorem dL_law_2213 : decode cL_law 2213 = .ok (.iload 6, 2) := by decide +kernel
theorem dL_law_2215 : decode cL_law 2215 = .ok (.i2l, 1) := by decide +kernel
theorem dL_law_2216 : decode cL_law 2216 = .ok (.lcmp, 1) := by decide +kernel
theorem dL_law_2217 : decode cL_law 2217 = .ok (.ifCond .eq 5, 3) := by decide +kernel
theorem dL_law_2220 : decode cL_law 2220 = .ok (.iconst 0, 1) := by decide +kernel
theorem dL_law_2221 : decode cL_law 2221 = .ok (.ireturn, 1) := by decide +kernel
theorem dL_law_2222 : decode cL_law 2222 = .ok (.goto 926, 3) := by decide +kernel
theorem dL_law_2225 : decode cL_law 2225 = .ok (.aload_n 1, 1) := by decide +kernel
theorem dL_law_2226 : decode cL_law 2226 = .ok (.invokevirtual 298, 3) := by decide +kernel
theorem dL_law_2229 : decode cL_law 2229 = .ok (.aload_n 2, 1) := by decide +kernel
theorem dL_law_2230 : decode cL_law 2230 = .ok (.invokevirtual 301, 3) := by decide +kernel
theorem dL_law_2233 : decode cL_law 2233 = .ok (.if_icmp .eq 915, 3) := by decide +kernel
theorem dL_law_2236 : decode cL_law 2236 = .ok (.iconst 0, 1) := by decide +kernel
theorem dL_law_2237 : decode cL_law 2237 = .ok (.ireturn, 1) := by decide +kernel
theorem dL_law_2238 : decode cL_law 2238 = .ok (.aload_n 1, 1) := by decide +kernel
theorem dL_law_2239 : decode cL_law 2239 = .ok (.invokevirtual 302, 3) := by decide +kernel
theorem dL_law_2242 : decode cL_law 2242 = .ok (.aload_n 2, 1) := by decide +kernel
theorem dL_law_2243 : decode cL_law 2243 = .ok (.invokevirtual 305, 3) := by decide +kernel
theorem dL_law_2246 : decode cL_law 2246 = .ok (.if_icmp .eq 902, 3) := by decide +kernel
theorem dL_law_2249 : decode cL_law 2249 = .ok (.iconst 0, 1) := by decide +kernel
theorem dL_law_2250 : decode cL_law 2250 = .ok (.ireturn, 1) := by decide +kernel
theorem dL_law_2251 : decode cL_law 2251 = .ok (.aload_n 1, 1) := by decide +kernel
theorem dL_law_2252 : decode cL_law 2252 = .ok (.invokevirtual 306, 3) := by decide +kernel
theorem dL_law_2255 : decode cL_law 2255 = .ok (.aload_n 2, 1) := by decide +kernel
theorem dL_law_2256 : decode cL_law 2256 = .ok (.invokevirtual 309, 3) := by decide +kernel
theorem dL_law_2259 : decode cL_law 2259 = .ok (.if_icmp .eq 889, 3) := by decide +kernel
theorem dL_law_2262 : decode cL_law 2262 = .ok (.iconst 0, 1) := by decide +kernel
theorem dL_law_2263 : decode cL_law 2263 = .ok (.ireturn, 1) := by decide +kernel
theorem dL_law_2264 : decode cL_law 2264 = .ok (.aload_n 1, 1) := by decide +kernel
theorem dL_law_2265 : decode cL_law 2265 = .ok (.invokevirtual 310, 3) := by decide +kernel
theorem dL_law_2268 : decode cL_law 2268 = .ok (.aload_n 2, 1) := by decide +kernel
theorem dL_law_2269 : decode cL_law 2269 = .ok (.invokevirtual 313, 3) := by decide +kernel
theorem dL_law_2272 : decode cL_law 2272 = .ok (.if_icmp .eq 876, 3) := by decide +kernel
theorem dL_law_2275 : decode cL_law 2275 = .ok (.iconst 0, 1) := by decide +kernel
theorem dL_law_2276 : decode cL_law 2276 = .ok (.ireturn, 1) := by decide +kernel
theorem dL_law_2277 : decode cL_law 2277 = .ok (.aload_n 1, 1) := by decide +kernel
theorem dL_law_2278 : decode cL_law 2278 = .ok (.invokevirtual 314, 3) := by decide +kernel
theorem dL_law_2281 : decode cL_law 2281 = .ok (.aload_n 2, 1) := by decide +kernel
theorem dL_law_2282 : decode cL_law 2282 = .ok (.invokevirtual 317, 3) := by decide +kernel
theorem dL_law_2285 : decode cL_law 2285 = .ok (.if_icmp .eq 863, 3) := by decide +kernel
theorem dL_law_2288 : decode cL_law 2288 = .ok (.iconst 0, 1) := by decide +kernel
theorem dL_law_2289 : decode cL_law 2289 = .ok (.ireturn, 1) := by decide +kernel
theorem dL_law_2290 : decode cL_law 2290 = .ok (.aload_n 1, 1) := by decide +kernel
theorem dL_law_2291 : decode cL_law 2291 = .ok (.invokevirtual 318, 3) := by decide +kernel
theorem dL_law_2294 : decode cL_law 2294 = .ok (.aload_n 2, 1) := by decide +kernel
theorem dL_law_2295 : decode cL_law 2295 = .ok (.invokevirtual 321, 3) := by decide +kernel
theorem dL_law_2298 : decode cL_law 2298 = .ok (.if_icmp .eq 850, 3) := by decide +kernel
theorem dL_law_2301 : decode cL_law 2301 = .ok (.iconst 0, 1) := by decide +kernel
theorem dL_law_2302 : decode cL_law 2302 = .ok (.ireturn, 1) := by decide +kernel
theorem dL_law_2303 : decode cL_law 2303 = .ok (.aload_n 1, 1) := by decide +kernel
theorem dL_law_2304 : decode cL_law 2304 = .ok (.invokevirtual 322, 3) := by decide +kernel
theorem dL_law_2307 : decode cL_law 2307 = .ok (.dstore 5, 2) := by decide +kernel
theorem dL_law_2309 : decode cL_law 2309 = .ok (.aload_n 2, 1) := by decide +kernel
theorem dL_law_2310 : decode cL_law 2310 = .ok (.invokevirtual 326, 3) := by decide +kernel
theorem dL_law_2313 : decode cL_law 2313 = .ok (.dstore 7, 2) := by decide +kernel
theorem dL_law_2315 : decode cL_law 2315 = .ok (.dload 5, 2) := by decide +kernel
theorem dL_law_2317 : decode cL_law 2317 = .ok (.dload 7, 2) := by decide +kernel
theorem dL_law_2319 : decode cL_law 2319 = .ok (.dcmp .l, 1) := by decide +kernel
theorem dL_law_2320 : decode cL_law 2320 = .ok (.ifCond .eq 21, 3) := by decide +kernel
theorem dL_law_2323 : decode cL_law 2323 = .ok (.dload 5, 2) := by decide +kernel
theorem dL_law_2325 : decode cL_law 2325 = .ok (.dload 5, 2) := by decide +kernel
theorem dL_law_2327 : decode cL_law 2327 = .ok (.dcmp .l, 1) := by decide +kernel
theorem dL_law_2328 : decode cL_law 2328 = .ok (.ifCond .eq 11, 3) := by decide +kernel
theorem dL_law_2331 : decode cL_law 2331 = .ok (.dload 7, 2) := by decide +kernel
theorem dL_law_2333 : decode cL_law 2333 = .ok (.dload 7, 2) := by decide +kernel
theorem dL_law_2335 : decode cL_law 2335 = .ok (.dcmp .l, 1) := by decide +kernel
theorem dL_law_2336 : decode cL_law 2336 = .ok (.ifCond .ne 5, 3) := by decide +kernel
theorem dL_law_2339 : decode cL_law 2339 = .ok (.iconst 0, 1) := by decide +kernel
theorem dL_law_2340 : decode cL_law 2340 = .ok (.ireturn, 1) := by decide +kernel
theorem dL_law_2341 : decode cL_law 2341 = .ok (.goto 807, 3) := by decide +kernel
theorem dL_law_2344 : decode cL_law 2344 = .ok (.aload_n 1, 1) := by decide +kernel
theorem dL_law_2345 : decode cL_law 2345 = .ok (.invokevirtual 327, 3) := by decide +kernel
theorem dL_law_2348 : decode cL_law 2348 = .ok (.f2d, 1) := by decide +kernel
theorem dL_law_2349 : decode cL_law 2349 = .ok (.dstore 5, 2) := by decide +kernel
theorem dL_law_2351 : decode cL_law 2351 = .ok (.aload_n 2, 1) := by decide +kernel
theorem dL_law_2352 : decode cL_law 2352 = .ok (.invokevirtual 331, 3) := by decide +kernel
theorem dL_law_2355 : decode cL_law 2355 = .ok (.f2d, 1) := by decide +kernel
theorem dL_law_2356 : decode cL_law 2356 = .ok (.dstore 7, 2) := by decide +kernel
theorem dL_law_2358 : decode cL_law 2358 = .ok (.dload 5, 2) := by decide +kernel
theorem dL_law_2360 : decode cL_law 2360 = .ok (.dload 7, 2) := by decide +kernel
theorem dL_law_2362 : decode cL_law 2362 = .ok (.dcmp .l, 1) := by decide +kernel
theorem dL_law_2363 : decode cL_law 2363 = .ok (.ifCond .eq 21, 3) := by decide +kernel
theorem dL_law_2366 : decode cL_law 2366 = .ok (.dload 5, 2) := by decide +kernel
theorem dL_law_2368 : decode cL_law 2368 = .ok (.dload 5, 2) := by decide +kernel
theorem dL_law_2370 : decode cL_law 2370 = .ok (.dcmp .l, 1) := by decide +kernel
theorem dL_law_2371 : decode cL_law 2371 = .ok (.ifCond .eq 11, 3) := by decide +kernel
theorem dL_law_2374 : decode cL_law 2374 = .ok (.dload 7, 2) := by decide +kernel
theorem dL_law_2376 : decode cL_law 2376 = .ok (.dload 7, 2) := by decide +kernel
theorem dL_law_2378 : decode cL_law 2378 = .ok (.dcmp .l, 1) := by decide +kernel
theorem dL_law_2379 : decode cL_law 2379 = .ok (.ifCond .ne 5, 3) := by decide +kernel
theorem dL_law_2382 : decode cL_law 2382 = .ok (.iconst 0, 1) := by decide +kernel
theorem dL_law_2383 : decode cL_law 2383 = .ok (.ireturn, 1) := by decide +kernel
theorem dL_law_2384 : decode cL_law 2384 = .ok (.goto 764, 3) := by decide +kernel
theorem dL_law_2387 : decode cL_law 2387 = .ok (.aload_n 1, 1) := by decide +kernel
theorem dL_law_2388 : decode cL_law 2388 = .ok (.aload_n 0, 1) := by decide +kernel
theorem dL_law_2389 : decode cL_law 2389 = .ok (.iload 4, 2) := by decide +kernel
theorem dL_law_2391 : decode cL_law 2391 = .ok (.iconst 1, 1) := by decide +kernel
theorem dL_law_2392 : decode cL_law 2392 = .ok (.iadd, 1) := by decide +kernel
theorem dL_law_2393 : decode cL_law 2393 = .ok (.iaload, 1) := by decide +kernel
theorem dL_law_2394 : decode cL_law 2394 = .ok (.aload_n 3, 1) := by decide +kernel
theorem dL_law_2395 : decode cL_law 2395 = .ok (.invokestatic 332, 3) := by decide +kernel
theorem dL_law_2398 : decode cL_law 2398 = .ok (.istore 5, 2) := by decide +kernel
theorem dL_law_2400 : decode cL_law 2400 = .ok (.aload_n 2, 1) := by decide +kernel
theorem dL_law_2401 : decode cL_law 2401 = .ok (.aload_n 0, 1) := by decide +kernel
theorem dL_law_2402 : decode cL_law 2402 = .ok (.iload 4, 2) := by decide +kernel
theorem dL_law_2404 : decode cL_law 2404 = .ok (.iconst 1, 1) := by decide +kernel
theorem dL_law_2405 : decode cL_law 2405 = .ok (.iadd, 1) := by decide +kernel
theorem dL_law_2406 : decode cL_law 2406 = .ok (.iaload, 1) := by decide +kernel
theorem dL_law_2407 : decode cL_law 2407 = .ok (.invokevirtual 334, 3) := by decide +kernel
theorem dL_law_2410 : decode cL_law 2410 = .ok (.istore 6, 2) := by decide +kernel
theorem dL_law_2412 : decode cL_law 2412 = .ok (.aload_n 2, 1) := by decide +kernel
theorem dL_law_2413 : decode cL_law 2413 = .ok (.invokevirtual 183, 3) := by decide +kernel
theorem dL_law_2416 : decode cL_law 2416 = .ok (.iload 5, 2) := by decide +kernel
theorem dL_law_2418 : decode cL_law 2418 = .ok (.if_icmp .eq 5, 3) := by decide +kernel
theorem dL_law_2421 : decode cL_law 2421 = .ok (.iconst 0, 1) := by decide +kernel
theorem dL_law_2422 : decode cL_law 2422 = .ok (.ireturn, 1) := by decide +kernel
theorem dL_law_2423 : decode cL_law 2423 = .ok (.iload 5, 2) := by decide +kernel
theorem dL_law_2425 : decode cL_law 2425 = .ok (.ifCond .ne 15, 3) := by decide +kernel
theorem dL_law_2428 : decode cL_law 2428 = .ok (.aload_n 3, 1) := by decide +kernel
theorem dL_law_2429 : decode cL_law 2429 = .ok (.iconst 0, 1) := by decide +kernel
theorem dL_law_2430 : decode cL_law 2430 = .ok (.laload, 1) := by decide +kernel
theorem dL_law_2431 : decode cL_law 2431 = .ok (.iload 6, 2) := by decide +kernel
theorem dL_law_2433 : decode cL_law 2433 = .ok (.i2l, 1) := by decide +kernel
theorem dL_law_2434 : decode cL_law 2434 = .ok (.lcmp, 1) := by decide +kernel
theorem dL_law_2435 : decode cL_law 2435 = .ok (.ifCond .eq 5, 3) := by decide +kernel
theorem dL_law_2438 : decode cL_law 2438 = .ok (.iconst 0, 1) := by decide +kernel
theorem dL_law_2439 : decode cL_law 2439 = .ok (.ireturn, 1) := by decide +kernel
theorem dL_law_2440 : decode cL_law 2440 = .ok (.goto 708, 3) := by decide +kernel
theorem dL_law_2443 : decode cL_law 2443 = .ok (.aload_n 1, 1) := by decide +kernel
theorem dL_law_2444 : decode cL_law 2444 = .ok (.aload_n 0, 1) := by decide +kernel
theorem dL_law_2445 : decode cL_law 2445 = .ok (.iload 4, 2) := by decide +kernel
theorem dL_law_2447 : decode cL_law 2447 = .ok (.iconst 1, 1) := by decide +kernel
theorem dL_law_2448 : decode cL_law 2448 = .ok (.iadd, 1) := by decide +kernel
theorem dL_law_2449 : decode cL_law 2449 = .ok (.iaload, 1) := by decide +kernel
theorem dL_law_2450 : decode cL_law 2450 = .ok (.aload_n 0, 1) := by decide +kernel
theorem dL_law_2451 : decode cL_law 2451 = .ok (.iload 4, 2) := by decide +kernel
theorem dL_law_2453 : decode cL_law 2453 = .ok (.iconst 2, 1) := by decide +kernel
theorem dL_law_2454 : decode cL_law 2454 = .ok (.iadd, 1) := by decide +kernel
theorem dL_law_2455 : decode cL_law 2455 = .ok (.iaload, 1) := by decide +kernel
theorem dL_law_2456 : decode cL_law 2456 = .ok (.aload_n 0, 1) := by decide +kernel
theorem dL_law_2457 : decode cL_law 2457 = .ok (.iload 4, 2) := by decide +kernel
theorem dL_law_2459 : decode cL_law 2459 = .ok (.iconst 3, 1) := by decide +kernel
theorem dL_law_2460 : decode cL_law 2460 = .ok (.iadd, 1) := by decide +kernel
theorem dL_law_2461 : decode cL_law 2461 = .ok (.iaload, 1) := by decide +kernel
theorem dL_law_2462 : decode cL_law 2462 = .ok (.aload_n 3, 1) := by decide +kernel
theorem dL_law_2463 : decode cL_law 2463 = .ok (.invokestatic 335, 3) := by decide +kernel
theorem dL_law_2466 : decode cL_law 2466 = .ok (.istore 5, 2) := by decide +kernel
theorem dL_law_2468 : decode cL_law 2468 = .ok (.aload_n 2, 1) := by decide +kernel
theorem dL_law_2469 : decode cL_law 2469 = .ok (.aload_n 0, 1) := by decide +kernel
theorem dL_law_2470 : decode cL_law 2470 = .ok (.iload 4, 2) := by decide +kernel
theorem dL_law_2472 : decode cL_law 2472 = .ok (.iconst 1, 1) := by decide +kernel
theorem dL_law_2473 : decode cL_law 2473 = .ok (.iadd, 1) := by decide +kernel
theorem dL_law_2474 : decode cL_law 2474 = .ok (.iaload, 1) := by decide +kernel
theorem dL_law_2475 : decode cL_law 2475 = .ok (.aload_n 0, 1) := by decide +kernel
theorem dL_law_2476 : decode cL_law 2476 = .ok (.iload 4, 2) := by decide +kernel
theorem dL_law_2478 : decode cL_law 2478 = .ok (.iconst 2, 1) := by decide +kernel
theorem dL_law_2479 : decode cL_law 2479 = .ok (.iadd, 1) := by decide +kernel
theorem dL_law_2480 : decode cL_law 2480 = .ok (.iaload, 1) := by decide +kernel
theorem dL_law_2481 : decode cL_law 2481 = .ok (.aload_n 0, 1) := by decide +kernel
theorem dL_law_2482 : decode cL_law 2482 = .ok (.iload 4, 2) := by decide +kernel
theorem dL_law_2484 : decode cL_law 2484 = .ok (.iconst 3, 1) := by decide +kernel
theorem dL_law_2485 : decode cL_law 2485 = .ok (.iadd, 1) := by decide +kernel
theorem dL_law_2486 : decode cL_law 2486 = .ok (.iaload, 1) := by decide +kernel
theorem dL_law_2487 : decode cL_law 2487 = .ok (.invokevirtual 338, 3) := by decide +kernel
theorem dL_law_2490 : decode cL_law 2490 = .ok (.istore 6, 2) := by decide +kernel
theorem dL_law_2492 : decode cL_law 2492 = .ok (.aload_n 2, 1) := by decide +kernel
theorem dL_law_2493 : decode cL_law 2493 = .ok (.invokevirtual 183, 3) := by decide +kernel
theorem dL_law_2496 : decode cL_law 2496 = .ok (.iload 5, 2) := by decide +kernel
theorem dL_law_2498 : decode cL_law 2498 = .ok (.if_icmp .eq 5, 3) := by decide +kernel
theorem dL_law_2501 : decode cL_law 2501 = .ok (.iconst 0, 1) := by decide +kernel
theorem dL_law_2502 : decode cL_law 2502 = .ok (.ireturn, 1) := by decide +kernel
theorem dL_law_2503 : decode cL_law 2503 = .ok (.iload 5, 2) := by decide +kernel
theorem dL_law_2505 : decode cL_law 2505 = .ok (.ifCond .ne 15, 3) := by decide +kernel
theorem dL_law_2508 : decode cL_law 2508 = .ok (.aload_n 3, 1) := by decide +kernel
theorem dL_law_2509 : decode cL_law 2509 = .ok (.iconst 0, 1) := by decide +kernel
theorem dL_law_2510 : decode cL_law 2510 = .ok (.laload, 1) := by decide +kernel
theorem dL_law_2511 : decode cL_law 2511 = .ok (.iload 6, 2) := by decide +kernel
theorem dL_law_2513 : decode cL_law 2513 = .ok (.i2l, 1) := by decide +kernel
theorem dL_law_2514 : decode cL_law 2514 = .ok (.lcmp, 1) := by decide +kernel
theorem dL_law_2515 : decode cL_law 2515 = .ok (.ifCond .eq 5, 3) := by decide +kernel
theorem dL_law_2518 : decode cL_law 2518 = .ok (.iconst 0, 1) := by decide +kernel
theorem dL_law_2519 : decode cL_law 2519 = .ok (.ireturn, 1) := by decide +kernel
theorem dL_law_2520 : decode cL_law 2520 = .ok (.goto 628, 3) := by decide +kernel
theorem dL_law_2523 : decode cL_law 2523 = .ok (.aload_n 1, 1) := by decide +kernel
theorem dL_law_2524 : decode cL_law 2524 = .ok (.aload_n 0, 1) := by decide +kernel
theorem dL_law_2525 : decode cL_law 2525 = .ok (.iload 4, 2) := by decide +kernel
theorem dL_law_2527 : decode cL_law 2527 = .ok (.iconst 1, 1) := by decide +kernel
theorem dL_law_2528 : decode cL_law 2528 = .ok (.iadd, 1) := by decide +kernel
theorem dL_law_2529 : decode cL_law 2529 = .ok (.iaload, 1) := by decide +kernel
theorem dL_law_2530 : decode cL_law 2530 = .ok (.aload_n 0, 1) := by decide +kernel
theorem dL_law_2531 : decode cL_law 2531 = .ok (.iload 4, 2) := by decide +kernel
theorem dL_law_2533 : decode cL_law 2533 = .ok (.iconst 2, 1) := by decide +kernel
theorem dL_law_2534 : decode cL_law 2534 = .ok (.iadd, 1) := by decide +kernel
theorem dL_law_2535 : decode cL_law 2535 = .ok (.iaload, 1) := by decide +kernel
theorem dL_law_2536 : decode cL_law 2536 = .ok (.aload_n 0, 1) := by decide +kernel
theorem dL_law_2537 : decode cL_law 2537 = .ok (.iload 4, 2) := by decide +kernel
theorem dL_law_2539 : decode cL_law 2539 = .ok (.iconst 3, 1) := by decide +kernel
theorem dL_law_2540 : decode cL_law 2540 = .ok (.iadd, 1) := by decide +kernel
theorem dL_law_2541 : decode cL_law 2541 = .ok (.iaload, 1) := by decide +kernel
theorem dL_law_2542 : decode cL_law 2542 = .ok (.aload_n 3, 1) := by decide +kernel
theorem dL_law_2543 : decode cL_law 2543 = .ok (.invokestatic 339, 3) := by decide +kernel
theorem dL_law_2546 : decode cL_law 2546 = .ok (.istore 5, 2) := by decide +kernel
theorem dL_law_2548 : decode cL_law 2548 = .ok (.aload_n 2, 1) := by decide +kernel
theorem dL_law_2549 : decode cL_law 2549 = .ok (.aload_n 0, 1) := by decide +kernel
theorem dL_law_2550 : decode cL_law 2550 = .ok (.iload 4, 2) := by decide +kernel
theorem dL_law_2552 : decode cL_law 2552 = .ok (.iconst 1, 1) := by decide +kernel
theorem dL_law_2553 : decode cL_law 2553 = .ok (.iadd, 1) := by decide +kernel
theorem dL_law_2554 : decode cL_law 2554 = .ok (.iaload, 1) := by decide +kernel
theorem dL_law_2555 : decode cL_law 2555 = .ok (.aload_n 0, 1) := by decide +kernel
theorem dL_law_2556 : decode cL_law 2556 = .ok (.iload 4, 2) := by decide +kernel
theorem dL_law_2558 : decode cL_law 2558 = .ok (.iconst 2, 1) := by decide +kernel
theorem dL_law_2559 : decode cL_law 2559 = .ok (.iadd, 1) := by decide +kernel
theorem dL_law_2560 : decode cL_law 2560 = .ok (.iaload, 1) := by decide +kernel
theorem dL_law_2561 : decode cL_law 2561 = .ok (.aload_n 0, 1) := by decide +kernel
theorem dL_law_2562 : decode cL_law 2562 = .ok (.iload 4, 2) := by decide +kernel
theorem dL_law_2564 : decode cL_law 2564 = .ok (.iconst 3, 1) := by decide +kernel
theorem dL_law_2565 : decode cL_law 2565 = .ok (.iadd, 1) := by decide +kernel
theorem dL_law_2566 : decode cL_law 2566 = .ok (.iaload, 1) := by decide +kernel
theorem dL_law_2567 : decode cL_law 2567 = .ok (.invokevirtual 341, 3) := by decide +kernel
theorem dL_law_2570 : decode cL_law 2570 = .ok (.istore 6, 2) := by decide +kernel
theorem dL_law_2572 : decode cL_law 2572 = .ok (.aload_n 2, 1) := by decide +kernel
theorem dL_law_2573 : decode cL_law 2573 = .ok (.invokevirtual 183, 3) := by decide +kernel
theorem dL_law_2576 : decode cL_law 2576 = .ok (.iload 5, 2) := by decide +kernel
theorem dL_law_2578 : decode cL_law 2578 = .ok (.if_icmp .eq 5, 3) := by decide +kernel
theorem dL_law_2581 : decode cL_law 2581 = .ok (.iconst 0, 1) := by decide +kernel
theorem dL_law_2582 : decode cL_law 2582 = .ok (.ireturn, 1) := by decide +kernel
theorem dL_law_2583 : decode cL_law 2583 = .ok (.iload 5, 2) := by decide +kernel
theorem dL_law_2585 : decode cL_law 2585 = .ok (.ifCond .ne 15, 3) := by decide +kernel
theorem dL_law_2588 : decode cL_law 2588 = .ok (.aload_n 3, 1) := by decide +kernel
theorem dL_law_2589 : decode cL_law 2589 = .ok (.iconst 0, 1) := by decide +kernel
theorem dL_law_2590 : decode cL_law 2590 = .ok (.laload, 1) := by decide +kernel
theorem dL_law_2591 : decode cL_law 2591 = .ok (.iload 6, 2) := by decide +kernel
theorem dL_law_2593 : decode cL_law 2593 = .ok (.i2l, 1) := by decide +kernel
theorem dL_law_2594 : decode cL_law 2594 = .ok (.lcmp, 1) := by decide +kernel
theorem dL_law_2595 : decode cL_law 2595 = .ok (.ifCond .eq 5, 3) := by decide +kernel
theorem dL_law_2598 : decode cL_law 2598 = .ok (.iconst 0, 1) := by decide +kernel
theorem dL_law_2599 : decode cL_law 2599 = .ok (.ireturn, 1) := by decide +kernel
theorem dL_law_2600 : decode cL_law 2600 = .ok (.goto 548, 3) := by decide +kernel
theorem dL_law_2603 : decode cL_law 2603 = .ok (.aload_n 1, 1) := by decide +kernel
theorem dL_law_2604 : decode cL_law 2604 = .ok (.aload_n 0, 1) := by decide +kernel
theorem dL_law_2605 : decode cL_law 2605 = .ok (.iload 4, 2) := by decide +kernel
theorem dL_law_2607 : decode cL_law 2607 = .ok (.iconst 1, 1) := by decide +kernel
theorem dL_law_2608 : decode cL_law 2608 = .ok (.iadd, 1) := by decide +kernel
theorem dL_law_2609 : decode cL_law 2609 = .ok (.iaload, 1) := by decide +kernel
theorem dL_law_2610 : decode cL_law 2610 = .ok (.aload_n 0, 1) := by decide +kernel
theorem dL_law_2611 : decode cL_law 2611 = .ok (.iload 4, 2) := by decide +kernel
theorem dL_law_2613 : decode cL_law 2613 = .ok (.iconst 2, 1) := by decide +kernel
theorem dL_law_2614 : decode cL_law 2614 = .ok (.iadd, 1) := by decide +kernel
theorem dL_law_2615 : decode cL_law 2615 = .ok (.iaload, 1) := by decide +kernel
theorem dL_law_2616 : decode cL_law 2616 = .ok (.aload_n 3, 1) := by decide +kernel
theorem dL_law_2617 : decode cL_law 2617 = .ok (.invokestatic 342, 3) := by decide +kernel
theorem dL_law_2620 : decode cL_law 2620 = .ok (.istore 5, 2) := by decide +kernel
theorem dL_law_2622 : decode cL_law 2622 = .ok (.aload_n 2, 1) := by decide +kernel
theorem dL_law_2623 : decode cL_law 2623 = .ok (.aload_n 0, 1) := by decide +kernel
theorem dL_law_2624 : decode cL_law 2624 = .ok (.iload 4, 2) := by decide +kernel
theorem dL_law_2626 : decode cL_law 2626 = .ok (.iconst 1, 1) := by decide +kernel
theorem dL_law_2627 : decode cL_law 2627 = .ok (.iadd, 1) := by decide +kernel
theorem dL_law_2628 : decode cL_law 2628 = .ok (.iaload, 1) := by decide +kernel
theorem dL_law_2629 : decode cL_law 2629 = .ok (.aload_n 0, 1) := by decide +kernel
theorem dL_law_2630 : decode cL_law 2630 = .ok (.iload 4, 2) := by decide +kernel
theorem dL_law_2632 : decode cL_law 2632 = .ok (.iconst 2, 1) := by decide +kernel
theorem dL_law_2633 : decode cL_law 2633 = .ok (.iadd, 1) := by decide +kernel
theorem dL_law_2634 : decode cL_law 2634 = .ok (.iaload, 1) := by decide +kernel
theorem dL_law_2635 : decode cL_law 2635 = .ok (.invokevirtual 344, 3) := by decide +kernel
theorem dL_law_2638 : decode cL_law 2638 = .ok (.istore 6, 2) := by decide +kernel
theorem dL_law_2640 : decode cL_law 2640 = .ok (.aload_n 2, 1) := by decide +kernel
theorem dL_law_2641 : decode cL_law 2641 = .ok (.invokevirtual 183, 3) := by decide +kernel
theorem dL_law_2644 : decode cL_law 2644 = .ok (.iload 5, 2) := by decide +kernel
theorem dL_law_2646 : decode cL_law 2646 = .ok (.if_icmp .eq 5, 3) := by decide +kernel
theorem dL_law_2649 : decode cL_law 2649 = .ok (.iconst 0, 1) := by decide +kernel
theorem dL_law_2650 : decode cL_law 2650 = .ok (.ireturn, 1) := by decide +kernel
theorem dL_law_2651 : decode cL_law 2651 = .ok (.iload 5, 2) := by decide +kernel
theorem dL_law_2653 : decode cL_law 2653 = .ok (.ifCond .ne 15, 3) := by decide +kernel
theorem dL_law_2656 : decode cL_law 2656 = .ok (.aload_n 3, 1) := by decide +kernel
theorem dL_law_2657 : decode cL_law 2657 = .ok (.iconst 0, 1) := by decide +kernel
theorem dL_law_2658 : decode cL_law 2658 = .ok (.laload, 1) := by decide +kernel
theorem dL_law_2659 : decode cL_law 2659 = .ok (.iload 6, 2) := by decide +kernel
theorem dL_law_2661 : decode cL_law 2661 = .ok (.i2l, 1) := by decide +kernel
theorem dL_law_2662 : decode cL_law 2662 = .ok (.lcmp, 1) := by decide +kernel
theorem dL_law_2663 : decode cL_law 2663 = .ok (.ifCond .eq 5, 3) := by decide +kernel
theorem dL_law_2666 : decode cL_law 2666 = .ok (.iconst 0, 1) := by decide +kernel
theorem dL_law_2667 : decode cL_law 2667 = .ok (.ireturn, 1) := by decide +kernel
theorem dL_law_2668 : decode cL_law 2668 = .ok (.goto 480, 3) := by decide +kernel
theorem dL_law_2671 : decode cL_law 2671 = .ok (.aload_n 1, 1) := by decide +kernel
theorem dL_law_2672 : decode cL_law 2672 = .ok (.aload_n 0, 1) := by decide +kernel
theorem dL_law_2673 : decode cL_law 2673 = .ok (.iload 4, 2) := by decide +kernel
theorem dL_law_2675 : decode cL_law 2675 = .ok (.iconst 1, 1) := by decide +kernel
theorem dL_law_2676 : decode cL_law 2676 = .ok (.iadd, 1) := by decide +kernel
theorem dL_law_2677 : decode cL_law 2677 = .ok (.iaload, 1) := by decide +kernel
theorem dL_law_2678 : decode cL_law 2678 = .ok (.aload_n 0, 1) := by decide +kernel
theorem dL_law_2679 : decode cL_law 2679 = .ok (.iload 4, 2) := by decide +kernel
theorem dL_law_2681 : decode cL_law 2681 = .ok (.iconst 2, 1) := by decide +kernel
theorem dL_law_2682 : decode cL_law 2682 = .ok (.iadd, 1) := by decide +kernel
theorem dL_law_2683 : decode cL_law 2683 = .ok (.iaload, 1) := by decide +kernel
theorem dL_law_2684 : decode cL_law 2684 = .ok (.aload_n 0, 1) := by decide +kernel
theorem dL_law_2685 : decode cL_law 2685 = .ok (.iload 4, 2) := by decide +kernel
theorem dL_law_2687 : decode cL_law 2687 = .ok (.iconst 3, 1) := by decide +kernel
theorem dL_law_2688 : decode cL_law 2688 = .ok (.iadd, 1) := by decide +kernel
theorem dL_law_2689 : decode cL_law 2689 = .ok (.iaload, 1) := by decide +kernel
theorem dL_law_2690 : decode cL_law 2690 = .ok (.aload_n 0, 1) := by decide +kernel
theorem dL_law_2691 : decode cL_law 2691 = .ok (.iload 4, 2) := by decide +kernel
theorem dL_law_2693 : decode cL_law 2693 = .ok (.iconst 4, 1) := by decide +kernel
theorem dL_law_2694 : decode cL_law 2694 = .ok (.iadd, 1) := by decide +kernel
theorem dL_law_2695 : decode cL_law 2695 = .ok (.iaload, 1) := by decide +kernel
theorem dL_law_2696 : decode cL_law 2696 = .ok (.aload_n 0, 1) := by decide +kernel
theorem dL_law_2697 : decode cL_law 2697 = .ok (.iload 4, 2) := by decide +kernel
theorem dL_law_2699 : decode cL_law 2699 = .ok (.iconst 5, 1) := by decide +kernel
theorem dL_law_2700 : decode cL_law 2700 = .ok (.iadd, 1) := by decide +kernel
theorem dL_law_2701 : decode cL_law 2701 = .ok (.iaload, 1) := by decide +kernel
theorem dL_law_2702 : decode cL_law 2702 = .ok (.aload_n 3, 1) := by decide +kernel
theorem dL_law_2703 : decode cL_law 2703 = .ok (.invokestatic 345, 3) := by decide +kernel
theorem dL_law_2706 : decode cL_law 2706 = .ok (.istore 5, 2) := by decide +kernel
theorem dL_law_2708 : decode cL_law 2708 = .ok (.aload_n 2, 1) := by decide +kernel
theorem dL_law_2709 : decode cL_law 2709 = .ok (.aload_n 0, 1) := by decide +kernel
theorem dL_law_2710 : decode cL_law 2710 = .ok (.iload 4, 2) := by decide +kernel
theorem dL_law_2712 : decode cL_law 2712 = .ok (.iconst 1, 1) := by decide +kernel
theorem dL_law_2713 : decode cL_law 2713 = .ok (.iadd, 1) := by decide +kernel
theorem dL_law_2714 : decode cL_law 2714 = .ok (.iaload, 1) := by decide +kernel
theorem dL_law_2715 : decode cL_law 2715 = .ok (.aload_n 0, 1) := by decide +kernel
theorem dL_law_2716 : decode cL_law 2716 = .ok (.iload 4, 2) := by decide +kernel
theorem dL_law_2718 : decode cL_law 2718 = .ok (.iconst 2, 1) := by decide +kernel
theorem dL_law_2719 : decode cL_law 2719 = .ok (.iadd, 1) := by decide +kernel
theorem dL_law_2720 : decode cL_law 2720 = .ok (.iaload, 1) := by decide +kernel
theorem dL_law_2721 : decode cL_law 2721 = .ok (.aload_n 0, 1) := by decide +kernel
theorem dL_law_2722 : decode cL_law 2722 = .ok (.iload 4, 2) := by decide +kernel
theorem dL_law_2724 : decode cL_law 2724 = .ok (.iconst 3, 1) := by decide +kernel
theorem dL_law_2725 : decode cL_law 2725 = .ok (.iadd, 1) := by decide +kernel
theorem dL_law_2726 : decode cL_law 2726 = .ok (.iaload, 1) := by decide +kernel
theorem dL_law_2727 : decode cL_law 2727 = .ok (.aload_n 0, 1) := by decide +kernel
theorem dL_law_2728 : decode cL_law 2728 = .ok (.iload 4, 2) := by decide +kernel
theorem dL_law_2730 : decode cL_law 2730 = .ok (.iconst 4, 1) := by decide +kernel
theorem dL_law_2731 : decode cL_law 2731 = .ok (.iadd, 1) := by decide +kernel
theorem dL_law_2732 : decode cL_law 2732 = .ok (.iaload, 1) := by decide +kernel
theorem dL_law_2733 : decode cL_law 2733 = .ok (.aload_n 0, 1) := by decide +kernel
theorem dL_law_2734 : decode cL_law 2734 = .ok (.iload 4, 2) := by decide +kernel
theorem dL_law_2736 : decode cL_law 2736 = .ok (.iconst 5, 1) := by decide +kernel
theorem dL_law_2737 : decode cL_law 2737 = .ok (.iadd, 1) := by decide +kernel
theorem dL_law_2738 : decode cL_law 2738 = .ok (.iaload, 1) := by decide +kernel
theorem dL_law_2739 : decode cL_law 2739 = .ok (.invokevirtual 348, 3) := by decide +kernel
theorem dL_law_2742 : decode cL_law 2742 = .ok (.istore 6, 2) := by decide +kernel
theorem dL_law_2744 : decode cL_law 2744 = .ok (.aload_n 2, 1) := by decide +kernel
theorem dL_law_2745 : decode cL_law 2745 = .ok (.invokevirtual 183, 3) := by decide +kernel
theorem dL_law_2748 : decode cL_law 2748 = .ok (.iload 5, 2) := by decide +kernel
theorem dL_law_2750 : decode cL_law 2750 = .ok (.if_icmp .eq 5, 3) := by decide +kernel
theorem dL_law_2753 : decode cL_law 2753 = .ok (.iconst 0, 1) := by decide +kernel
theorem dL_law_2754 : decode cL_law 2754 = .ok (.ireturn, 1) := by decide +kernel
theorem dL_law_2755 : decode cL_law 2755 = .ok (.iload 5, 2) := by decide +kernel
theorem dL_law_2757 : decode cL_law 2757 = .ok (.ifCond .ne 15, 3) := by decide +kernel
theorem dL_law_2760 : decode cL_law 2760 = .ok (.aload_n 3, 1) := by decide +kernel
theorem dL_law_2761 : decode cL_law 2761 = .ok (.iconst 0, 1) := by decide +kernel
theorem dL_law_2762 : decode cL_law 2762 = .ok (.laload, 1) := by decide +kernel
theorem dL_law_2763 : decode cL_law 2763 = .ok (.iload 6, 2) := by decide +kernel
theorem dL_law_2765 : decode cL_law 2765 = .ok (.i2l, 1) := by decide +kernel
theorem dL_law_2766 : decode cL_law 2766 = .ok (.lcmp, 1) := by decide +kernel
theorem dL_law_2767 : decode cL_law 2767 = .ok (.ifCond .eq 5, 3) := by decide +kernel
theorem dL_law_2770 : decode cL_law 2770 = .ok (.iconst 0, 1) := by decide +kernel
theorem dL_law_2771 : decode cL_law 2771 = .ok (.ireturn, 1) := by decide +kernel
theorem dL_law_2772 : decode cL_law 2772 = .ok (.goto 376, 3) := by decide +kernel
theorem dL_law_2775 : decode cL_law 2775 = .ok (.aload_n 1, 1) := by decide +kernel
theorem dL_law_2776 : decode cL_law 2776 = .ok (.aload_n 0, 1) := by decide +kernel
theorem dL_law_2777 : decode cL_law 2777 = .ok (.iload 4, 2) := by decide +kernel
theorem dL_law_2779 : decode cL_law 2779 = .ok (.iconst 1, 1) := by decide +kernel
theorem dL_law_2780 : decode cL_law 2780 = .ok (.iadd, 1) := by decide +kernel
theorem dL_law_2781 : decode cL_law 2781 = .ok (.iaload, 1) := by decide +kernel
theorem dL_law_2782 : decode cL_law 2782 = .ok (.aload_n 0, 1) := by decide +kernel
theorem dL_law_2783 : decode cL_law 2783 = .ok (.iload 4, 2) := by decide +kernel
theorem dL_law_2785 : decode cL_law 2785 = .ok (.iconst 2, 1) := by decide +kernel
theorem dL_law_2786 : decode cL_law 2786 = .ok (.iadd, 1) := by decide +kernel
theorem dL_law_2787 : decode cL_law 2787 = .ok (.iaload, 1) := by decide +kernel
theorem dL_law_2788 : decode cL_law 2788 = .ok (.aload_n 0, 1) := by decide +kernel
theorem dL_law_2789 : decode cL_law 2789 = .ok (.iload 4, 2) := by decide +kernel
theorem dL_law_2791 : decode cL_law 2791 = .ok (.iconst 3, 1) := by decide +kernel
theorem dL_law_2792 : decode cL_law 2792 = .ok (.iadd, 1) := by decide +kernel
theorem dL_law_2793 : decode cL_law 2793 = .ok (.iaload, 1) := by decide +kernel
theorem dL_law_2794 : decode cL_law 2794 = .ok (.aload_n 3, 1) := by decide +kernel
theorem dL_law_2795 : decode cL_law 2795 = .ok (.invokestatic 349, 3) := by decide +kernel
theorem dL_law_2798 : decode cL_law 2798 = .ok (.istore 5, 2) := by decide +kernel
theorem dL_law_2800 : decode cL_law 2800 = .ok (.aload_n 2, 1) := by decide +kernel
theorem dL_law_2801 : decode cL_law 2801 = .ok (.aload_n 0, 1) := by decide +kernel
theorem dL_law_2802 : decode cL_law 2802 = .ok (.iload 4, 2) := by decide +kernel
theorem dL_law_2804 : decode cL_law 2804 = .ok (.iconst 1, 1) := by decide +kernel
theorem dL_law_2805 : decode cL_law 2805 = .ok (.iadd, 1) := by decide +kernel
theorem dL_law_2806 : decode cL_law 2806 = .ok (.iaload, 1) := by decide +kernel
theorem dL_law_2807 : decode cL_law 2807 = .ok (.aload_n 0, 1) := by decide +kernel
theorem dL_law_2808 : decode cL_law 2808 = .ok (.iload 4, 2) := by decide +kernel
theorem dL_law_2810 : decode cL_law 2810 = .ok (.iconst 2, 1) := by decide +kernel
theorem dL_law_2811 : decode cL_law 2811 = .ok (.iadd, 1) := by decide +kernel
theorem dL_law_2812 : decode cL_law 2812 = .ok (.iaload, 1) := by decide +kernel
theorem dL_law_2813 : decode cL_law 2813 = .ok (.aload_n 0, 1) := by decide +kernel
theorem dL_law_2814 : decode cL_law 2814 = .ok (.iload 4, 2) := by decide +kernel
theorem dL_law_2816 : decode cL_law 2816 = .ok (.iconst 3, 1) := by decide +kernel
theorem dL_law_2817 : decode cL_law 2817 = .ok (.iadd, 1) := by decide +kernel
theorem dL_law_2818 : decode cL_law 2818 = .ok (.iaload, 1) := by decide +kernel
theorem dL_law_2819 : decode cL_law 2819 = .ok (.invokevirtual 351, 3) := by decide +kernel
theorem dL_law_2822 : decode cL_law 2822 = .ok (.istore 6, 2) := by decide +kernel
theorem dL_law_2824 : decode cL_law 2824 = .ok (.aload_n 2, 1) := by decide +kernel
theorem dL_law_2825 : decode cL_law 2825 = .ok (.invokevirtual 183, 3) := by decide +kernel
theorem dL_law_2828 : decode cL_law 2828 = .ok (.iload 5, 2) := by decide +kernel
theorem dL_law_2830 : decode cL_law 2830 = .ok (.if_icmp .eq 5, 3) := by decide +kernel
theorem dL_law_2833 : decode cL_law 2833 = .ok (.iconst 0, 1) := by decide +kernel
theorem dL_law_2834 : decode cL_law 2834 = .ok (.ireturn, 1) := by decide +kernel
theorem dL_law_2835 : decode cL_law 2835 = .ok (.iload 5, 2) := by decide +kernel
theorem dL_law_2837 : decode cL_law 2837 = .ok (.ifCond .ne 15, 3) := by decide +kernel
theorem dL_law_2840 : decode cL_law 2840 = .ok (.aload_n 3, 1) := by decide +kernel
theorem dL_law_2841 : decode cL_law 2841 = .ok (.iconst 0, 1) := by decide +kernel
theorem dL_law_2842 : decode cL_law 2842 = .ok (.laload, 1) := by decide +kernel
theorem dL_law_2843 : decode cL_law 2843 = .ok (.iload 6, 2) := by decide +kernel
theorem dL_law_2845 : decode cL_law 2845 = .ok (.i2l, 1) := by decide +kernel
theorem dL_law_2846 : decode cL_law 2846 = .ok (.lcmp, 1) := by decide +kernel
theorem dL_law_2847 : decode cL_law 2847 = .ok (.ifCond .eq 5, 3) := by decide +kernel
theorem dL_law_2850 : decode cL_law 2850 = .ok (.iconst 0, 1) := by decide +kernel
theorem dL_law_2851 : decode cL_law 2851 = .ok (.ireturn, 1) := by decide +kernel
theorem dL_law_2852 : decode cL_law 2852 = .ok (.goto 296, 3) := by decide +kernel
theorem dL_law_2855 : decode cL_law 2855 = .ok (.aload_n 1, 1) := by decide +kernel
theorem dL_law_2856 : decode cL_law 2856 = .ok (.aload_n 0, 1) := by decide +kernel
theorem dL_law_2857 : decode cL_law 2857 = .ok (.iload 4, 2) := by decide +kernel
theorem dL_law_2859 : decode cL_law 2859 = .ok (.iconst 1, 1) := by decide +kernel
theorem dL_law_2860 : decode cL_law 2860 = .ok (.iadd, 1) := by decide +kernel
theorem dL_law_2861 : decode cL_law 2861 = .ok (.iaload, 1) := by decide +kernel
theorem dL_law_2862 : decode cL_law 2862 = .ok (.aload_n 3, 1) := by decide +kernel
theorem dL_law_2863 : decode cL_law 2863 = .ok (.invokestatic 352, 3) := by decide +kernel
theorem dL_law_2866 : decode cL_law 2866 = .ok (.istore 5, 2) := by decide +kernel
theorem dL_law_2868 : decode cL_law 2868 = .ok (.aload_n 2, 1) := by decide +kernel
theorem dL_law_2869 : decode cL_law 2869 = .ok (.aload_n 0, 1) := by decide +kernel
theorem dL_law_2870 : decode cL_law 2870 = .ok (.iload 4, 2) := by decide +kernel
theorem dL_law_2872 : decode cL_law 2872 = .ok (.iconst 1, 1) := by decide +kernel
theorem dL_law_2873 : decode cL_law 2873 = .ok (.iadd, 1) := by decide +kernel
theorem dL_law_2874 : decode cL_law 2874 = .ok (.iaload, 1) := by decide +kernel
theorem dL_law_2875 : decode cL_law 2875 = .ok (.invokevirtual 354, 3) := by decide +kernel
theorem dL_law_2878 : decode cL_law 2878 = .ok (.istore 6, 2) := by decide +kernel
theorem dL_law_2880 : decode cL_law 2880 = .ok (.aload_n 2, 1) := by decide +kernel
theorem dL_law_2881 : decode cL_law 2881 = .ok (.invokevirtual 183, 3) := by decide +kernel
theorem dL_law_2884 : decode cL_law 2884 = .ok (.iload 5, 2) := by decide +kernel
theorem dL_law_2886 : decode cL_law 2886 = .ok (.if_icmp .eq 5, 3) := by decide +kernel
theorem dL_law_2889 : decode cL_law 2889 = .ok (.iconst 0, 1) := by decide +kernel
theorem dL_law_2890 : decode cL_law 2890 = .ok (.ireturn, 1) := by decide +kernel
theorem dL_law_2891 : decode cL_law 2891 = .ok (.iload 5, 2) := by decide +kernel
theorem dL_law_2893 : decode cL_law 2893 = .ok (.ifCond .ne 15, 3) := by decide +kernel
theorem dL_law_2896 : decode cL_law 2896 = .ok (.aload_n 3, 1) := by decide +kernel
theorem dL_law_2897 : decode cL_law 2897 = .ok (.iconst 0, 1) := by decide +kernel
theorem dL_law_2898 : decode cL_law 2898 = .ok (.laload, 1) := by decide +kernel
theorem dL_law_2899 : decode cL_law 2899 = .ok (.iload 6, 2) := by decide +kernel
theorem dL_law_2901 : decode cL_law 2901 = .ok (.i2l, 1) := by decide +kernel
theorem dL_law_2902 : decode cL_law 2902 = .ok (.lcmp, 1) := by decide +kernel
theorem dL_law_2903 : decode cL_law 2903 = .ok (.ifCond .eq 5, 3) := by decide +kernel
theorem dL_law_2906 : decode cL_law 2906 = .ok (.iconst 0, 1) := by decide +kernel
theorem dL_law_2907 : decode cL_law 2907 = .ok (.ireturn, 1) := by decide +kernel
theorem dL_law_2908 : decode cL_law 2908 = .ok (.goto 240, 3) := by decide +kernel
theorem dL_law_2911 : decode cL_law 2911 = .ok (.aload_n 1, 1) := by decide +kernel
theorem dL_law_2912 : decode cL_law 2912 = .ok (.aload_n 3, 1) := by decide +kernel
theorem dL_law_2913 : decode cL_law 2913 = .ok (.invokestatic 355, 3) := by decide +kernel
theorem dL_law_2916 : decode cL_law 2916 = .ok (.istore 5, 2) := by decide +kernel
theorem dL_law_2918 : decode cL_law 2918 = .ok (.aload_n 2, 1) := by decide +kernel
theorem dL_law_2919 : decode cL_law 2919 = .ok (.invokevirtual 358, 3) := by decide +kernel
theorem dL_law_2922 : decode cL_law 2922 = .ok (.istore 6, 2) := by decide +kernel
theorem dL_law_2924 : decode cL_law 2924 = .ok (.aload_n 2, 1) := by decide +kernel
theorem dL_law_2925 : decode cL_law 2925 = .ok (.invokevirtual 183, 3) := by decide +kernel
theorem dL_law_2928 : decode cL_law 2928 = .ok (.iload 5, 2) := by decide +kernel
theorem dL_law_2930 : decode cL_law 2930 = .ok (.if_icmp .eq 5, 3) := by decide +kernel
theorem dL_law_2933 : decode cL_law 2933 = .ok (.iconst 0, 1) := by decide +kernel
theorem dL_law_2934 : decode cL_law 2934 = .ok (.ireturn, 1) := by decide +kernel
theorem dL_law_2935 : decode cL_law 2935 = .ok (.iload 5, 2) := by decide +kernel
theorem dL_law_2937 : decode cL_law 2937 = .ok (.ifCond .ne 15, 3) := by decide +kernel
theorem dL_law_2940 : decode cL_law 2940 = .ok (.aload_n 3, 1) := by decide +kernel
theorem dL_law_2941 : decode cL_law 2941 = .ok (.iconst 0, 1) := by decide +kernel
theorem dL_law_2942 : decode cL_law 2942 = .ok (.laload, 1) := by decide +kernel
theorem dL_law_2943 : decode cL_law 2943 = .ok (.iload 6, 2) := by decide +kernel
theorem dL_law_2945 : decode cL_law 2945 = .ok (.i2l, 1) := by decide +kernel
theorem dL_law_2946 : decode cL_law 2946 = .ok (.lcmp, 1) := by decide +kernel
theorem dL_law_2947 : decode cL_law 2947 = .ok (.ifCond .eq 5, 3) := by decide +kernel
theorem dL_law_2950 : decode cL_law 2950 = .ok (.iconst 0, 1) := by decide +kernel
theorem dL_law_2951 : decode cL_law 2951 = .ok (.ireturn, 1) := by decide +kernel
theorem dL_law_2952 : decode cL_law 2952 = .ok (.goto 196, 3) := by decide +kernel
theorem dL_law_2955 : decode cL_law 2955 = .ok (.aload_n 1, 1) := by decide +kernel
theorem dL_law_2956 : decode cL_law 2956 = .ok (.aload_n 0, 1) := by decide +kernel
theorem dL_law_2957 : decode cL_law 2957 = .ok (.iload 4, 2) := by decide +kernel
theorem dL_law_2959 : decode cL_law 2959 = .ok (.iconst 1, 1) := by decide +kernel
theorem dL_law_2960 : decode cL_law 2960 = .ok (.iadd, 1) := by decide +kernel
theorem dL_law_2961 : decode cL_law 2961 = .ok (.iaload, 1) := by decide +kernel
theorem dL_law_2962 : decode cL_law 2962 = .ok (.aload_n 3, 1) := by decide +kernel
theorem dL_law_2963 : decode cL_law 2963 = .ok (.invokestatic 359, 3) := by decide +kernel
theorem dL_law_2966 : decode cL_law 2966 = .ok (.istore 5, 2) := by decide +kernel
theorem dL_law_2968 : decode cL_law 2968 = .ok (.aload_n 2, 1) := by decide +kernel
theorem dL_law_2969 : decode cL_law 2969 = .ok (.aload_n 0, 1) := by decide +kernel
theorem dL_law_2970 : decode cL_law 2970 = .ok (.iload 4, 2) := by decide +kernel
theorem dL_law_2972 : decode cL_law 2972 = .ok (.iconst 1, 1) := by decide +kernel
theorem dL_law_2973 : decode cL_law 2973 = .ok (.iadd, 1) := by decide +kernel
theorem dL_law_2974 : decode cL_law 2974 = .ok (.iaload, 1) := by decide +kernel
theorem dL_law_2975 : decode cL_law 2975 = .ok (.invokevirtual 361, 3) := by decide +kernel
theorem dL_law_2978 : decode cL_law 2978 = .ok (.istore 6, 2) := by decide +kernel
theorem dL_law_2980 : decode cL_law 2980 = .ok (.aload_n 2, 1) := by decide +kernel
theorem dL_law_2981 : decode cL_law 2981 = .ok (.invokevirtual 183, 3) := by decide +kernel
theorem dL_law_2984 : decode cL_law 2984 = .ok (.iload 5, 2) := by decide +kernel
theorem dL_law_2986 : decode cL_law 2986 = .ok (.if_icmp .eq 5, 3) := by decide +kernel
theorem dL_law_2989 : decode cL_law 2989 = .ok (.iconst 0, 1) := by decide +kernel
theorem dL_law_2990 : decode cL_law 2990 = .ok (.ireturn, 1) := by decide +kernel
theorem dL_law_2991 : decode cL_law 2991 = .ok (.iload 5, 2) := by decide +kernel
theorem dL_law_2993 : decode cL_law 2993 = .ok (.ifCond .ne 15, 3) := by decide +kernel
theorem dL_law_2996 : decode cL_law 2996 = .ok (.aload_n 3, 1) := by decide +kernel
theorem dL_law_2997 : decode cL_law 2997 = .ok (.iconst 0, 1) := by decide +kernel
theorem dL_law_2998 : decode cL_law 2998 = .ok (.laload, 1) := by decide +kernel
theorem dL_law_2999 : decode cL_law 2999 = .ok (.iload 6, 2) := by decide +kernel
theorem dL_law_3001 : decode cL_law 3001 = .ok (.i2l, 1) := by decide +kernel
theorem dL_law_3002 : decode cL_law 3002 = .ok (.lcmp, 1) := by decide +kernel
theorem dL_law_3003 : decode cL_law 3003 = .ok (.ifCond .eq 5, 3) := by decide +kernel
theorem dL_law_3006 : decode cL_law 3006 = .ok (.iconst 0, 1) := by decide +kernel
theorem dL_law_3007 : decode cL_law 3007 = .ok (.ireturn, 1) := by decide +kernel
theorem dL_law_3008 : decode cL_law 3008 = .ok (.goto 140, 3) := by decide +kernel
theorem dL_law_3011 : decode cL_law 3011 = .ok (.aload_n 1, 1) := by decide +kernel
theorem dL_law_3012 : decode cL_law 3012 = .ok (.aload_n 0, 1) := by decide +kernel
theorem dL_law_3013 : decode cL_law 3013 = .ok (.iload 4, 2) := by decide +kernel
theorem dL_law_3015 : decode cL_law 3015 = .ok (.iconst 1, 1) := by decide +kernel
theorem dL_law_3016 : decode cL_law 3016 = .ok (.iadd, 1) := by decide +kernel
theorem dL_law_3017 : decode cL_law 3017 = .ok (.iaload, 1) := by decide +kernel
theorem dL_law_3018 : decode cL_law 3018 = .ok (.aload_n 3, 1) := by decide +kernel
theorem dL_law_3019 : decode cL_law 3019 = .ok (.invokestatic 362, 3) := by decide +kernel
theorem dL_law_3022 : decode cL_law 3022 = .ok (.istore 5, 2) := by decide +kernel
theorem dL_law_3024 : decode cL_law 3024 = .ok (.aload_n 2, 1) := by decide +kernel
theorem dL_law_3025 : decode cL_law 3025 = .ok (.aload_n 0, 1) := by decide +kernel
theorem dL_law_3026 : decode cL_law 3026 = .ok (.iload 4, 2) := by decide +kernel
theorem dL_law_3028 : decode cL_law 3028 = .ok (.iconst 1, 1) := by decide +kernel
theorem dL_law_3029 : decode cL_law 3029 = .ok (.iadd, 1) := by decide +kernel
theorem dL_law_3030 : decode cL_law 3030 = .ok (.iaload, 1) := by decide +kernel
theorem dL_law_3031 : decode cL_law 3031 = .ok (.invokevirtual 364, 3) := by decide +kernel
theorem dL_law_3034 : decode cL_law 3034 = .ok (.istore 6, 2) := by decide +kernel
theorem dL_law_3036 : decode cL_law 3036 = .ok (.aload_n 2, 1) := by decide +kernel
theorem dL_law_3037 : decode cL_law 3037 = .ok (.invokevirtual 183, 3) := by decide +kernel
theorem dL_law_3040 : decode cL_law 3040 = .ok (.iload 5, 2) := by decide +kernel
theorem dL_law_3042 : decode cL_law 3042 = .ok (.if_icmp .eq 5, 3) := by decide +kernel
theorem dL_law_3045 : decode cL_law 3045 = .ok (.iconst 0, 1) := by decide +kernel
theorem dL_law_3046 : decode cL_law 3046 = .ok (.ireturn, 1) := by decide +kernel
theorem dL_law_3047 : decode cL_law 3047 = .ok (.iload 5, 2) := by decide +kernel
theorem dL_law_3049 : decode cL_law 3049 = .ok (.ifCond .ne 15, 3) := by decide +kernel
theorem dL_law_3052 : decode cL_law 3052 = .ok (.aload_n 3, 1) := by decide +kernel
theorem dL_law_3053 : decode cL_law 3053 = .ok (.iconst 0, 1) := by decide +kernel
theorem dL_law_3054 : decode cL_law 3054 = .ok (.laload, 1) := by decide +kernel
theorem dL_law_3055 : decode cL_law 3055 = .ok (.iload 6, 2) := by decide +kernel
theorem dL_law_3057 : decode cL_law 3057 = .ok (.i2l, 1) := by decide +kernel
theorem dL_law_3058 : decode cL_law 3058 = .ok (.lcmp, 1) := by decide +kernel
theorem dL_law_3059 : decode cL_law 3059 = .ok (.ifCond .eq 5, 3) := by decide +kernel
theorem dL_law_3062 : decode cL_law 3062 = .ok (.iconst 0, 1) := by decide +kernel
theorem dL_law_3063 : decode cL_law 3063 = .ok (.ireturn, 1) := by decide +kernel
theorem dL_law_3064 : decode cL_law 3064 = .ok (.goto 84, 3) := by decide +kernel
theorem dL_law_3067 : decode cL_law 3067 = .ok (.aload_n 1, 1) := by decide +kernel
theorem dL_law_3068 : decode cL_law 3068 = .ok (.aload_n 0, 1) := by decide +kernel
theorem dL_law_3069 : decode cL_law 3069 = .ok (.iload 4, 2) := by decide +kernel
theorem dL_law_3071 : decode cL_law 3071 = .ok (.iconst 1, 1) := by decide +kernel
theorem dL_law_3072 : decode cL_law 3072 = .ok (.iadd, 1) := by decide +kernel
theorem dL_law_3073 : decode cL_law 3073 = .ok (.iaload, 1) := by decide +kernel
theorem dL_law_3074 : decode cL_law 3074 = .ok (.aload_n 3, 1) := by decide +kernel
theorem dL_law_3075 : decode cL_law 3075 = .ok (.invokestatic 365, 3) := by decide +kernel
theorem dL_law_3078 : decode cL_law 3078 = .ok (.istore 5, 2) := by decide +kernel
theorem dL_law_3080 : decode cL_law 3080 = .ok (.aload_n 2, 1) := by decide +kernel
theorem dL_law_3081 : decode cL_law 3081 = .ok (.aload_n 0, 1) := by decide +kernel
theorem dL_law_3082 : decode cL_law 3082 = .ok (.iload 4, 2) := by decide +kernel
theorem dL_law_3084 : decode cL_law 3084 = .ok (.iconst 1, 1) := by decide +kernel
theorem dL_law_3085 : decode cL_law 3085 = .ok (.iadd, 1) := by decide +kernel
theorem dL_law_3086 : decode cL_law 3086 = .ok (.iaload, 1) := by decide +kernel
theorem dL_law_3087 : decode cL_law 3087 = .ok (.invokevirtual 367, 3) := by decide +kernel
theorem dL_law_3090 : decode cL_law 3090 = .ok (.istore 6, 2) := by decide +kernel
theorem dL_law_3092 : decode cL_law 3092 = .ok (.aload_n 2, 1) := by decide +kernel
theorem dL_law_3093 : decode cL_law 3093 = .ok (.invokevirtual 183, 3) := by decide +kernel
theorem dL_law_3096 : decode cL_law 3096 = .ok (.iload 5, 2) := by decide +kernel
theorem dL_law_3098 : decode cL_law 3098 = .ok (.if_icmp .eq 5, 3) := by decide +kernel
theorem dL_law_3101 : decode cL_law 3101 = .ok (.iconst 0, 1) := by decide +kernel
theorem dL_law_3102 : decode cL_law 3102 = .ok (.ireturn, 1) := by decide +kernel
theorem dL_law_3103 : decode cL_law 3103 = .ok (.iload 5, 2) := by decide +kernel
theorem dL_law_3105 : decode cL_law 3105 = .ok (.ifCond .ne 15, 3) := by decide +kernel
theorem dL_law_3108 : decode cL_law 3108 = .ok (.aload_n 3, 1) := by decide +kernel
theorem dL_law_3109 : decode cL_law 3109 = .ok (.iconst 0, 1) := by decide +kernel
theorem dL_law_3110 : decode cL_law 3110 = .ok (.laload, 1) := by decide +kernel
theorem dL_law_3111 : decode cL_law 3111 = .ok (.iload 6, 2) := by decide +kernel
theorem dL_law_3113 : decode cL_law 3113 = .ok (.i2l, 1) := by decide +kernel
theorem dL_law_3114 : decode cL_law 3114 = .ok (.lcmp, 1) := by decide +kernel
theorem dL_law_3115 : decode cL_law 3115 = .ok (.ifCond .eq 5, 3) := by decide +kernel
theorem dL_law_3118 : decode cL_law 3118 = .ok (.iconst 0, 1) := by decide +kernel
theorem dL_law_3119 : decode cL_law 3119 = .ok (.ireturn, 1) := by decide +kernel
theorem dL_law_3120 : decode cL_law 3120 = .ok (.goto 28, 3) := by decide +kernel
theorem dL_law_3123 : decode cL_law 3123 = .ok (.aload_n 1, 1) := by decide +kernel
theorem dL_law_3124 : decode cL_law 3124 = .ok (.aload_n 0, 1) := by decide +kernel
theorem dL_law_3125 : decode cL_law 3125 = .ok (.iload 4, 2) := by decide +kernel
theorem dL_law_3127 : decode cL_law 3127 = .ok (.iconst 1, 1) := by decide +kernel
theorem dL_law_3128 : decode cL_law 3128 = .ok (.iadd, 1) := by decide +kernel
theorem dL_law_3129 : decode cL_law 3129 = .ok (.iaload, 1) := by decide +kernel
theorem dL_law_3130 : decode cL_law 3130 = .ok (.invokevirtual 368, 3) := by decide +kernel
theorem dL_law_3133 : decode cL_law 3133 = .ok (.aload_n 2, 1) := by decide +kernel
theorem dL_law_3134 : decode cL_law 3134 = .ok (.aload_n 0, 1) := by decide +kernel
theorem dL_law_3135 : decode cL_law 3135 = .ok (.iload 4, 2) := by decide +kernel
theorem dL_law_3137 : decode cL_law 3137 = .ok (.iconst 1, 1) := by decide +kernel
theorem dL_law_3138 : decode cL_law 3138 = .ok (.iadd, 1) := by decide +kernel
theorem dL_law_3139 : decode cL_law 3139 = .ok (.iaload, 1) := by decide +kernel
theorem dL_law_3140 : decode cL_law 3140 = .ok (.invokevirtual 371, 3) := by decide +kernel
theorem dL_law_3143 : decode cL_law 3143 = .ok (.if_icmp .eq 5, 3) := by decide +kernel
theorem dL_law_3146 : decode cL_law 3146 = .ok (.iconst 0, 1) := by decide +kernel
theorem dL_law_3147 : decode cL_law 3147 = .ok (.ireturn, 1) := by decide +kernel
theorem dL_law_3148 : decode cL_law 3148 = .ok (.iinc 4 6, 3) := by decide +kernel
theorem dL_law_3151 : decode cL_law 3151 = .ok (.goto (-3128), 3) := by decide +kernel
theorem dL_law_3154 : decode cL_law 3154 = .ok (.iconst 1, 1) := by decide +kernel
theorem dL_law_3155 : decode cL_law 3155 = .ok (.ireturn, 1) := by decide +kernel
theorem cL_0 {p : Program} {l : Launch} {e : Env} {s : State} {m : MethodId} {args : Array Value} {below : List Frame} {meth : Method} {c : Code} {H : Heap} {locs : List Loc} {cells slots : Nat} {Q : State → Prop} {ls : Array Slot} {D : va_G} {E : bE} {a : Nat} {v u : bM} {f : Nat → Int64} {b L : Nat} {xs : Nat → Int32} {i : Nat} {v' u' : bM} {r : Int32} (X : bCx p s m args meth c RL cL_law 9 D E) (hB : uB D E a v u f b L xs s H locs) (hl : lv_has ls 9 [(4, .int (nI i)), (3, .ref (a + 876)), (2, .ref (a + 866)), (1, .ref a), (0, .ref b)]) (hL : L ≤ 3072) (hi : i + 5 < L) (hf8 : fX8_feed (xs (i + 1)) (xs (i + 2)) (xs (i + 3)) (xs (i + 4)) (xs (i + 5)) v = some (r, v')) (hf9 : fX9_feed (xs (i + 1)) (xs (i + 2)) (xs (i + 3)) (xs (i + 4)) (xs (i + 5)) u = some (r, u')) (hc : cells + 20 ≤ 601024 ∧ slots + 3830 ≤ 7293034) (kk : ∀ (ls : Array Slot) (H : Heap) (locs : List Loc), lv_has ls 9 [(4, .int (nI i)), (3, .ref (a + 876)), (2, .ref (a + 866)), (1, .ref a), (0, .ref b)] → uB D E a v' u' f b L xs s H locs → W p l e room_1 s m args below meth c H locs cells slots Q (F0 m 3148 ls [])) : W p l e room_1 s m args below meth c H locs cells slots Q (F0 m 312 ls []) := by
  have hx := X.1
  have hb := X.2.1
  refine lv_aload_n hx hb dL_law_312 rfl (lv_at hl 3 rfl) ?_
  refine u_scr X hB (i := i) 1 hL (by omega) (lv_at hl 4 rfl) (lv_at hl 0 rfl) (by decide) dL_law_313 dL_law_314 dL_law_316 dL_law_317 dL_law_318 ?_
  refine u_scr X hB (i := i) 2 hL (by omega) (lv_at hl 4 rfl) (lv_at hl 0 rfl) (by decide) dL_law_319 dL_law_320 dL_law_322 dL_law_323 dL_law_324 ?_
  refine u_scr X hB (i := i) 3 hL (by omega) (lv_at hl 4 rfl) (lv_at hl 0 rfl) (by decide) dL_law_325 dL_law_326 dL_law_328 dL_law_329 dL_law_330 ?_
  refine u_scr X hB (i := i) 4 hL (by omega) (lv_at hl 4 rfl) (lv_at hl 0 rfl) (by decide) dL_law_331 dL_law_332 dL_law_334 dL_law_335 dL_law_336 ?_
  refine u_scr X hB (i := i) 5 hL (by omega) (lv_at hl 4 rfl) (lv_at hl 0 rfl) (by decide) dL_law_337 dL_law_338 dL_law_340 dL_law_341 dL_law_342 ?_
  refine u_goX hB (bk_runV X (Av := [.int (xs (i + 1)), .int (xs (i + 2)), .int (xs (i + 3)), .int (xs (i + 4)), .int (xs (i + 5))]) (rest := []) (mX8_feed hf8) yv_X8_feed wm_676 ⟨Nat.le_of_ble_eq_true rfl, Nat.le_of_ble_eq_true rfl⟩ rfl rfl hl.1 kl_X8.1 (hB.1.obj lcq_X_0) hB.1 hB.lenX hB.hX (Nat.le_of_ble_eq_true rfl) ⟨by show cells + 0 ≤ 601024; omega, by show slots + 0 ≤ 7293034; omega⟩ dL_law_343) (fun H locs hB => ?_)
  refine W.eq (g2 := F0 m 346 ls [.int r]) rfl ?_
  refine lv_aload_n hx hb dL_law_346 rfl (lv_at hl 2 rfl) ?_
  refine u_scr X hB (i := i) 1 hL (by omega) (lv_at hl 4 rfl) (lv_at hl 0 rfl) (by decide) dL_law_347 dL_law_348 dL_law_350 dL_law_351 dL_law_352 ?_
  refine u_scr X hB (i := i) 2 hL (by omega) (lv_at hl 4 rfl) (lv_at hl 0 rfl) (by decide) dL_law_353 dL_law_354 dL_law_356 dL_law_357 dL_law_358 ?_
  refine u_scr X hB (i := i) 3 hL (by omega) (lv_at hl 4 rfl) (lv_at hl 0 rfl) (by decide) dL_law_359 dL_law_360 dL_law_362 dL_law_363 dL_law_364 ?_
  refine u_scr X hB (i := i) 4 hL (by omega) (lv_at hl 4 rfl) (lv_at hl 0 rfl) (by decide) dL_law_365 dL_law_366 dL_law_368 dL_law_369 dL_law_370 ?_
  refine u_scr X hB (i := i) 5 hL (by omega) (lv_at hl 4 rfl) (lv_at hl 0 rfl) (by decide) dL_law_371 dL_law_372 dL_law_374 dL_law_375 dL_law_376 ?_
  refine u_goM hB (bk_runV X (Av := [.int (xs (i + 1)), .int (xs (i + 2)), .int (xs (i + 3)), .int (xs (i + 4)), .int (xs (i + 5))]) (rest := [.int r]) (mX9_feed hf9) yv_X9_feed wm_1925 ⟨Nat.le_of_ble_eq_true rfl, Nat.le_of_ble_eq_true rfl⟩ rfl rfl hl.1 kl_X9.1 (hB.2.1.obj lc_Mo_0) hB.2.1 hB.lenM hB.hM (Nat.le_of_ble_eq_true rfl) ⟨by show cells + 0 + 0 ≤ 601024; omega, by show slots + 0 + 0 ≤ 7293034; omega⟩ dL_law_377) (fun H locs hB => ?_)
  refine W.eq (g2 := F0 m 380 ls [.int r, .int r]) rfl ?_
  exact lv_icmp_eq (tgt := 3148) hx hb dL_law_380 (by decide) (fun _ => kk ls H locs hl hB) (fun h => absurd rfl h)
theorem cL_1 {p : Program} {l : Launch} {e : Env} {s : State} {m : MethodId} {args : Array Value} {below : List Frame} {meth : Method} {c : Code} {H : Heap} {locs : List Loc} {cells slots : Nat} {Q : State → Prop} {ls : Array Slot} {D : va_G} {E : bE} {a : Nat} {v u : bM} {f : Nat → Int64} {b L : Nat} {xs : Nat → Int32} {i : Nat} {v' u' : bM} {r : Int32} (X : bCx p s m args meth c RL cL_law 9 D E) (hB : uB D E a v u f b L xs s H locs) (hl : lv_has ls 9 [(4, .int (nI i)), (3, .ref (a + 876)), (2, .ref (a + 866)), (1, .ref a), (0, .ref b)]) (hL : L ≤ 3072) (hi : i + 5 < L) (hf8 : fX8_loadSetup  v = some (r, v')) (hf9 : fX9_loadSetup  u = some (r, u')) (hc : cells + 20 ≤ 601024 ∧ slots + 3830 ≤ 7293034) (kk : ∀ (ls : Array Slot) (H : Heap) (locs : List Loc), lv_has ls 9 [(4, .int (nI i)), (3, .ref (a + 876)), (2, .ref (a + 866)), (1, .ref a), (0, .ref b)] → uB D E a v' u' f b L xs s H locs → W p l e room_1 s m args below meth c H locs cells slots Q (F0 m 3148 ls [])) : W p l e room_1 s m args below meth c H locs cells slots Q (F0 m 385 ls []) := by
  have hx := X.1
  have hb := X.2.1
  refine lv_aload_n hx hb dL_law_385 rfl (lv_at hl 3 rfl) ?_
  refine u_goX hB (bk_runV X (Av := []) (rest := []) (mX8_loadSetup hf8) yv_X8_loadSetup wm_687 ⟨Nat.le_of_ble_eq_true rfl, Nat.le_of_ble_eq_true rfl⟩ rfl rfl hl.1 kl_X8.1 (hB.1.obj lcq_X_0) hB.1 hB.lenX hB.hX (Nat.le_of_ble_eq_true rfl) ⟨by show cells + 0 ≤ 601024; omega, by show slots + 0 ≤ 7293034; omega⟩ dL_law_386) (fun H locs hB => ?_)
  refine W.eq (g2 := F0 m 389 ls [.int r]) rfl ?_
  refine lv_aload_n hx hb dL_law_389 rfl (lv_at hl 2 rfl) ?_
  refine u_goM hB (bk_runV X (Av := []) (rest := [.int r]) (mX9_loadSetup hf9) yv_X9_loadSetup wm_1932 ⟨Nat.le_of_ble_eq_true rfl, Nat.le_of_ble_eq_true rfl⟩ rfl rfl hl.1 kl_X9.1 (hB.2.1.obj lc_Mo_0) hB.2.1 hB.lenM hB.hM (Nat.le_of_ble_eq_true rfl) ⟨by show cells + 0 + 0 ≤ 601024; omega, by show slots + 0 + 0 ≤ 7293034; omega⟩ dL_law_390) (fun H locs hB => ?_)
  refine W.eq (g2 := F0 m 393 ls [.int r, .int r]) rfl ?_
  exact lv_icmp_eq (tgt := 3148) hx hb dL_law_393 (by decide) (fun _ => kk ls H locs hl hB) (fun h => absurd rfl h)
theorem cL_2 {p : Program} {l : Launch} {e : Env} {s : State} {m : MethodId} {args : Array Value} {below : List Frame} {meth : Method} {c : Code} {H : Heap} {locs : List Loc} {cells slots : Nat} {Q : State → Prop} {ls : Array Slot} {D : va_G} {E : bE} {a : Nat} {v u : bM} {f : Nat → Int64} {b L : Nat} {xs : Nat → Int32} {i : Nat} {v' u' : bM} {r : Int32} (X : bCx p s m args meth c RL cL_law 9 D E) (hB : uB D E a v u f b L xs s H locs) (hl : lv_has ls 9 [(4, .int (nI i)), (3, .ref (a + 876)), (2, .ref (a + 866)), (1, .ref a), (0, .ref b)]) (hL : L ≤ 3072) (hi : i + 5 < L) (hf8 : fX8_runScript  v = some (r, v')) (hf9 : fX9_runScript  u = some (r, u')) (hc : cells + 20 ≤ 601024 ∧ slots + 3830 ≤ 7293034) (kk : ∀ (ls : Array Slot) (H : Heap) (locs : List Loc), lv_has ls 9 [(4, .int (nI i)), (3, .ref (a + 876)), (2, .ref (a + 866)), (1, .ref a), (0, .ref b)] → uB D E a v' u' f b L xs s H locs → W p l e room_1 s m args below meth c H locs cells slots Q (F0 m 3148 ls [])) : W p l e room_1 s m args below meth c H locs cells slots Q (F0 m 398 ls []) := by
  have hx := X.1
  have hb := X.2.1
  refine lv_aload_n hx hb dL_law_398 rfl (lv_at hl 3 rfl) ?_
  refine u_goX hB (bk_runV X (Av := []) (rest := []) (mX8_runScript hf8) yv_X8_runScript wm_699 ⟨Nat.le_of_ble_eq_true rfl, Nat.le_of_ble_eq_true rfl⟩ rfl rfl hl.1 kl_X8.1 (hB.1.obj lcq_X_0) hB.1 hB.lenX hB.hX (Nat.le_of_ble_eq_true rfl) ⟨by show cells + 0 ≤ 601024; omega, by show slots + 0 ≤ 7293034; omega⟩ dL_law_399) (fun H locs hB => ?_)
  refine W.eq (g2 := F0 m 402 ls [.int r]) rfl ?_
  refine lv_aload_n hx hb dL_law_402 rfl (lv_at hl 2 rfl) ?_
  refine u_goM hB (bk_runV X (Av := []) (rest := [.int r]) (mX9_runScript hf9) yv_X9_runScript wm_1933 ⟨Nat.le_of_ble_eq_true rfl, Nat.le_of_ble_eq_true rfl⟩ rfl rfl hl.1 kl_X9.1 (hB.2.1.obj lc_Mo_0) hB.2.1 hB.lenM hB.hM (Nat.le_of_ble_eq_true rfl) ⟨by show cells + 0 + 0 ≤ 601024; omega, by show slots + 0 + 0 ≤ 7293034; omega⟩ dL_law_403) (fun H locs hB => ?_)
  refine W.eq (g2 := F0 m 406 ls [.int r, .int r]) rfl ?_
  exact lv_icmp_eq (tgt := 3148) hx hb dL_law_406 (by decide) (fun _ => kk ls H locs hl hB) (fun h => absurd rfl h)
theorem cL_3 {p : Program} {l : Launch} {e : Env} {s : State} {m : MethodId} {args : Array Value} {below : List Frame} {meth : Method} {c : Code} {H : Heap} {locs : List Loc} {cells slots : Nat} {Q : State → Prop} {ls : Array Slot} {D : va_G} {E : bE} {a : Nat} {v u : bM} {f : Nat → Int64} {b L : Nat} {xs : Nat → Int32} {i : Nat} {v' u' : bM} {r : Int32} (X : bCx p s m args meth c RL cL_law 9 D E) (hB : uB D E a v u f b L xs s H locs) (hl : lv_has ls 9 [(4, .int (nI i)), (3, .ref (a + 876)), (2, .ref (a + 866)), (1, .ref a), (0, .ref b)]) (hL : L ≤ 3072) (hi : i + 5 < L) (hf8 : fX8_errorCode  v = some r) (hf9 : fX9_errorCode  u = some (r, u')) (hc : cells + 20 ≤ 601024 ∧ slots + 3830 ≤ 7293034) (kk : ∀ (ls : Array Slot) (H : Heap) (locs : List Loc), lv_has ls 9 [(4, .int (nI i)), (3, .ref (a + 876)), (2, .ref (a + 866)), (1, .ref a), (0, .ref b)] → uB D E a v u' f b L xs s H locs → W p l e room_1 s m args below meth c H locs cells slots Q (F0 m 3148 ls [])) : W p l e room_1 s m args below meth c H locs cells slots Q (F0 m 411 ls []) := by
  have hx := X.1
  have hb := X.2.1
  refine lv_aload_n hx hb dL_law_411 rfl (lv_at hl 3 rfl) ?_
  refine u_goX hB (bk_runV X (Av := []) (rest := []) (mX8_errorCode hf8) yv_X8_errorCode wm_739 ⟨Nat.le_of_ble_eq_true rfl, Nat.le_of_ble_eq_true rfl⟩ rfl rfl hl.1 kl_X8.1 (hB.1.obj lcq_X_0) hB.1 hB.lenX hB.hX (Nat.le_of_ble_eq_true rfl) ⟨by show cells + 0 ≤ 601024; omega, by show slots + 0 ≤ 7293034; omega⟩ dL_law_412) (fun H locs hB => ?_)
  refine W.eq (g2 := F0 m 415 ls [.int r]) rfl ?_
  refine lv_aload_n hx hb dL_law_415 rfl (lv_at hl 2 rfl) ?_
  refine u_goM hB (bk_runV X (Av := []) (rest := [.int r]) (mX9_errorCode hf9) yv_X9_errorCode wm_1941 ⟨Nat.le_of_ble_eq_true rfl, Nat.le_of_ble_eq_true rfl⟩ rfl rfl hl.1 kl_X9.1 (hB.2.1.obj lc_Mo_0) hB.2.1 hB.lenM hB.hM (Nat.le_of_ble_eq_true rfl) ⟨by show cells + 0 + 0 ≤ 601024; omega, by show slots + 0 + 0 ≤ 7293034; omega⟩ dL_law_416) (fun H locs hB => ?_)
  refine W.eq (g2 := F0 m 419 ls [.int r, .int r]) rfl ?_
  exact lv_icmp_eq (tgt := 3148) hx hb dL_law_419 (by decide) (fun _ => kk ls H locs hl hB) (fun h => absurd rfl h)
theorem cL_4 {p : Program} {l : Launch} {e : Env} {s : State} {m : MethodId} {args : Array Value} {below : List Frame} {meth : Method} {c : Code} {H : Heap} {locs : List Loc} {cells slots : Nat} {Q : State → Prop} {ls : Array Slot} {D : va_G} {E : bE} {a : Nat} {v u : bM} {f : Nat → Int64} {b L : Nat} {xs : Nat → Int32} {i : Nat} {v' u' : bM} {r : Int32} (X : bCx p s m args meth c RL cL_law 9 D E) (hB : uB D E a v u f b L xs s H locs) (hl : lv_has ls 9 [(4, .int (nI i)), (3, .ref (a + 876)), (2, .ref (a + 866)), (1, .ref a), (0, .ref b)]) (hL : L ≤ 3072) (hi : i + 5 < L) (hf8 : fX8_errorPosition  v = some r) (hf9 : fX9_errorPosition  u = some (r, u')) (hc : cells + 20 ≤ 601024 ∧ slots + 3830 ≤ 7293034) (kk : ∀ (ls : Array Slot) (H : Heap) (locs : List Loc), lv_has ls 9 [(4, .int (nI i)), (3, .ref (a + 876)), (2, .ref (a + 866)), (1, .ref a), (0, .ref b)] → uB D E a v u' f b L xs s H locs → W p l e room_1 s m args below meth c H locs cells slots Q (F0 m 3148 ls [])) : W p l e room_1 s m args below meth c H locs cells slots Q (F0 m 424 ls []) := by
  have hx := X.1
  have hb := X.2.1
  refine lv_aload_n hx hb dL_law_424 rfl (lv_at hl 3 rfl) ?_
  refine u_goX hB (bk_runV X (Av := []) (rest := []) (mX8_errorPosition hf8) yv_X8_errorPosition wm_743 ⟨Nat.le_of_ble_eq_true rfl, Nat.le_of_ble_eq_true rfl⟩ rfl rfl hl.1 kl_X8.1 (hB.1.obj lcq_X_0) hB.1 hB.lenX hB.hX (Nat.le_of_ble_eq_true rfl) ⟨by show cells + 0 ≤ 601024; omega, by show slots + 0 ≤ 7293034; omega⟩ dL_law_425) (fun H locs hB => ?_)
  refine W.eq (g2 := F0 m 428 ls [.int r]) rfl ?_
  refine lv_aload_n hx hb dL_law_428 rfl (lv_at hl 2 rfl) ?_
  refine u_goM hB (bk_runV X (Av := []) (rest := [.int r]) (mX9_errorPosition hf9) yv_X9_errorPosition wm_1949 ⟨Nat.le_of_ble_eq_true rfl, Nat.le_of_ble_eq_true rfl⟩ rfl rfl hl.1 kl_X9.1 (hB.2.1.obj lc_Mo_0) hB.2.1 hB.lenM hB.hM (Nat.le_of_ble_eq_true rfl) ⟨by show cells + 0 + 0 ≤ 601024; omega, by show slots + 0 + 0 ≤ 7293034; omega⟩ dL_law_429) (fun H locs hB => ?_)
  refine W.eq (g2 := F0 m 432 ls [.int r, .int r]) rfl ?_
  exact lv_icmp_eq (tgt := 3148) hx hb dL_law_432 (by decide) (fun _ => kk ls H locs hl hB) (fun h => absurd rfl h)
theorem cL_5 {p : Program} {l : Launch} {e : Env} {s : State} {m : MethodId} {args : Array Value} {below : List Frame} {meth : Method} {c : Code} {H : Heap} {locs : List Loc} {cells slots : Nat} {Q : State → Prop} {ls : Array Slot} {D : va_G} {E : bE} {a : Nat} {v u : bM} {f : Nat → Int64} {b L : Nat} {xs : Nat → Int32} {i : Nat} {v' u' : bM} {r : Int32} (X : bCx p s m args meth c RL cL_law 9 D E) (hB : uB D E a v u f b L xs s H locs) (hl : lv_has ls 9 [(4, .int (nI i)), (3, .ref (a + 876)), (2, .ref (a + 866)), (1, .ref a), (0, .ref b)]) (hL : L ≤ 3072) (hi : i + 5 < L) (hf8 : fX8_clock  v = some r) (hf9 : fX9_clock  u = some (r, u')) (hc : cells + 20 ≤ 601024 ∧ slots + 3830 ≤ 7293034) (kk : ∀ (ls : Array Slot) (H : Heap) (locs : List Loc), lv_has ls 9 [(4, .int (nI i)), (3, .ref (a + 876)), (2, .ref (a + 866)), (1, .ref a), (0, .ref b)] → uB D E a v u' f b L xs s H locs → W p l e room_1 s m args below meth c H locs cells slots Q (F0 m 3148 ls [])) : W p l e room_1 s m args below meth c H locs cells slots Q (F0 m 437 ls []) := by
  have hx := X.1
  have hb := X.2.1
  refine lv_aload_n hx hb dL_law_437 rfl (lv_at hl 3 rfl) ?_
  refine u_goX hB (bk_runV X (Av := []) (rest := []) (mX8_clock hf8) yv_X8_clock wm_747 ⟨Nat.le_of_ble_eq_true rfl, Nat.le_of_ble_eq_true rfl⟩ rfl rfl hl.1 kl_X8.1 (hB.1.obj lcq_X_0) hB.1 hB.lenX hB.hX (Nat.le_of_ble_eq_true rfl) ⟨by show cells + 0 ≤ 601024; omega, by show slots + 0 ≤ 7293034; omega⟩ dL_law_438) (fun H locs hB => ?_)
  refine W.eq (g2 := F0 m 441 ls [.int r]) rfl ?_
  refine lv_aload_n hx hb dL_law_441 rfl (lv_at hl 2 rfl) ?_
  refine u_goM hB (bk_runV X (Av := []) (rest := [.int r]) (mX9_clock hf9) yv_X9_clock wm_1953 ⟨Nat.le_of_ble_eq_true rfl, Nat.le_of_ble_eq_true rfl⟩ rfl rfl hl.1 kl_X9.1 (hB.2.1.obj lc_Mo_0) hB.2.1 hB.lenM hB.hM (Nat.le_of_ble_eq_true rfl) ⟨by show cells + 0 + 0 ≤ 601024; omega, by show slots + 0 + 0 ≤ 7293034; omega⟩ dL_law_442) (fun H locs hB => ?_)
  refine W.eq (g2 := F0 m 445 ls [.int r, .int r]) rfl ?_
  exact lv_icmp_eq (tgt := 3148) hx hb dL_law_445 (by decide) (fun _ => kk ls H locs hl hB) (fun h => absurd rfl h)
theorem cL_6 {p : Program} {l : Launch} {e : Env} {s : State} {m : MethodId} {args : Array Value} {below : List Frame} {meth : Method} {c : Code} {H : Heap} {locs : List Loc} {cells slots : Nat} {Q : State → Prop} {ls : Array Slot} {D : va_G} {E : bE} {a : Nat} {v u : bM} {f : Nat → Int64} {b L : Nat} {xs : Nat → Int32} {i : Nat} {v' u' : bM} {r : Int32} (X : bCx p s m args meth c RL cL_law 9 D E) (hB : uB D E a v u f b L xs s H locs) (hl : lv_has ls 9 [(4, .int (nI i)), (3, .ref (a + 876)), (2, .ref (a + 866)), (1, .ref a), (0, .ref b)]) (hL : L ≤ 3072) (hi : i + 5 < L) (hf8 : fX8_cash  v = some r) (hf9 : fX9_cash  u = some (r, u')) (hc : cells + 20 ≤ 601024 ∧ slots + 3830 ≤ 7293034) (kk : ∀ (ls : Array Slot) (H : Heap) (locs : List Loc), lv_has ls 9 [(4, .int (nI i)), (3, .ref (a + 876)), (2, .ref (a + 866)), (1, .ref a), (0, .ref b)] → uB D E a v u' f b L xs s H locs → W p l e room_1 s m args below meth c H locs cells slots Q (F0 m 3148 ls [])) : W p l e room_1 s m args below meth c H locs cells slots Q (F0 m 450 ls []) := by
  have hx := X.1
  have hb := X.2.1
  refine lv_aload_n hx hb dL_law_450 rfl (lv_at hl 3 rfl) ?_
  refine u_goX hB (bk_runV X (Av := []) (rest := []) (mX8_cash hf8) yv_X8_cash wm_751 ⟨Nat.le_of_ble_eq_true rfl, Nat.le_of_ble_eq_true rfl⟩ rfl rfl hl.1 kl_X8.1 (hB.1.obj lcq_X_0) hB.1 hB.lenX hB.hX (Nat.le_of_ble_eq_true rfl) ⟨by show cells + 0 ≤ 601024; omega, by show slots + 0 ≤ 7293034; omega⟩ dL_law_451) (fun H locs hB => ?_)
  refine W.eq (g2 := F0 m 454 ls [.int r]) rfl ?_
  refine lv_aload_n hx hb dL_law_454 rfl (lv_at hl 2 rfl) ?_
  refine u_goM hB (bk_runV X (Av := []) (rest := [.int r]) (mX9_cash hf9) yv_X9_cash wm_1957 ⟨Nat.le_of_ble_eq_true rfl, Nat.le_of_ble_eq_true rfl⟩ rfl rfl hl.1 kl_X9.1 (hB.2.1.obj lc_Mo_0) hB.2.1 hB.lenM hB.hM (Nat.le_of_ble_eq_true rfl) ⟨by show cells + 0 + 0 ≤ 601024; omega, by show slots + 0 + 0 ≤ 7293034; omega⟩ dL_law_455) (fun H locs hB => ?_)
  refine W.eq (g2 := F0 m 458 ls [.int r, .int r]) rfl ?_
  exact lv_icmp_eq (tgt := 3148) hx hb dL_law_458 (by decide) (fun _ => kk ls H locs hl hB) (fun h => absurd rfl h)
theorem cL_7 {p : Program} {l : Launch} {e : Env} {s : State} {m : MethodId} {args : Array Value} {below : List Frame} {meth : Method} {c : Code} {H : Heap} {locs : List Loc} {cells slots : Nat} {Q : State → Prop} {ls : Array Slot} {D : va_G} {E : bE} {a : Nat} {v u : bM} {f : Nat → Int64} {b L : Nat} {xs : Nat → Int32} {i : Nat} {v' u' : bM} {r : Int32} (X : bCx p s m args meth c RL cL_law 9 D E) (hB : uB D E a v u f b L xs s H locs) (hl : lv_has ls 9 [(4, .int (nI i)), (3, .ref (a + 876)), (2, .ref (a + 866)), (1, .ref a), (0, .ref b)]) (hL : L ≤ 3072) (hi : i + 5 < L) (hf8 : fX8_undoCount  v = some r) (hf9 : fX9_undoCount  u = some (r, u')) (hc : cells + 20 ≤ 601024 ∧ slots + 3830 ≤ 7293034) (kk : ∀ (ls : Array Slot) (H : Heap) (locs : List Loc), lv_has ls 9 [(4, .int (nI i)), (3, .ref (a + 876)), (2, .ref (a + 866)), (1, .ref a), (0, .ref b)] → uB D E a v u' f b L xs s H locs → W p l e room_1 s m args below meth c H locs cells slots Q (F0 m 3148 ls [])) : W p l e room_1 s m args below meth c H locs cells slots Q (F0 m 463 ls []) := by
  have hx := X.1
  have hb := X.2.1
  refine lv_aload_n hx hb dL_law_463 rfl (lv_at hl 3 rfl) ?_
  refine u_goX hB (bk_runV X (Av := []) (rest := []) (mX8_undoCount hf8) yv_X8_undoCount wm_755 ⟨Nat.le_of_ble_eq_true rfl, Nat.le_of_ble_eq_true rfl⟩ rfl rfl hl.1 kl_X8.1 (hB.1.obj lcq_X_0) hB.1 hB.lenX hB.hX (Nat.le_of_ble_eq_true rfl) ⟨by show cells + 0 ≤ 601024; omega, by show slots + 0 ≤ 7293034; omega⟩ dL_law_464) (fun H locs hB => ?_)
  refine W.eq (g2 := F0 m 467 ls [.int r]) rfl ?_
  refine lv_aload_n hx hb dL_law_467 rfl (lv_at hl 2 rfl) ?_
  refine u_goM hB (bk_runV X (Av := []) (rest := [.int r]) (mX9_undoCount hf9) yv_X9_undoCount wm_1961 ⟨Nat.le_of_ble_eq_true rfl, Nat.le_of_ble_eq_true rfl⟩ rfl rfl hl.1 kl_X9.1 (hB.2.1.obj lc_Mo_0) hB.2.1 hB.lenM hB.hM (Nat.le_of_ble_eq_true rfl) ⟨by show cells + 0 + 0 ≤ 601024; omega, by show slots + 0 + 0 ≤ 7293034; omega⟩ dL_law_468) (fun H locs hB => ?_)
  refine W.eq (g2 := F0 m 471 ls [.int r, .int r]) rfl ?_
  exact lv_icmp_eq (tgt := 3148) hx hb dL_law_471 (by decide) (fun _ => kk ls H locs hl hB) (fun h => absurd rfl h)
theorem cL_8 {p : Program} {l : Launch} {e : Env} {s : State} {m : MethodId} {args : Array Value} {below : List Frame} {meth : Method} {c : Code} {H : Heap} {locs : List Loc} {cells slots : Nat} {Q : State → Prop} {ls : Array Slot} {D : va_G} {E : bE} {a : Nat} {v u : bM} {f : Nat → Int64} {b L : Nat} {xs : Nat → Int32} {i : Nat} {v' u' : bM} {r : Int32} (X : bCx p s m args meth c RL cL_law 9 D E) (hB : uB D E a v u f b L xs s H locs) (hl : lv_has ls 9 [(4, .int (nI i)), (3, .ref (a + 876)), (2, .ref (a + 866)), (1, .ref a), (0, .ref b)]) (hL : L ≤ 3072) (hi : i + 5 < L) (hf8 : fX8_flourCount  v = some r) (hf9 : fX9_flourCount  u = some (r, u')) (hc : cells + 20 ≤ 601024 ∧ slots + 3830 ≤ 7293034) (kk : ∀ (ls : Array Slot) (H : Heap) (locs : List Loc), lv_has ls 9 [(4, .int (nI i)), (3, .ref (a + 876)), (2, .ref (a + 866)), (1, .ref a), (0, .ref b)] → uB D E a v u' f b L xs s H locs → W p l e room_1 s m args below meth c H locs cells slots Q (F0 m 3148 ls [])) : W p l e room_1 s m args below meth c H locs cells slots Q (F0 m 476 ls []) := by
  have hx := X.1
  have hb := X.2.1
  refine lv_aload_n hx hb dL_law_476 rfl (lv_at hl 3 rfl) ?_
  refine u_goX hB (bk_runV X (Av := []) (rest := []) (mX8_flourCount hf8) yv_X8_flourCount wm_759 ⟨Nat.le_of_ble_eq_true rfl, Nat.le_of_ble_eq_true rfl⟩ rfl rfl hl.1 kl_X8.1 (hB.1.obj lcq_X_0) hB.1 hB.lenX hB.hX (Nat.le_of_ble_eq_true rfl) ⟨by show cells + 0 ≤ 601024; omega, by show slots + 0 ≤ 7293034; omega⟩ dL_law_477) (fun H locs hB => ?_)
  refine W.eq (g2 := F0 m 480 ls [.int r]) rfl ?_
  refine lv_aload_n hx hb dL_law_480 rfl (lv_at hl 2 rfl) ?_
  refine u_goM hB (bk_runV X (Av := []) (rest := [.int r]) (mX9_flourCount hf9) yv_X9_flourCount wm_1965 ⟨Nat.le_of_ble_eq_true rfl, Nat.le_of_ble_eq_true rfl⟩ rfl rfl hl.1 kl_X9.1 (hB.2.1.obj lc_Mo_0) hB.2.1 hB.lenM hB.hM (Nat.le_of_ble_eq_true rfl) ⟨by show cells + 0 + 0 ≤ 601024; omega, by show slots + 0 + 0 ≤ 7293034; omega⟩ dL_law_481) (fun H locs hB => ?_)
  refine W.eq (g2 := F0 m 484 ls [.int r, .int r]) rfl ?_
  exact lv_icmp_eq (tgt := 3148) hx hb dL_law_484 (by decide) (fun _ => kk ls H locs hl hB) (fun h => absurd rfl h)
theorem cL_9 {p : Program} {l : Launch} {e : Env} {s : State} {m : MethodId} {args : Array Value} {below : List Frame} {meth : Method} {c : Code} {H : Heap} {locs : List Loc} {cells slots : Nat} {Q : State → Prop} {ls : Array Slot} {D : va_G} {E : bE} {a : Nat} {v u : bM} {f : Nat → Int64} {b L : Nat} {xs : Nat → Int32} {i : Nat} {w u' : bM} {r q : Int32} {y9 : Option Int64} (X : bCx p s m args meth c RL cL_law 9 D E) (hB : uB D E a v u f b L xs s H locs) (hl : lv_has ls 9 [(4, .int (nI i)), (3, .ref (a + 876)), (2, .ref (a + 866)), (1, .ref a), (0, .ref b)]) (hL : L ≤ 3072) (hi : i + 5 < L) (hM : hMet l yL_flourPrice cL_flourPrice 4 [(0, 9, 12, 13)] 9 1 6 [.int (xs (i + 1))] v r w y9) (hf9 : fX9_flourPrice (xs (i + 1)) u = some (q, u')) (ht : u' 3 = r) (hy : r = 0 → y9 = some q.toInt64) (hc : cells + 20 ≤ 601024 ∧ slots + 3830 ≤ 7293034) (kk : ∀ (ls : Array Slot) (H : Heap) (locs : List Loc) (f9 : Nat → Int64), lv_has ls 9 [(4, .int (nI i)), (3, .ref (a + 876)), (2, .ref (a + 866)), (1, .ref a), (0, .ref b)] → uB D E a w u' f9 b L xs s H locs → W p l e room_1 s m args below meth c H locs (cells + 1) (slots + 6) Q (F0 m 3148 ls [])) : W p l e room_1 s m args below meth c H locs cells slots Q (F0 m 489 ls []) := by
  have hx := X.1
  have hb := X.2.1
  refine lv_aload_n hx hb dL_law_489 rfl (lv_at hl 3 rfl) ?_
  refine u_scr X hB (i := i) 1 hL (by omega) (lv_at hl 4 rfl) (lv_at hl 0 rfl) (by decide) dL_law_490 dL_law_491 dL_law_493 dL_law_494 dL_law_495 ?_
  refine lv_aload_n hx hb dL_law_496 rfl (lv_at hl 1 rfl) ?_
  refine u_goH X hB (Av := [.int (xs (i + 1))]) (rest := []) hM ⟨rfl, by decide, by decide, rfl⟩ wm_912 wm_913 wm_0 wm_914 ⟨Nat.le_of_ble_eq_true rfl, Nat.le_of_ble_eq_true rfl⟩ (n := 3) rfl hl.1 (Nat.le_of_ble_eq_true rfl) ⟨by show cells + 1 ≤ 601024; omega, by show slots + 6 ≤ 7293034; omega⟩ dL_law_497 (fun H locs f9 hy9 hB => ?_)
  refine lv_istore (lv' := [(5, .int r), (4, .int (nI i)), (3, .ref (a + 876)), (2, .ref (a + 866)), (1, .ref a), (0, .ref b)]) hx hb dL_law_500 hl (by decide) rfl (fun ls hl => ?_)
  refine lv_aload_n hx hb dL_law_502 rfl (lv_at hl 3 rfl) ?_
  refine u_scr X hB (i := i) 1 hL (by omega) (lv_at hl 5 rfl) (lv_at hl 1 rfl) (by decide) dL_law_503 dL_law_504 dL_law_506 dL_law_507 dL_law_508 ?_
  refine u_goM hB (bk_runV X (Av := [.int (xs (i + 1))]) (rest := []) (mX9_flourPrice hf9) yv_X9_flourPrice wm_1969 ⟨Nat.le_of_ble_eq_true rfl, Nat.le_of_ble_eq_true rfl⟩ rfl rfl hl.1 kl_X9.1 (hB.2.1.obj lc_Mo_0) hB.2.1 hB.lenM hB.hM (Nat.le_of_ble_eq_true rfl) ⟨by show cells + 1 + 0 ≤ 601024; omega, by show slots + 6 + 0 ≤ 7293034; omega⟩ dL_law_509) (fun H locs hB => ?_)
  refine W.eq (g2 := F0 m 512 ls [.int q]) rfl ?_
  refine lv_istore (lv' := [(6, .int q), (5, .int r), (4, .int (nI i)), (3, .ref (a + 876)), (2, .ref (a + 866)), (1, .ref a), (0, .ref b)]) hx hb dL_law_512 hl (by decide) rfl (fun ls hl => ?_)
  refine lv_aload_n hx hb dL_law_514 rfl (lv_at hl 4 rfl) ?_
  refine u_goM hB (bk_runV X (Av := []) (rest := []) (mX9_thrown (show fX9_thrown u' = some (u' 3) from rfl)) yv_X9_thrown wm_1921 ⟨Nat.le_of_ble_eq_true rfl, Nat.le_of_ble_eq_true rfl⟩ rfl rfl hl.1 kl_X9.1 (hB.2.1.obj lc_Mo_0) hB.2.1 hB.lenM hB.hM (Nat.le_of_ble_eq_true rfl) ⟨by show cells + 1 + 0 + 0 ≤ 601024; omega, by show slots + 6 + 0 + 0 ≤ 7293034; omega⟩ dL_law_515) (fun H locs hB => ?_)
  refine W.eq (g2 := F0 m 518 ls [.int (u' 3)]) rfl ?_
  refine lv_iload hx hb dL_law_518 (lv_at hl 1 rfl) ?_
  refine lv_icmp_eq (tgt := 525) hx hb dL_law_520 (by decide) (fun _ => ?_) (fun h => absurd ht h)
  refine lv_iload hx hb dL_law_525 (lv_at hl 1 rfl) ?_
  refine lv_if_ne (tgt := 542) hx hb dL_law_527 (by decide) (fun _ => ?_) (fun h0 => ?_)
  · refine lv_goto (tgt := 3148) hx hb dL_law_542 (by decide) ?_
    exact kk ls H locs f9 (lv_sub hl [2, 3, 4, 5, 6] rfl) hB
  · refine lv_aload_n hx hb dL_law_530 rfl (lv_at hl 3 rfl) ?_
    refine lv_iconst (v := 0) hx hb dL_law_531 (by decide) ?_
    refine u_out X hB dL_law_532 ?_
    refine lv_iload hx hb dL_law_533 (lv_at hl 0 rfl) ?_
    refine lv_i2l (v := q.toInt64) hx hb dL_law_535 rfl ?_
    refine W.lcmp hx hb dL_law_536 ?_
    rw [hy9 _ (hy h0), lg_self]
    refine lv_if_eq (tgt := 542) hx hb dL_law_537 (by decide) (fun _ => ?_) (fun h => absurd rfl h)
    refine lv_goto (tgt := 3148) hx hb dL_law_542 (by decide) ?_
    exact kk ls H locs f9 (lv_sub hl [2, 3, 4, 5, 6] rfl) hB
theorem cL_10 {p : Program} {l : Launch} {e : Env} {s : State} {m : MethodId} {args : Array Value} {below : List Frame} {meth : Method} {c : Code} {H : Heap} {locs : List Loc} {cells slots : Nat} {Q : State → Prop} {ls : Array Slot} {D : va_G} {E : bE} {a : Nat} {v u : bM} {f : Nat → Int64} {b L : Nat} {xs : Nat → Int32} {i : Nat} {w u' : bM} {r q : Int32} {y9 : Option Int64} (X : bCx p s m args meth c RL cL_law 9 D E) (hB : uB D E a v u f b L xs s H locs) (hl : lv_has ls 9 [(4, .int (nI i)), (3, .ref (a + 876)), (2, .ref (a + 866)), (1, .ref a), (0, .ref b)]) (hL : L ≤ 3072) (hi : i + 5 < L) (hM : hMet l yL_unitsOf cL_unitsOf 4 [(0, 9, 12, 13)] 9 1 6 [.int (xs (i + 1))] v r w y9) (hf9 : fX9_unitsOf (xs (i + 1)) u = some (q, u')) (ht : u' 3 = r) (hy : r = 0 → y9 = some q.toInt64) (hc : cells + 20 ≤ 601024 ∧ slots + 3830 ≤ 7293034) (kk : ∀ (ls : Array Slot) (H : Heap) (locs : List Loc) (f9 : Nat → Int64), lv_has ls 9 [(4, .int (nI i)), (3, .ref (a + 876)), (2, .ref (a + 866)), (1, .ref a), (0, .ref b)] → uB D E a w u' f9 b L xs s H locs → W p l e room_1 s m args below meth c H locs (cells + 1) (slots + 6) Q (F0 m 3148 ls [])) : W p l e room_1 s m args below meth c H locs cells slots Q (F0 m 545 ls []) := by
  have hx := X.1
  have hb := X.2.1
  refine lv_aload_n hx hb dL_law_545 rfl (lv_at hl 3 rfl) ?_
  refine u_scr X hB (i := i) 1 hL (by omega) (lv_at hl 4 rfl) (lv_at hl 0 rfl) (by decide) dL_law_546 dL_law_547 dL_law_549 dL_law_550 dL_law_551 ?_
  refine lv_aload_n hx hb dL_law_552 rfl (lv_at hl 1 rfl) ?_
  refine u_goH X hB (Av := [.int (xs (i + 1))]) (rest := []) hM ⟨rfl, by decide, by decide, rfl⟩ wm_997 wm_998 wm_0 wm_999 ⟨Nat.le_of_ble_eq_true rfl, Nat.le_of_ble_eq_true rfl⟩ (n := 3) rfl hl.1 (Nat.le_of_ble_eq_true rfl) ⟨by show cells + 1 ≤ 601024; omega, by show slots + 6 ≤ 7293034; omega⟩ dL_law_553 (fun H locs f9 hy9 hB => ?_)
  refine lv_istore (lv' := [(5, .int r), (4, .int (nI i)), (3, .ref (a + 876)), (2, .ref (a + 866)), (1, .ref a), (0, .ref b)]) hx hb dL_law_556 hl (by decide) rfl (fun ls hl => ?_)
  refine lv_aload_n hx hb dL_law_558 rfl (lv_at hl 3 rfl) ?_
  refine u_scr X hB (i := i) 1 hL (by omega) (lv_at hl 5 rfl) (lv_at hl 1 rfl) (by decide) dL_law_559 dL_law_560 dL_law_562 dL_law_563 dL_law_564 ?_
  refine u_goM hB (bk_runV X (Av := [.int (xs (i + 1))]) (rest := []) (mX9_unitsOf hf9) yv_X9_unitsOf wm_1981 ⟨Nat.le_of_ble_eq_true rfl, Nat.le_of_ble_eq_true rfl⟩ rfl rfl hl.1 kl_X9.1 (hB.2.1.obj lc_Mo_0) hB.2.1 hB.lenM hB.hM (Nat.le_of_ble_eq_true rfl) ⟨by show cells + 1 + 0 ≤ 601024; omega, by show slots + 6 + 0 ≤ 7293034; omega⟩ dL_law_565) (fun H locs hB => ?_)
  refine W.eq (g2 := F0 m 568 ls [.int q]) rfl ?_
  refine lv_istore (lv' := [(6, .int q), (5, .int r), (4, .int (nI i)), (3, .ref (a + 876)), (2, .ref (a + 866)), (1, .ref a), (0, .ref b)]) hx hb dL_law_568 hl (by decide) rfl (fun ls hl => ?_)
  refine lv_aload_n hx hb dL_law_570 rfl (lv_at hl 4 rfl) ?_
  refine u_goM hB (bk_runV X (Av := []) (rest := []) (mX9_thrown (show fX9_thrown u' = some (u' 3) from rfl)) yv_X9_thrown wm_1921 ⟨Nat.le_of_ble_eq_true rfl, Nat.le_of_ble_eq_true rfl⟩ rfl rfl hl.1 kl_X9.1 (hB.2.1.obj lc_Mo_0) hB.2.1 hB.lenM hB.hM (Nat.le_of_ble_eq_true rfl) ⟨by show cells + 1 + 0 + 0 ≤ 601024; omega, by show slots + 6 + 0 + 0 ≤ 7293034; omega⟩ dL_law_571) (fun H locs hB => ?_)
  refine W.eq (g2 := F0 m 574 ls [.int (u' 3)]) rfl ?_
  refine lv_iload hx hb dL_law_574 (lv_at hl 1 rfl) ?_
  refine lv_icmp_eq (tgt := 581) hx hb dL_law_576 (by decide) (fun _ => ?_) (fun h => absurd ht h)
  refine lv_iload hx hb dL_law_581 (lv_at hl 1 rfl) ?_
  refine lv_if_ne (tgt := 598) hx hb dL_law_583 (by decide) (fun _ => ?_) (fun h0 => ?_)
  · refine lv_goto (tgt := 3148) hx hb dL_law_598 (by decide) ?_
    exact kk ls H locs f9 (lv_sub hl [2, 3, 4, 5, 6] rfl) hB
  · refine lv_aload_n hx hb dL_law_586 rfl (lv_at hl 3 rfl) ?_
    refine lv_iconst (v := 0) hx hb dL_law_587 (by decide) ?_
    refine u_out X hB dL_law_588 ?_
    refine lv_iload hx hb dL_law_589 (lv_at hl 0 rfl) ?_
    refine lv_i2l (v := q.toInt64) hx hb dL_law_591 rfl ?_
    refine W.lcmp hx hb dL_law_592 ?_
    rw [hy9 _ (hy h0), lg_self]
    refine lv_if_eq (tgt := 598) hx hb dL_law_593 (by decide) (fun _ => ?_) (fun h => absurd rfl h)
    refine lv_goto (tgt := 3148) hx hb dL_law_598 (by decide) ?_
    exact kk ls H locs f9 (lv_sub hl [2, 3, 4, 5, 6] rfl) hB
theorem cL_11 {p : Program} {l : Launch} {e : Env} {s : State} {m : MethodId} {args : Array Value} {below : List Frame} {meth : Method} {c : Code} {H : Heap} {locs : List Loc} {cells slots : Nat} {Q : State → Prop} {ls : Array Slot} {D : va_G} {E : bE} {a : Nat} {v u : bM} {f : Nat → Int64} {b L : Nat} {xs : Nat → Int32} {i : Nat} {w u' : bM} {r q : Int32} {y9 : Option Int64} (X : bCx p s m args meth c RL cL_law 9 D E) (hB : uB D E a v u f b L xs s H locs) (hl : lv_has ls 9 [(4, .int (nI i)), (3, .ref (a + 876)), (2, .ref (a + 866)), (1, .ref a), (0, .ref b)]) (hL : L ≤ 3072) (hi : i + 5 < L) (hM : hMet l yL_lotsOf cL_lotsOf 4 [(0, 9, 12, 13)] 9 1 6 [.int (xs (i + 1))] v r w y9) (hf9 : fX9_lotsOf (xs (i + 1)) u = some (q, u')) (ht : u' 3 = r) (hy : r = 0 → y9 = some q.toInt64) (hc : cells + 20 ≤ 601024 ∧ slots + 3830 ≤ 7293034) (kk : ∀ (ls : Array Slot) (H : Heap) (locs : List Loc) (f9 : Nat → Int64), lv_has ls 9 [(4, .int (nI i)), (3, .ref (a + 876)), (2, .ref (a + 866)), (1, .ref a), (0, .ref b)] → uB D E a w u' f9 b L xs s H locs → W p l e room_1 s m args below meth c H locs (cells + 1) (slots + 6) Q (F0 m 3148 ls [])) : W p l e room_1 s m args below meth c H locs cells slots Q (F0 m 601 ls []) := by
  have hx := X.1
  have hb := X.2.1
  refine lv_aload_n hx hb dL_law_601 rfl (lv_at hl 3 rfl) ?_
  refine u_scr X hB (i := i) 1 hL (by omega) (lv_at hl 4 rfl) (lv_at hl 0 rfl) (by decide) dL_law_602 dL_law_603 dL_law_605 dL_law_606 dL_law_607 ?_
  refine lv_aload_n hx hb dL_law_608 rfl (lv_at hl 1 rfl) ?_
  refine u_goH X hB (Av := [.int (xs (i + 1))]) (rest := []) hM ⟨rfl, by decide, by decide, rfl⟩ wm_1005 wm_1006 wm_0 wm_1007 ⟨Nat.le_of_ble_eq_true rfl, Nat.le_of_ble_eq_true rfl⟩ (n := 3) rfl hl.1 (Nat.le_of_ble_eq_true rfl) ⟨by show cells + 1 ≤ 601024; omega, by show slots + 6 ≤ 7293034; omega⟩ dL_law_609 (fun H locs f9 hy9 hB => ?_)
  refine lv_istore (lv' := [(5, .int r), (4, .int (nI i)), (3, .ref (a + 876)), (2, .ref (a + 866)), (1, .ref a), (0, .ref b)]) hx hb dL_law_612 hl (by decide) rfl (fun ls hl => ?_)
  refine lv_aload_n hx hb dL_law_614 rfl (lv_at hl 3 rfl) ?_
  refine u_scr X hB (i := i) 1 hL (by omega) (lv_at hl 5 rfl) (lv_at hl 1 rfl) (by decide) dL_law_615 dL_law_616 dL_law_618 dL_law_619 dL_law_620 ?_
  refine u_goM hB (bk_runV X (Av := [.int (xs (i + 1))]) (rest := []) (mX9_lotsOf hf9) yv_X9_lotsOf wm_1985 ⟨Nat.le_of_ble_eq_true rfl, Nat.le_of_ble_eq_true rfl⟩ rfl rfl hl.1 kl_X9.1 (hB.2.1.obj lc_Mo_0) hB.2.1 hB.lenM hB.hM (Nat.le_of_ble_eq_true rfl) ⟨by show cells + 1 + 0 ≤ 601024; omega, by show slots + 6 + 0 ≤ 7293034; omega⟩ dL_law_621) (fun H locs hB => ?_)
  refine W.eq (g2 := F0 m 624 ls [.int q]) rfl ?_
  refine lv_istore (lv' := [(6, .int q), (5, .int r), (4, .int (nI i)), (3, .ref (a + 876)), (2, .ref (a + 866)), (1, .ref a), (0, .ref b)]) hx hb dL_law_624 hl (by decide) rfl (fun ls hl => ?_)
  refine lv_aload_n hx hb dL_law_626 rfl (lv_at hl 4 rfl) ?_
  refine u_goM hB (bk_runV X (Av := []) (rest := []) (mX9_thrown (show fX9_thrown u' = some (u' 3) from rfl)) yv_X9_thrown wm_1921 ⟨Nat.le_of_ble_eq_true rfl, Nat.le_of_ble_eq_true rfl⟩ rfl rfl hl.1 kl_X9.1 (hB.2.1.obj lc_Mo_0) hB.2.1 hB.lenM hB.hM (Nat.le_of_ble_eq_true rfl) ⟨by show cells + 1 + 0 + 0 ≤ 601024; omega, by show slots + 6 + 0 + 0 ≤ 7293034; omega⟩ dL_law_627) (fun H locs hB => ?_)
  refine W.eq (g2 := F0 m 630 ls [.int (u' 3)]) rfl ?_
  refine lv_iload hx hb dL_law_630 (lv_at hl 1 rfl) ?_
  refine lv_icmp_eq (tgt := 637) hx hb dL_law_632 (by decide) (fun _ => ?_) (fun h => absurd ht h)
  refine lv_iload hx hb dL_law_637 (lv_at hl 1 rfl) ?_
  refine lv_if_ne (tgt := 654) hx hb dL_law_639 (by decide) (fun _ => ?_) (fun h0 => ?_)
  · refine lv_goto (tgt := 3148) hx hb dL_law_654 (by decide) ?_
    exact kk ls H locs f9 (lv_sub hl [2, 3, 4, 5, 6] rfl) hB
  · refine lv_aload_n hx hb dL_law_642 rfl (lv_at hl 3 rfl) ?_
    refine lv_iconst (v := 0) hx hb dL_law_643 (by decide) ?_
    refine u_out X hB dL_law_644 ?_
    refine lv_iload hx hb dL_law_645 (lv_at hl 0 rfl) ?_
    refine lv_i2l (v := q.toInt64) hx hb dL_law_647 rfl ?_
    refine W.lcmp hx hb dL_law_648 ?_
    rw [hy9 _ (hy h0), lg_self]
    refine lv_if_eq (tgt := 654) hx hb dL_law_649 (by decide) (fun _ => ?_) (fun h => absurd rfl h)
    refine lv_goto (tgt := 3148) hx hb dL_law_654 (by decide) ?_
    exact kk ls H locs f9 (lv_sub hl [2, 3, 4, 5, 6] rfl) hB
theorem cL_12 {p : Program} {l : Launch} {e : Env} {s : State} {m : MethodId} {args : Array Value} {below : List Frame} {meth : Method} {c : Code} {H : Heap} {locs : List Loc} {cells slots : Nat} {Q : State → Prop} {ls : Array Slot} {D : va_G} {E : bE} {a : Nat} {v u : bM} {f : Nat → Int64} {b L : Nat} {xs : Nat → Int32} {i : Nat} {w u' : bM} {r q : Int32} {y9 : Option Int64} (X : bCx p s m args meth c RL cL_law 9 D E) (hB : uB D E a v u f b L xs s H locs) (hl : lv_has ls 9 [(4, .int (nI i)), (3, .ref (a + 876)), (2, .ref (a + 866)), (1, .ref a), (0, .ref b)]) (hL : L ≤ 3072) (hi : i + 5 < L) (hM : hMet l yL_lotUnits cL_lotUnits 5 [(0, 10, 13, 13)] 10 1 6 [.int (xs (i + 1)), .int (xs (i + 2))] v r w y9) (hf9 : fX9_lotUnits (xs (i + 1)) (xs (i + 2)) u = some (q, u')) (ht : u' 3 = r) (hy : r = 0 → y9 = some q.toInt64) (hc : cells + 20 ≤ 601024 ∧ slots + 3830 ≤ 7293034) (kk : ∀ (ls : Array Slot) (H : Heap) (locs : List Loc) (f9 : Nat → Int64), lv_has ls 9 [(4, .int (nI i)), (3, .ref (a + 876)), (2, .ref (a + 866)), (1, .ref a), (0, .ref b)] → uB D E a w u' f9 b L xs s H locs → W p l e room_1 s m args below meth c H locs (cells + 1) (slots + 6) Q (F0 m 3148 ls [])) : W p l e room_1 s m args below meth c H locs cells slots Q (F0 m 657 ls []) := by
  have hx := X.1
  have hb := X.2.1
  refine lv_aload_n hx hb dL_law_657 rfl (lv_at hl 3 rfl) ?_
  refine u_scr X hB (i := i) 1 hL (by omega) (lv_at hl 4 rfl) (lv_at hl 0 rfl) (by decide) dL_law_658 dL_law_659 dL_law_661 dL_law_662 dL_law_663 ?_
  refine u_scr X hB (i := i) 2 hL (by omega) (lv_at hl 4 rfl) (lv_at hl 0 rfl) (by decide) dL_law_664 dL_law_665 dL_law_667 dL_law_668 dL_law_669 ?_
  refine lv_aload_n hx hb dL_law_670 rfl (lv_at hl 1 rfl) ?_
  refine u_goH X hB (Av := [.int (xs (i + 1)), .int (xs (i + 2))]) (rest := []) hM ⟨rfl, by decide, by decide, rfl⟩ wm_1012 wm_1013 wm_0 wm_1014 ⟨Nat.le_of_ble_eq_true rfl, Nat.le_of_ble_eq_true rfl⟩ (n := 4) rfl hl.1 (Nat.le_of_ble_eq_true rfl) ⟨by show cells + 1 ≤ 601024; omega, by show slots + 6 ≤ 7293034; omega⟩ dL_law_671 (fun H locs f9 hy9 hB => ?_)
  refine lv_istore (lv' := [(5, .int r), (4, .int (nI i)), (3, .ref (a + 876)), (2, .ref (a + 866)), (1, .ref a), (0, .ref b)]) hx hb dL_law_674 hl (by decide) rfl (fun ls hl => ?_)
  refine lv_aload_n hx hb dL_law_676 rfl (lv_at hl 3 rfl) ?_
  refine u_scr X hB (i := i) 1 hL (by omega) (lv_at hl 5 rfl) (lv_at hl 1 rfl) (by decide) dL_law_677 dL_law_678 dL_law_680 dL_law_681 dL_law_682 ?_
  refine u_scr X hB (i := i) 2 hL (by omega) (lv_at hl 5 rfl) (lv_at hl 1 rfl) (by decide) dL_law_683 dL_law_684 dL_law_686 dL_law_687 dL_law_688 ?_
  refine u_goM hB (bk_runV X (Av := [.int (xs (i + 1)), .int (xs (i + 2))]) (rest := []) (mX9_lotUnits hf9) yv_X9_lotUnits wm_1989 ⟨Nat.le_of_ble_eq_true rfl, Nat.le_of_ble_eq_true rfl⟩ rfl rfl hl.1 kl_X9.1 (hB.2.1.obj lc_Mo_0) hB.2.1 hB.lenM hB.hM (Nat.le_of_ble_eq_true rfl) ⟨by show cells + 1 + 0 ≤ 601024; omega, by show slots + 6 + 0 ≤ 7293034; omega⟩ dL_law_689) (fun H locs hB => ?_)
  refine W.eq (g2 := F0 m 692 ls [.int q]) rfl ?_
  refine lv_istore (lv' := [(6, .int q), (5, .int r), (4, .int (nI i)), (3, .ref (a + 876)), (2, .ref (a + 866)), (1, .ref a), (0, .ref b)]) hx hb dL_law_692 hl (by decide) rfl (fun ls hl => ?_)
  refine lv_aload_n hx hb dL_law_694 rfl (lv_at hl 4 rfl) ?_
  refine u_goM hB (bk_runV X (Av := []) (rest := []) (mX9_thrown (show fX9_thrown u' = some (u' 3) from rfl)) yv_X9_thrown wm_1921 ⟨Nat.le_of_ble_eq_true rfl, Nat.le_of_ble_eq_true rfl⟩ rfl rfl hl.1 kl_X9.1 (hB.2.1.obj lc_Mo_0) hB.2.1 hB.lenM hB.hM (Nat.le_of_ble_eq_true rfl) ⟨by show cells + 1 + 0 + 0 ≤ 601024; omega, by show slots + 6 + 0 + 0 ≤ 7293034; omega⟩ dL_law_695) (fun H locs hB => ?_)
  refine W.eq (g2 := F0 m 698 ls [.int (u' 3)]) rfl ?_
  refine lv_iload hx hb dL_law_698 (lv_at hl 1 rfl) ?_
  refine lv_icmp_eq (tgt := 705) hx hb dL_law_700 (by decide) (fun _ => ?_) (fun h => absurd ht h)
  refine lv_iload hx hb dL_law_705 (lv_at hl 1 rfl) ?_
  refine lv_if_ne (tgt := 722) hx hb dL_law_707 (by decide) (fun _ => ?_) (fun h0 => ?_)
  · refine lv_goto (tgt := 3148) hx hb dL_law_722 (by decide) ?_
    exact kk ls H locs f9 (lv_sub hl [2, 3, 4, 5, 6] rfl) hB
  · refine lv_aload_n hx hb dL_law_710 rfl (lv_at hl 3 rfl) ?_
    refine lv_iconst (v := 0) hx hb dL_law_711 (by decide) ?_
    refine u_out X hB dL_law_712 ?_
    refine lv_iload hx hb dL_law_713 (lv_at hl 0 rfl) ?_
    refine lv_i2l (v := q.toInt64) hx hb dL_law_715 rfl ?_
    refine W.lcmp hx hb dL_law_716 ?_
    rw [hy9 _ (hy h0), lg_self]
    refine lv_if_eq (tgt := 722) hx hb dL_law_717 (by decide) (fun _ => ?_) (fun h => absurd rfl h)
    refine lv_goto (tgt := 3148) hx hb dL_law_722 (by decide) ?_
    exact kk ls H locs f9 (lv_sub hl [2, 3, 4, 5, 6] rfl) hB
theorem cL_13 {p : Program} {l : Launch} {e : Env} {s : State} {m : MethodId} {args : Array Value} {below : List Frame} {meth : Method} {c : Code} {H : Heap} {locs : List Loc} {cells slots : Nat} {Q : State → Prop} {ls : Array Slot} {D : va_G} {E : bE} {a : Nat} {v u : bM} {f : Nat → Int64} {b L : Nat} {xs : Nat → Int32} {i : Nat} {w u' : bM} {r q : Int32} {y9 : Option Int64} (X : bCx p s m args meth c RL cL_law 9 D E) (hB : uB D E a v u f b L xs s H locs) (hl : lv_has ls 9 [(4, .int (nI i)), (3, .ref (a + 876)), (2, .ref (a + 866)), (1, .ref a), (0, .ref b)]) (hL : L ≤ 3072) (hi : i + 5 < L) (hM : hMet l yL_lotPrice cL_lotPrice 5 [(0, 10, 13, 13)] 10 1 6 [.int (xs (i + 1)), .int (xs (i + 2))] v r w y9) (hf9 : fX9_lotPrice (xs (i + 1)) (xs (i + 2)) u = some (q, u')) (ht : u' 3 = r) (hy : r = 0 → y9 = some q.toInt64) (hc : cells + 20 ≤ 601024 ∧ slots + 3830 ≤ 7293034) (kk : ∀ (ls : Array Slot) (H : Heap) (locs : List Loc) (f9 : Nat → Int64), lv_has ls 9 [(4, .int (nI i)), (3, .ref (a + 876)), (2, .ref (a + 866)), (1, .ref a), (0, .ref b)] → uB D E a w u' f9 b L xs s H locs → W p l e room_1 s m args below meth c H locs (cells + 1) (slots + 6) Q (F0 m 3148 ls [])) : W p l e room_1 s m args below meth c H locs cells slots Q (F0 m 725 ls []) := by
  have hx := X.1
  have hb := X.2.1
  refine lv_aload_n hx hb dL_law_725 rfl (lv_at hl 3 rfl) ?_
  refine u_scr X hB (i := i) 1 hL (by omega) (lv_at hl 4 rfl) (lv_at hl 0 rfl) (by decide) dL_law_726 dL_law_727 dL_law_729 dL_law_730 dL_law_731 ?_
  refine u_scr X hB (i := i) 2 hL (by omega) (lv_at hl 4 rfl) (lv_at hl 0 rfl) (by decide) dL_law_732 dL_law_733 dL_law_735 dL_law_736 dL_law_737 ?_
  refine lv_aload_n hx hb dL_law_738 rfl (lv_at hl 1 rfl) ?_
  refine u_goH X hB (Av := [.int (xs (i + 1)), .int (xs (i + 2))]) (rest := []) hM ⟨rfl, by decide, by decide, rfl⟩ wm_1023 wm_1024 wm_0 wm_1025 ⟨Nat.le_of_ble_eq_true rfl, Nat.le_of_ble_eq_true rfl⟩ (n := 4) rfl hl.1 (Nat.le_of_ble_eq_true rfl) ⟨by show cells + 1 ≤ 601024; omega, by show slots + 6 ≤ 7293034; omega⟩ dL_law_739 (fun H locs f9 hy9 hB => ?_)
  refine lv_istore (lv' := [(5, .int r), (4, .int (nI i)), (3, .ref (a + 876)), (2, .ref (a + 866)), (1, .ref a), (0, .ref b)]) hx hb dL_law_742 hl (by decide) rfl (fun ls hl => ?_)
  refine lv_aload_n hx hb dL_law_744 rfl (lv_at hl 3 rfl) ?_
  refine u_scr X hB (i := i) 1 hL (by omega) (lv_at hl 5 rfl) (lv_at hl 1 rfl) (by decide) dL_law_745 dL_law_746 dL_law_748 dL_law_749 dL_law_750 ?_
  refine u_scr X hB (i := i) 2 hL (by omega) (lv_at hl 5 rfl) (lv_at hl 1 rfl) (by decide) dL_law_751 dL_law_752 dL_law_754 dL_law_755 dL_law_756 ?_
  refine u_goM hB (bk_runV X (Av := [.int (xs (i + 1)), .int (xs (i + 2))]) (rest := []) (mX9_lotPrice hf9) yv_X9_lotPrice wm_1997 ⟨Nat.le_of_ble_eq_true rfl, Nat.le_of_ble_eq_true rfl⟩ rfl rfl hl.1 kl_X9.1 (hB.2.1.obj lc_Mo_0) hB.2.1 hB.lenM hB.hM (Nat.le_of_ble_eq_true rfl) ⟨by show cells + 1 + 0 ≤ 601024; omega, by show slots + 6 + 0 ≤ 7293034; omega⟩ dL_law_757) (fun H locs hB => ?_)
  refine W.eq (g2 := F0 m 760 ls [.int q]) rfl ?_
  refine lv_istore (lv' := [(6, .int q), (5, .int r), (4, .int (nI i)), (3, .ref (a + 876)), (2, .ref (a + 866)), (1, .ref a), (0, .ref b)]) hx hb dL_law_760 hl (by decide) rfl (fun ls hl => ?_)
  refine lv_aload_n hx hb dL_law_762 rfl (lv_at hl 4 rfl) ?_
  refine u_goM hB (bk_runV X (Av := []) (rest := []) (mX9_thrown (show fX9_thrown u' = some (u' 3) from rfl)) yv_X9_thrown wm_1921 ⟨Nat.le_of_ble_eq_true rfl, Nat.le_of_ble_eq_true rfl⟩ rfl rfl hl.1 kl_X9.1 (hB.2.1.obj lc_Mo_0) hB.2.1 hB.lenM hB.hM (Nat.le_of_ble_eq_true rfl) ⟨by show cells + 1 + 0 + 0 ≤ 601024; omega, by show slots + 6 + 0 + 0 ≤ 7293034; omega⟩ dL_law_763) (fun H locs hB => ?_)
  refine W.eq (g2 := F0 m 766 ls [.int (u' 3)]) rfl ?_
  refine lv_iload hx hb dL_law_766 (lv_at hl 1 rfl) ?_
  refine lv_icmp_eq (tgt := 773) hx hb dL_law_768 (by decide) (fun _ => ?_) (fun h => absurd ht h)
  refine lv_iload hx hb dL_law_773 (lv_at hl 1 rfl) ?_
  refine lv_if_ne (tgt := 790) hx hb dL_law_775 (by decide) (fun _ => ?_) (fun h0 => ?_)
  · refine lv_goto (tgt := 3148) hx hb dL_law_790 (by decide) ?_
    exact kk ls H locs f9 (lv_sub hl [2, 3, 4, 5, 6] rfl) hB
  · refine lv_aload_n hx hb dL_law_778 rfl (lv_at hl 3 rfl) ?_
    refine lv_iconst (v := 0) hx hb dL_law_779 (by decide) ?_
    refine u_out X hB dL_law_780 ?_
    refine lv_iload hx hb dL_law_781 (lv_at hl 0 rfl) ?_
    refine lv_i2l (v := q.toInt64) hx hb dL_law_783 rfl ?_
    refine W.lcmp hx hb dL_law_784 ?_
    rw [hy9 _ (hy h0), lg_self]
    refine lv_if_eq (tgt := 790) hx hb dL_law_785 (by decide) (fun _ => ?_) (fun h => absurd rfl h)
    refine lv_goto (tgt := 3148) hx hb dL_law_790 (by decide) ?_
    exact kk ls H locs f9 (lv_sub hl [2, 3, 4, 5, 6] rfl) hB
theorem cL_14 {p : Program} {l : Launch} {e : Env} {s : State} {m : MethodId} {args : Array Value} {below : List Frame} {meth : Method} {c : Code} {H : Heap} {locs : List Loc} {cells slots : Nat} {Q : State → Prop} {ls : Array Slot} {D : va_G} {E : bE} {a : Nat} {v u : bM} {f : Nat → Int64} {b L : Nat} {xs : Nat → Int32} {i : Nat} {v' u' : bM} {r : Int32} (X : bCx p s m args meth c RL cL_law 9 D E) (hB : uB D E a v u f b L xs s H locs) (hl : lv_has ls 9 [(4, .int (nI i)), (3, .ref (a + 876)), (2, .ref (a + 866)), (1, .ref a), (0, .ref b)]) (hL : L ≤ 3072) (hi : i + 5 < L) (hf8 : fX8_breadCount  v = some r) (hf9 : fX9_breadCount  u = some (r, u')) (hc : cells + 20 ≤ 601024 ∧ slots + 3830 ≤ 7293034) (kk : ∀ (ls : Array Slot) (H : Heap) (locs : List Loc), lv_has ls 9 [(4, .int (nI i)), (3, .ref (a + 876)), (2, .ref (a + 866)), (1, .ref a), (0, .ref b)] → uB D E a v u' f b L xs s H locs → W p l e room_1 s m args below meth c H locs cells slots Q (F0 m 3148 ls [])) : W p l e room_1 s m args below meth c H locs cells slots Q (F0 m 793 ls []) := by
  have hx := X.1
  have hb := X.2.1
  refine lv_aload_n hx hb dL_law_793 rfl (lv_at hl 3 rfl) ?_
  refine u_goX hB (bk_runV X (Av := []) (rest := []) (mX8_breadCount hf8) yv_X8_breadCount wm_763 ⟨Nat.le_of_ble_eq_true rfl, Nat.le_of_ble_eq_true rfl⟩ rfl rfl hl.1 kl_X8.1 (hB.1.obj lcq_X_0) hB.1 hB.lenX hB.hX (Nat.le_of_ble_eq_true rfl) ⟨by show cells + 0 ≤ 601024; omega, by show slots + 0 ≤ 7293034; omega⟩ dL_law_794) (fun H locs hB => ?_)
  refine W.eq (g2 := F0 m 797 ls [.int r]) rfl ?_
  refine lv_aload_n hx hb dL_law_797 rfl (lv_at hl 2 rfl) ?_
  refine u_goM hB (bk_runV X (Av := []) (rest := [.int r]) (mX9_breadCount hf9) yv_X9_breadCount wm_2001 ⟨Nat.le_of_ble_eq_true rfl, Nat.le_of_ble_eq_true rfl⟩ rfl rfl hl.1 kl_X9.1 (hB.2.1.obj lc_Mo_0) hB.2.1 hB.lenM hB.hM (Nat.le_of_ble_eq_true rfl) ⟨by show cells + 0 + 0 ≤ 601024; omega, by show slots + 0 + 0 ≤ 7293034; omega⟩ dL_law_798) (fun H locs hB => ?_)
  refine W.eq (g2 := F0 m 801 ls [.int r, .int r]) rfl ?_
  exact lv_icmp_eq (tgt := 3148) hx hb dL_law_801 (by decide) (fun _ => kk ls H locs hl hB) (fun h => absurd rfl h)
theorem cL_15 {p : Program} {l : Launch} {e : Env} {s : State} {m : MethodId} {args : Array Value} {below : List Frame} {meth : Method} {c : Code} {H : Heap} {locs : List Loc} {cells slots : Nat} {Q : State → Prop} {ls : Array Slot} {D : va_G} {E : bE} {a : Nat} {v u : bM} {f : Nat → Int64} {b L : Nat} {xs : Nat → Int32} {i : Nat} {w u' : bM} {r q : Int32} {y9 : Option Int64} (X : bCx p s m args meth c RL cL_law 9 D E) (hB : uB D E a v u f b L xs s H locs) (hl : lv_has ls 9 [(4, .int (nI i)), (3, .ref (a + 876)), (2, .ref (a + 866)), (1, .ref a), (0, .ref b)]) (hL : L ≤ 3072) (hi : i + 5 < L) (hM : hMet l yL_listPrice cL_listPrice 4 [(0, 9, 12, 13)] 9 1 6 [.int (xs (i + 1))] v r w y9) (hf9 : fX9_listPrice (xs (i + 1)) u = some (q, u')) (ht : u' 3 = r) (hy : r = 0 → y9 = some q.toInt64) (hc : cells + 20 ≤ 601024 ∧ slots + 3830 ≤ 7293034) (kk : ∀ (ls : Array Slot) (H : Heap) (locs : List Loc) (f9 : Nat → Int64), lv_has ls 9 [(4, .int (nI i)), (3, .ref (a + 876)), (2, .ref (a + 866)), (1, .ref a), (0, .ref b)] → uB D E a w u' f9 b L xs s H locs → W p l e room_1 s m args below meth c H locs (cells + 1) (slots + 6) Q (F0 m 3148 ls [])) : W p l e room_1 s m args below meth c H locs cells slots Q (F0 m 806 ls []) := by
  have hx := X.1
  have hb := X.2.1
  refine lv_aload_n hx hb dL_law_806 rfl (lv_at hl 3 rfl) ?_
  refine u_scr X hB (i := i) 1 hL (by omega) (lv_at hl 4 rfl) (lv_at hl 0 rfl) (by decide) dL_law_807 dL_law_808 dL_law_810 dL_law_811 dL_law_812 ?_
  refine lv_aload_n hx hb dL_law_813 rfl (lv_at hl 1 rfl) ?_
  refine u_goH X hB (Av := [.int (xs (i + 1))]) (rest := []) hM ⟨rfl, by decide, by decide, rfl⟩ wm_1030 wm_1031 wm_0 wm_1032 ⟨Nat.le_of_ble_eq_true rfl, Nat.le_of_ble_eq_true rfl⟩ (n := 3) rfl hl.1 (Nat.le_of_ble_eq_true rfl) ⟨by show cells + 1 ≤ 601024; omega, by show slots + 6 ≤ 7293034; omega⟩ dL_law_814 (fun H locs f9 hy9 hB => ?_)
  refine lv_istore (lv' := [(5, .int r), (4, .int (nI i)), (3, .ref (a + 876)), (2, .ref (a + 866)), (1, .ref a), (0, .ref b)]) hx hb dL_law_817 hl (by decide) rfl (fun ls hl => ?_)
  refine lv_aload_n hx hb dL_law_819 rfl (lv_at hl 3 rfl) ?_
  refine u_scr X hB (i := i) 1 hL (by omega) (lv_at hl 5 rfl) (lv_at hl 1 rfl) (by decide) dL_law_820 dL_law_821 dL_law_823 dL_law_824 dL_law_825 ?_
  refine u_goM hB (bk_runV X (Av := [.int (xs (i + 1))]) (rest := []) (mX9_listPrice hf9) yv_X9_listPrice wm_2005 ⟨Nat.le_of_ble_eq_true rfl, Nat.le_of_ble_eq_true rfl⟩ rfl rfl hl.1 kl_X9.1 (hB.2.1.obj lc_Mo_0) hB.2.1 hB.lenM hB.hM (Nat.le_of_ble_eq_true rfl) ⟨by show cells + 1 + 0 ≤ 601024; omega, by show slots + 6 + 0 ≤ 7293034; omega⟩ dL_law_826) (fun H locs hB => ?_)
  refine W.eq (g2 := F0 m 829 ls [.int q]) rfl ?_
  refine lv_istore (lv' := [(6, .int q), (5, .int r), (4, .int (nI i)), (3, .ref (a + 876)), (2, .ref (a + 866)), (1, .ref a), (0, .ref b)]) hx hb dL_law_829 hl (by decide) rfl (fun ls hl => ?_)
  refine lv_aload_n hx hb dL_law_831 rfl (lv_at hl 4 rfl) ?_
  refine u_goM hB (bk_runV X (Av := []) (rest := []) (mX9_thrown (show fX9_thrown u' = some (u' 3) from rfl)) yv_X9_thrown wm_1921 ⟨Nat.le_of_ble_eq_true rfl, Nat.le_of_ble_eq_true rfl⟩ rfl rfl hl.1 kl_X9.1 (hB.2.1.obj lc_Mo_0) hB.2.1 hB.lenM hB.hM (Nat.le_of_ble_eq_true rfl) ⟨by show cells + 1 + 0 + 0 ≤ 601024; omega, by show slots + 6 + 0 + 0 ≤ 7293034; omega⟩ dL_law_832) (fun H locs hB => ?_)
  refine W.eq (g2 := F0 m 835 ls [.int (u' 3)]) rfl ?_
  refine lv_iload hx hb dL_law_835 (lv_at hl 1 rfl) ?_
  refine lv_icmp_eq (tgt := 842) hx hb dL_law_837 (by decide) (fun _ => ?_) (fun h => absurd ht h)
  refine lv_iload hx hb dL_law_842 (lv_at hl 1 rfl) ?_
  refine lv_if_ne (tgt := 859) hx hb dL_law_844 (by decide) (fun _ => ?_) (fun h0 => ?_)
  · refine lv_goto (tgt := 3148) hx hb dL_law_859 (by decide) ?_
    exact kk ls H locs f9 (lv_sub hl [2, 3, 4, 5, 6] rfl) hB
  · refine lv_aload_n hx hb dL_law_847 rfl (lv_at hl 3 rfl) ?_
    refine lv_iconst (v := 0) hx hb dL_law_848 (by decide) ?_
    refine u_out X hB dL_law_849 ?_
    refine lv_iload hx hb dL_law_850 (lv_at hl 0 rfl) ?_
    refine lv_i2l (v := q.toInt64) hx hb dL_law_852 rfl ?_
    refine W.lcmp hx hb dL_law_853 ?_
    rw [hy9 _ (hy h0), lg_self]
    refine lv_if_eq (tgt := 859) hx hb dL_law_854 (by decide) (fun _ => ?_) (fun h => absurd rfl h)
    refine lv_goto (tgt := 3148) hx hb dL_law_859 (by decide) ?_
    exact kk ls H locs f9 (lv_sub hl [2, 3, 4, 5, 6] rfl) hB
theorem cL_16 {p : Program} {l : Launch} {e : Env} {s : State} {m : MethodId} {args : Array Value} {below : List Frame} {meth : Method} {c : Code} {H : Heap} {locs : List Loc} {cells slots : Nat} {Q : State → Prop} {ls : Array Slot} {D : va_G} {E : bE} {a : Nat} {v u : bM} {f : Nat → Int64} {b L : Nat} {xs : Nat → Int32} {i : Nat} {w u' : bM} {r q : Int32} {y9 : Option Int64} (X : bCx p s m args meth c RL cL_law 9 D E) (hB : uB D E a v u f b L xs s H locs) (hl : lv_has ls 9 [(4, .int (nI i)), (3, .ref (a + 876)), (2, .ref (a + 866)), (1, .ref a), (0, .ref b)]) (hL : L ≤ 3072) (hi : i + 5 < L) (hM : hMet l yL_minutesOf cL_minutesOf 4 [(0, 9, 12, 13)] 9 1 6 [.int (xs (i + 1))] v r w y9) (hf9 : fX9_minutesOf (xs (i + 1)) u = some (q, u')) (ht : u' 3 = r) (hy : r = 0 → y9 = some q.toInt64) (hc : cells + 20 ≤ 601024 ∧ slots + 3830 ≤ 7293034) (kk : ∀ (ls : Array Slot) (H : Heap) (locs : List Loc) (f9 : Nat → Int64), lv_has ls 9 [(4, .int (nI i)), (3, .ref (a + 876)), (2, .ref (a + 866)), (1, .ref a), (0, .ref b)] → uB D E a w u' f9 b L xs s H locs → W p l e room_1 s m args below meth c H locs (cells + 1) (slots + 6) Q (F0 m 3148 ls [])) : W p l e room_1 s m args below meth c H locs cells slots Q (F0 m 862 ls []) := by
  have hx := X.1
  have hb := X.2.1
  refine lv_aload_n hx hb dL_law_862 rfl (lv_at hl 3 rfl) ?_
  refine u_scr X hB (i := i) 1 hL (by omega) (lv_at hl 4 rfl) (lv_at hl 0 rfl) (by decide) dL_law_863 dL_law_864 dL_law_866 dL_law_867 dL_law_868 ?_
  refine lv_aload_n hx hb dL_law_869 rfl (lv_at hl 1 rfl) ?_
  refine u_goH X hB (Av := [.int (xs (i + 1))]) (rest := []) hM ⟨rfl, by decide, by decide, rfl⟩ wm_1041 wm_1042 wm_0 wm_1043 ⟨Nat.le_of_ble_eq_true rfl, Nat.le_of_ble_eq_true rfl⟩ (n := 3) rfl hl.1 (Nat.le_of_ble_eq_true rfl) ⟨by show cells + 1 ≤ 601024; omega, by show slots + 6 ≤ 7293034; omega⟩ dL_law_870 (fun H locs f9 hy9 hB => ?_)
  refine lv_istore (lv' := [(5, .int r), (4, .int (nI i)), (3, .ref (a + 876)), (2, .ref (a + 866)), (1, .ref a), (0, .ref b)]) hx hb dL_law_873 hl (by decide) rfl (fun ls hl => ?_)
  refine lv_aload_n hx hb dL_law_875 rfl (lv_at hl 3 rfl) ?_
  refine u_scr X hB (i := i) 1 hL (by omega) (lv_at hl 5 rfl) (lv_at hl 1 rfl) (by decide) dL_law_876 dL_law_877 dL_law_879 dL_law_880 dL_law_881 ?_
  refine u_goM hB (bk_runV X (Av := [.int (xs (i + 1))]) (rest := []) (mX9_minutesOf hf9) yv_X9_minutesOf wm_2013 ⟨Nat.le_of_ble_eq_true rfl, Nat.le_of_ble_eq_true rfl⟩ rfl rfl hl.1 kl_X9.1 (hB.2.1.obj lc_Mo_0) hB.2.1 hB.lenM hB.hM (Nat.le_of_ble_eq_true rfl) ⟨by show cells + 1 + 0 ≤ 601024; omega, by show slots + 6 + 0 ≤ 7293034; omega⟩ dL_law_882) (fun H locs hB => ?_)
  refine W.eq (g2 := F0 m 885 ls [.int q]) rfl ?_
  refine lv_istore (lv' := [(6, .int q), (5, .int r), (4, .int (nI i)), (3, .ref (a + 876)), (2, .ref (a + 866)), (1, .ref a), (0, .ref b)]) hx hb dL_law_885 hl (by decide) rfl (fun ls hl => ?_)
  refine lv_aload_n hx hb dL_law_887 rfl (lv_at hl 4 rfl) ?_
  refine u_goM hB (bk_runV X (Av := []) (rest := []) (mX9_thrown (show fX9_thrown u' = some (u' 3) from rfl)) yv_X9_thrown wm_1921 ⟨Nat.le_of_ble_eq_true rfl, Nat.le_of_ble_eq_true rfl⟩ rfl rfl hl.1 kl_X9.1 (hB.2.1.obj lc_Mo_0) hB.2.1 hB.lenM hB.hM (Nat.le_of_ble_eq_true rfl) ⟨by show cells + 1 + 0 + 0 ≤ 601024; omega, by show slots + 6 + 0 + 0 ≤ 7293034; omega⟩ dL_law_888) (fun H locs hB => ?_)
  refine W.eq (g2 := F0 m 891 ls [.int (u' 3)]) rfl ?_
  refine lv_iload hx hb dL_law_891 (lv_at hl 1 rfl) ?_
  refine lv_icmp_eq (tgt := 898) hx hb dL_law_893 (by decide) (fun _ => ?_) (fun h => absurd ht h)
  refine lv_iload hx hb dL_law_898 (lv_at hl 1 rfl) ?_
  refine lv_if_ne (tgt := 915) hx hb dL_law_900 (by decide) (fun _ => ?_) (fun h0 => ?_)
  · refine lv_goto (tgt := 3148) hx hb dL_law_915 (by decide) ?_
    exact kk ls H locs f9 (lv_sub hl [2, 3, 4, 5, 6] rfl) hB
  · refine lv_aload_n hx hb dL_law_903 rfl (lv_at hl 3 rfl) ?_
    refine lv_iconst (v := 0) hx hb dL_law_904 (by decide) ?_
    refine u_out X hB dL_law_905 ?_
    refine lv_iload hx hb dL_law_906 (lv_at hl 0 rfl) ?_
    refine lv_i2l (v := q.toInt64) hx hb dL_law_908 rfl ?_
    refine W.lcmp hx hb dL_law_909 ?_
    rw [hy9 _ (hy h0), lg_self]
    refine lv_if_eq (tgt := 915) hx hb dL_law_910 (by decide) (fun _ => ?_) (fun h => absurd rfl h)
    refine lv_goto (tgt := 3148) hx hb dL_law_915 (by decide) ?_
    exact kk ls H locs f9 (lv_sub hl [2, 3, 4, 5, 6] rfl) hB
theorem cL_17 {p : Program} {l : Launch} {e : Env} {s : State} {m : MethodId} {args : Array Value} {below : List Frame} {meth : Method} {c : Code} {H : Heap} {locs : List Loc} {cells slots : Nat} {Q : State → Prop} {ls : Array Slot} {D : va_G} {E : bE} {a : Nat} {v u : bM} {f : Nat → Int64} {b L : Nat} {xs : Nat → Int32} {i : Nat} {w u' : bM} {r q : Int32} {y9 : Option Int64} (X : bCx p s m args meth c RL cL_law 9 D E) (hB : uB D E a v u f b L xs s H locs) (hl : lv_has ls 9 [(4, .int (nI i)), (3, .ref (a + 876)), (2, .ref (a + 866)), (1, .ref a), (0, .ref b)]) (hL : L ≤ 3072) (hi : i + 5 < L) (hM : hMet l yL_amountOf cL_amountOf 5 [(0, 10, 13, 13)] 9 1 6 [.int (xs (i + 1)), .int (xs (i + 2))] v r w y9) (hf9 : fX9_amountOf (xs (i + 1)) (xs (i + 2)) u = some (q, u')) (ht : u' 3 = r) (hy : r = 0 → y9 = some q.toInt64) (hc : cells + 20 ≤ 601024 ∧ slots + 3830 ≤ 7293034) (kk : ∀ (ls : Array Slot) (H : Heap) (locs : List Loc) (f9 : Nat → Int64), lv_has ls 9 [(4, .int (nI i)), (3, .ref (a + 876)), (2, .ref (a + 866)), (1, .ref a), (0, .ref b)] → uB D E a w u' f9 b L xs s H locs → W p l e room_1 s m args below meth c H locs (cells + 1) (slots + 6) Q (F0 m 3148 ls [])) : W p l e room_1 s m args below meth c H locs cells slots Q (F0 m 918 ls []) := by
  have hx := X.1
  have hb := X.2.1
  refine lv_aload_n hx hb dL_law_918 rfl (lv_at hl 3 rfl) ?_
  refine u_scr X hB (i := i) 1 hL (by omega) (lv_at hl 4 rfl) (lv_at hl 0 rfl) (by decide) dL_law_919 dL_law_920 dL_law_922 dL_law_923 dL_law_924 ?_
  refine u_scr X hB (i := i) 2 hL (by omega) (lv_at hl 4 rfl) (lv_at hl 0 rfl) (by decide) dL_law_925 dL_law_926 dL_law_928 dL_law_929 dL_law_930 ?_
  refine lv_aload_n hx hb dL_law_931 rfl (lv_at hl 1 rfl) ?_
  refine u_goH X hB (Av := [.int (xs (i + 1)), .int (xs (i + 2))]) (rest := []) hM ⟨rfl, by decide, by decide, rfl⟩ wm_1048 wm_1049 wm_0 wm_1050 ⟨Nat.le_of_ble_eq_true rfl, Nat.le_of_ble_eq_true rfl⟩ (n := 4) rfl hl.1 (Nat.le_of_ble_eq_true rfl) ⟨by show cells + 1 ≤ 601024; omega, by show slots + 6 ≤ 7293034; omega⟩ dL_law_932 (fun H locs f9 hy9 hB => ?_)
  refine lv_istore (lv' := [(5, .int r), (4, .int (nI i)), (3, .ref (a + 876)), (2, .ref (a + 866)), (1, .ref a), (0, .ref b)]) hx hb dL_law_935 hl (by decide) rfl (fun ls hl => ?_)
  refine lv_aload_n hx hb dL_law_937 rfl (lv_at hl 3 rfl) ?_
  refine u_scr X hB (i := i) 1 hL (by omega) (lv_at hl 5 rfl) (lv_at hl 1 rfl) (by decide) dL_law_938 dL_law_939 dL_law_941 dL_law_942 dL_law_943 ?_
  refine u_scr X hB (i := i) 2 hL (by omega) (lv_at hl 5 rfl) (lv_at hl 1 rfl) (by decide) dL_law_944 dL_law_945 dL_law_947 dL_law_948 dL_law_949 ?_
  refine u_goM hB (bk_runV X (Av := [.int (xs (i + 1)), .int (xs (i + 2))]) (rest := []) (mX9_amountOf hf9) yv_X9_amountOf wm_2017 ⟨Nat.le_of_ble_eq_true rfl, Nat.le_of_ble_eq_true rfl⟩ rfl rfl hl.1 kl_X9.1 (hB.2.1.obj lc_Mo_0) hB.2.1 hB.lenM hB.hM (Nat.le_of_ble_eq_true rfl) ⟨by show cells + 1 + 0 ≤ 601024; omega, by show slots + 6 + 0 ≤ 7293034; omega⟩ dL_law_950) (fun H locs hB => ?_)
  refine W.eq (g2 := F0 m 953 ls [.int q]) rfl ?_
  refine lv_istore (lv' := [(6, .int q), (5, .int r), (4, .int (nI i)), (3, .ref (a + 876)), (2, .ref (a + 866)), (1, .ref a), (0, .ref b)]) hx hb dL_law_953 hl (by decide) rfl (fun ls hl => ?_)
  refine lv_aload_n hx hb dL_law_955 rfl (lv_at hl 4 rfl) ?_
  refine u_goM hB (bk_runV X (Av := []) (rest := []) (mX9_thrown (show fX9_thrown u' = some (u' 3) from rfl)) yv_X9_thrown wm_1921 ⟨Nat.le_of_ble_eq_true rfl, Nat.le_of_ble_eq_true rfl⟩ rfl rfl hl.1 kl_X9.1 (hB.2.1.obj lc_Mo_0) hB.2.1 hB.lenM hB.hM (Nat.le_of_ble_eq_true rfl) ⟨by show cells + 1 + 0 + 0 ≤ 601024; omega, by show slots + 6 + 0 + 0 ≤ 7293034; omega⟩ dL_law_956) (fun H locs hB => ?_)
  refine W.eq (g2 := F0 m 959 ls [.int (u' 3)]) rfl ?_
  refine lv_iload hx hb dL_law_959 (lv_at hl 1 rfl) ?_
  refine lv_icmp_eq (tgt := 966) hx hb dL_law_961 (by decide) (fun _ => ?_) (fun h => absurd ht h)
  refine lv_iload hx hb dL_law_966 (lv_at hl 1 rfl) ?_
  refine lv_if_ne (tgt := 983) hx hb dL_law_968 (by decide) (fun _ => ?_) (fun h0 => ?_)
  · refine lv_goto (tgt := 3148) hx hb dL_law_983 (by decide) ?_
    exact kk ls H locs f9 (lv_sub hl [2, 3, 4, 5, 6] rfl) hB
  · refine lv_aload_n hx hb dL_law_971 rfl (lv_at hl 3 rfl) ?_
    refine lv_iconst (v := 0) hx hb dL_law_972 (by decide) ?_
    refine u_out X hB dL_law_973 ?_
    refine lv_iload hx hb dL_law_974 (lv_at hl 0 rfl) ?_
    refine lv_i2l (v := q.toInt64) hx hb dL_law_976 rfl ?_
    refine W.lcmp hx hb dL_law_977 ?_
    rw [hy9 _ (hy h0), lg_self]
    refine lv_if_eq (tgt := 983) hx hb dL_law_978 (by decide) (fun _ => ?_) (fun h => absurd rfl h)
    refine lv_goto (tgt := 3148) hx hb dL_law_983 (by decide) ?_
    exact kk ls H locs f9 (lv_sub hl [2, 3, 4, 5, 6] rfl) hB
theorem cL_18 {p : Program} {l : Launch} {e : Env} {s : State} {m : MethodId} {args : Array Value} {below : List Frame} {meth : Method} {c : Code} {H : Heap} {locs : List Loc} {cells slots : Nat} {Q : State → Prop} {ls : Array Slot} {D : va_G} {E : bE} {a : Nat} {v u : bM} {f : Nat → Int64} {b L : Nat} {xs : Nat → Int32} {i : Nat} {w u' : bM} {r q : Int32} {y9 : Option Int64} (X : bCx p s m args meth c RL cL_law 9 D E) (hB : uB D E a v u f b L xs s H locs) (hl : lv_has ls 9 [(4, .int (nI i)), (3, .ref (a + 876)), (2, .ref (a + 866)), (1, .ref a), (0, .ref b)]) (hL : L ≤ 3072) (hi : i + 5 < L) (hM : hMet l yL_standardCost cL_standardCost 4 [(0, 9, 12, 13)] 9 1 6 [.int (xs (i + 1))] v r w y9) (hf9 : fX9_standardCost (xs (i + 1)) u = some (q, u')) (ht : u' 3 = r) (hy : r = 0 → y9 = some q.toInt64) (hc : cells + 20 ≤ 601024 ∧ slots + 3830 ≤ 7293034) (kk : ∀ (ls : Array Slot) (H : Heap) (locs : List Loc) (f9 : Nat → Int64), lv_has ls 9 [(4, .int (nI i)), (3, .ref (a + 876)), (2, .ref (a + 866)), (1, .ref a), (0, .ref b)] → uB D E a w u' f9 b L xs s H locs → W p l e room_1 s m args below meth c H locs (cells + 1) (slots + 6) Q (F0 m 3148 ls [])) : W p l e room_1 s m args below meth c H locs cells slots Q (F0 m 986 ls []) := by
  have hx := X.1
  have hb := X.2.1
  refine lv_aload_n hx hb dL_law_986 rfl (lv_at hl 3 rfl) ?_
  refine u_scr X hB (i := i) 1 hL (by omega) (lv_at hl 4 rfl) (lv_at hl 0 rfl) (by decide) dL_law_987 dL_law_988 dL_law_990 dL_law_991 dL_law_992 ?_
  refine lv_aload_n hx hb dL_law_993 rfl (lv_at hl 1 rfl) ?_
  refine u_goH X hB (Av := [.int (xs (i + 1))]) (rest := []) hM ⟨rfl, by decide, by decide, rfl⟩ wm_1055 wm_1056 wm_0 wm_1057 ⟨Nat.le_of_ble_eq_true rfl, Nat.le_of_ble_eq_true rfl⟩ (n := 3) rfl hl.1 (Nat.le_of_ble_eq_true rfl) ⟨by show cells + 1 ≤ 601024; omega, by show slots + 6 ≤ 7293034; omega⟩ dL_law_994 (fun H locs f9 hy9 hB => ?_)
  refine lv_istore (lv' := [(5, .int r), (4, .int (nI i)), (3, .ref (a + 876)), (2, .ref (a + 866)), (1, .ref a), (0, .ref b)]) hx hb dL_law_997 hl (by decide) rfl (fun ls hl => ?_)
  refine lv_aload_n hx hb dL_law_999 rfl (lv_at hl 3 rfl) ?_
  refine u_scr X hB (i := i) 1 hL (by omega) (lv_at hl 5 rfl) (lv_at hl 1 rfl) (by decide) dL_law_1000 dL_law_1001 dL_law_1003 dL_law_1004 dL_law_1005 ?_
  refine u_goM hB (bk_runV X (Av := [.int (xs (i + 1))]) (rest := []) (mX9_standardCost hf9) yv_X9_standardCost wm_2021 ⟨Nat.le_of_ble_eq_true rfl, Nat.le_of_ble_eq_true rfl⟩ rfl rfl hl.1 kl_X9.1 (hB.2.1.obj lc_Mo_0) hB.2.1 hB.lenM hB.hM (Nat.le_of_ble_eq_true rfl) ⟨by show cells + 1 + 0 ≤ 601024; omega, by show slots + 6 + 0 ≤ 7293034; omega⟩ dL_law_1006) (fun H locs hB => ?_)
  refine W.eq (g2 := F0 m 1009 ls [.int q]) rfl ?_
  refine lv_istore (lv' := [(6, .int q), (5, .int r), (4, .int (nI i)), (3, .ref (a + 876)), (2, .ref (a + 866)), (1, .ref a), (0, .ref b)]) hx hb dL_law_1009 hl (by decide) rfl (fun ls hl => ?_)
  refine lv_aload_n hx hb dL_law_1011 rfl (lv_at hl 4 rfl) ?_
  refine u_goM hB (bk_runV X (Av := []) (rest := []) (mX9_thrown (show fX9_thrown u' = some (u' 3) from rfl)) yv_X9_thrown wm_1921 ⟨Nat.le_of_ble_eq_true rfl, Nat.le_of_ble_eq_true rfl⟩ rfl rfl hl.1 kl_X9.1 (hB.2.1.obj lc_Mo_0) hB.2.1 hB.lenM hB.hM (Nat.le_of_ble_eq_true rfl) ⟨by show cells + 1 + 0 + 0 ≤ 601024; omega, by show slots + 6 + 0 + 0 ≤ 7293034; omega⟩ dL_law_1012) (fun H locs hB => ?_)
  refine W.eq (g2 := F0 m 1015 ls [.int (u' 3)]) rfl ?_
  refine lv_iload hx hb dL_law_1015 (lv_at hl 1 rfl) ?_
  refine lv_icmp_eq (tgt := 1022) hx hb dL_law_1017 (by decide) (fun _ => ?_) (fun h => absurd ht h)
  refine lv_iload hx hb dL_law_1022 (lv_at hl 1 rfl) ?_
  refine lv_if_ne (tgt := 1039) hx hb dL_law_1024 (by decide) (fun _ => ?_) (fun h0 => ?_)
  · refine lv_goto (tgt := 3148) hx hb dL_law_1039 (by decide) ?_
    exact kk ls H locs f9 (lv_sub hl [2, 3, 4, 5, 6] rfl) hB
  · refine lv_aload_n hx hb dL_law_1027 rfl (lv_at hl 3 rfl) ?_
    refine lv_iconst (v := 0) hx hb dL_law_1028 (by decide) ?_
    refine u_out X hB dL_law_1029 ?_
    refine lv_iload hx hb dL_law_1030 (lv_at hl 0 rfl) ?_
    refine lv_i2l (v := q.toInt64) hx hb dL_law_1032 rfl ?_
    refine W.lcmp hx hb dL_law_1033 ?_
    rw [hy9 _ (hy h0), lg_self]
    refine lv_if_eq (tgt := 1039) hx hb dL_law_1034 (by decide) (fun _ => ?_) (fun h => absurd rfl h)
    refine lv_goto (tgt := 3148) hx hb dL_law_1039 (by decide) ?_
    exact kk ls H locs f9 (lv_sub hl [2, 3, 4, 5, 6] rfl) hB
theorem cL_19 {p : Program} {l : Launch} {e : Env} {s : State} {m : MethodId} {args : Array Value} {below : List Frame} {meth : Method} {c : Code} {H : Heap} {locs : List Loc} {cells slots : Nat} {Q : State → Prop} {ls : Array Slot} {D : va_G} {E : bE} {a : Nat} {v u : bM} {f : Nat → Int64} {b L : Nat} {xs : Nat → Int32} {i : Nat} {w u' : bM} {r q : Int32} {y9 : Option Int64} (X : bCx p s m args meth c RL cL_law 9 D E) (hB : uB D E a v u f b L xs s H locs) (hl : lv_has ls 9 [(4, .int (nI i)), (3, .ref (a + 876)), (2, .ref (a + 866)), (1, .ref a), (0, .ref b)]) (hL : L ≤ 3072) (hi : i + 5 < L) (hM : hMet l yL_loavesOf cL_loavesOf 4 [(0, 9, 12, 13)] 9 1 6 [.int (xs (i + 1))] v r w y9) (hf9 : fX9_loavesOf (xs (i + 1)) u = some (q, u')) (ht : u' 3 = r) (hy : r = 0 → y9 = some q.toInt64) (hc : cells + 20 ≤ 601024 ∧ slots + 3830 ≤ 7293034) (kk : ∀ (ls : Array Slot) (H : Heap) (locs : List Loc) (f9 : Nat → Int64), lv_has ls 9 [(4, .int (nI i)), (3, .ref (a + 876)), (2, .ref (a + 866)), (1, .ref a), (0, .ref b)] → uB D E a w u' f9 b L xs s H locs → W p l e room_1 s m args below meth c H locs (cells + 1) (slots + 6) Q (F0 m 3148 ls [])) : W p l e room_1 s m args below meth c H locs cells slots Q (F0 m 1042 ls []) := by
  have hx := X.1
  have hb := X.2.1
  refine lv_aload_n hx hb dL_law_1042 rfl (lv_at hl 3 rfl) ?_
  refine u_scr X hB (i := i) 1 hL (by omega) (lv_at hl 4 rfl) (lv_at hl 0 rfl) (by decide) dL_law_1043 dL_law_1044 dL_law_1046 dL_law_1047 dL_law_1048 ?_
  refine lv_aload_n hx hb dL_law_1049 rfl (lv_at hl 1 rfl) ?_
  refine u_goH X hB (Av := [.int (xs (i + 1))]) (rest := []) hM ⟨rfl, by decide, by decide, rfl⟩ wm_1062 wm_1063 wm_0 wm_1064 ⟨Nat.le_of_ble_eq_true rfl, Nat.le_of_ble_eq_true rfl⟩ (n := 3) rfl hl.1 (Nat.le_of_ble_eq_true rfl) ⟨by show cells + 1 ≤ 601024; omega, by show slots + 6 ≤ 7293034; omega⟩ dL_law_1050 (fun H locs f9 hy9 hB => ?_)
  refine lv_istore (lv' := [(5, .int r), (4, .int (nI i)), (3, .ref (a + 876)), (2, .ref (a + 866)), (1, .ref a), (0, .ref b)]) hx hb dL_law_1053 hl (by decide) rfl (fun ls hl => ?_)
  refine lv_aload_n hx hb dL_law_1055 rfl (lv_at hl 3 rfl) ?_
  refine u_scr X hB (i := i) 1 hL (by omega) (lv_at hl 5 rfl) (lv_at hl 1 rfl) (by decide) dL_law_1056 dL_law_1057 dL_law_1059 dL_law_1060 dL_law_1061 ?_
  refine u_goM hB (bk_runV X (Av := [.int (xs (i + 1))]) (rest := []) (mX9_loavesOf hf9) yv_X9_loavesOf wm_2025 ⟨Nat.le_of_ble_eq_true rfl, Nat.le_of_ble_eq_true rfl⟩ rfl rfl hl.1 kl_X9.1 (hB.2.1.obj lc_Mo_0) hB.2.1 hB.lenM hB.hM (Nat.le_of_ble_eq_true rfl) ⟨by show cells + 1 + 0 ≤ 601024; omega, by show slots + 6 + 0 ≤ 7293034; omega⟩ dL_law_1062) (fun H locs hB => ?_)
  refine W.eq (g2 := F0 m 1065 ls [.int q]) rfl ?_
  refine lv_istore (lv' := [(6, .int q), (5, .int r), (4, .int (nI i)), (3, .ref (a + 876)), (2, .ref (a + 866)), (1, .ref a), (0, .ref b)]) hx hb dL_law_1065 hl (by decide) rfl (fun ls hl => ?_)
  refine lv_aload_n hx hb dL_law_1067 rfl (lv_at hl 4 rfl) ?_
  refine u_goM hB (bk_runV X (Av := []) (rest := []) (mX9_thrown (show fX9_thrown u' = some (u' 3) from rfl)) yv_X9_thrown wm_1921 ⟨Nat.le_of_ble_eq_true rfl, Nat.le_of_ble_eq_true rfl⟩ rfl rfl hl.1 kl_X9.1 (hB.2.1.obj lc_Mo_0) hB.2.1 hB.lenM hB.hM (Nat.le_of_ble_eq_true rfl) ⟨by show cells + 1 + 0 + 0 ≤ 601024; omega, by show slots + 6 + 0 + 0 ≤ 7293034; omega⟩ dL_law_1068) (fun H locs hB => ?_)
  refine W.eq (g2 := F0 m 1071 ls [.int (u' 3)]) rfl ?_
  refine lv_iload hx hb dL_law_1071 (lv_at hl 1 rfl) ?_
  refine lv_icmp_eq (tgt := 1078) hx hb dL_law_1073 (by decide) (fun _ => ?_) (fun h => absurd ht h)
  refine lv_iload hx hb dL_law_1078 (lv_at hl 1 rfl) ?_
  refine lv_if_ne (tgt := 1095) hx hb dL_law_1080 (by decide) (fun _ => ?_) (fun h0 => ?_)
  · refine lv_goto (tgt := 3148) hx hb dL_law_1095 (by decide) ?_
    exact kk ls H locs f9 (lv_sub hl [2, 3, 4, 5, 6] rfl) hB
  · refine lv_aload_n hx hb dL_law_1083 rfl (lv_at hl 3 rfl) ?_
    refine lv_iconst (v := 0) hx hb dL_law_1084 (by decide) ?_
    refine u_out X hB dL_law_1085 ?_
    refine lv_iload hx hb dL_law_1086 (lv_at hl 0 rfl) ?_
    refine lv_i2l (v := q.toInt64) hx hb dL_law_1088 rfl ?_
    refine W.lcmp hx hb dL_law_1089 ?_
    rw [hy9 _ (hy h0), lg_self]
    refine lv_if_eq (tgt := 1095) hx hb dL_law_1090 (by decide) (fun _ => ?_) (fun h => absurd rfl h)
    refine lv_goto (tgt := 3148) hx hb dL_law_1095 (by decide) ?_
    exact kk ls H locs f9 (lv_sub hl [2, 3, 4, 5, 6] rfl) hB
theorem cL_20 {p : Program} {l : Launch} {e : Env} {s : State} {m : MethodId} {args : Array Value} {below : List Frame} {meth : Method} {c : Code} {H : Heap} {locs : List Loc} {cells slots : Nat} {Q : State → Prop} {ls : Array Slot} {D : va_G} {E : bE} {a : Nat} {v u : bM} {f : Nat → Int64} {b L : Nat} {xs : Nat → Int32} {i : Nat} {v' u' : bM} {r : Int32} (X : bCx p s m args meth c RL cL_law 9 D E) (hB : uB D E a v u f b L xs s H locs) (hl : lv_has ls 9 [(4, .int (nI i)), (3, .ref (a + 876)), (2, .ref (a + 866)), (1, .ref a), (0, .ref b)]) (hL : L ≤ 3072) (hi : i + 5 < L) (hf8 : fX8_ovenCount  v = some r) (hf9 : fX9_ovenCount  u = some (r, u')) (hc : cells + 20 ≤ 601024 ∧ slots + 3830 ≤ 7293034) (kk : ∀ (ls : Array Slot) (H : Heap) (locs : List Loc), lv_has ls 9 [(4, .int (nI i)), (3, .ref (a + 876)), (2, .ref (a + 866)), (1, .ref a), (0, .ref b)] → uB D E a v u' f b L xs s H locs → W p l e room_1 s m args below meth c H locs cells slots Q (F0 m 3148 ls [])) : W p l e room_1 s m args below meth c H locs cells slots Q (F0 m 1098 ls []) := by
  have hx := X.1
  have hb := X.2.1
  refine lv_aload_n hx hb dL_law_1098 rfl (lv_at hl 3 rfl) ?_
  refine u_goX hB (bk_runV X (Av := []) (rest := []) (mX8_ovenCount hf8) yv_X8_ovenCount wm_767 ⟨Nat.le_of_ble_eq_true rfl, Nat.le_of_ble_eq_true rfl⟩ rfl rfl hl.1 kl_X8.1 (hB.1.obj lcq_X_0) hB.1 hB.lenX hB.hX (Nat.le_of_ble_eq_true rfl) ⟨by show cells + 0 ≤ 601024; omega, by show slots + 0 ≤ 7293034; omega⟩ dL_law_1099) (fun H locs hB => ?_)
  refine W.eq (g2 := F0 m 1102 ls [.int r]) rfl ?_
  refine lv_aload_n hx hb dL_law_1102 rfl (lv_at hl 2 rfl) ?_
  refine u_goM hB (bk_runV X (Av := []) (rest := [.int r]) (mX9_ovenCount hf9) yv_X9_ovenCount wm_2029 ⟨Nat.le_of_ble_eq_true rfl, Nat.le_of_ble_eq_true rfl⟩ rfl rfl hl.1 kl_X9.1 (hB.2.1.obj lc_Mo_0) hB.2.1 hB.lenM hB.hM (Nat.le_of_ble_eq_true rfl) ⟨by show cells + 0 + 0 ≤ 601024; omega, by show slots + 0 + 0 ≤ 7293034; omega⟩ dL_law_1103) (fun H locs hB => ?_)
  refine W.eq (g2 := F0 m 1106 ls [.int r, .int r]) rfl ?_
  exact lv_icmp_eq (tgt := 3148) hx hb dL_law_1106 (by decide) (fun _ => kk ls H locs hl hB) (fun h => absurd rfl h)
theorem cL_21 {p : Program} {l : Launch} {e : Env} {s : State} {m : MethodId} {args : Array Value} {below : List Frame} {meth : Method} {c : Code} {H : Heap} {locs : List Loc} {cells slots : Nat} {Q : State → Prop} {ls : Array Slot} {D : va_G} {E : bE} {a : Nat} {v u : bM} {f : Nat → Int64} {b L : Nat} {xs : Nat → Int32} {i : Nat} {w u' : bM} {r q : Int32} {y9 : Option Int64} (X : bCx p s m args meth c RL cL_law 9 D E) (hB : uB D E a v u f b L xs s H locs) (hl : lv_has ls 9 [(4, .int (nI i)), (3, .ref (a + 876)), (2, .ref (a + 866)), (1, .ref a), (0, .ref b)]) (hL : L ≤ 3072) (hi : i + 5 < L) (hM : hMet l yL_freeAt cL_freeAt 4 [(0, 9, 12, 13)] 8 1 6 [.int (xs (i + 1))] v r w y9) (hf9 : fX9_freeAt (xs (i + 1)) u = some (q, u')) (ht : u' 3 = r) (hy : r = 0 → y9 = some q.toInt64) (hc : cells + 20 ≤ 601024 ∧ slots + 3830 ≤ 7293034) (kk : ∀ (ls : Array Slot) (H : Heap) (locs : List Loc) (f9 : Nat → Int64), lv_has ls 9 [(4, .int (nI i)), (3, .ref (a + 876)), (2, .ref (a + 866)), (1, .ref a), (0, .ref b)] → uB D E a w u' f9 b L xs s H locs → W p l e room_1 s m args below meth c H locs (cells + 1) (slots + 6) Q (F0 m 3148 ls [])) : W p l e room_1 s m args below meth c H locs cells slots Q (F0 m 1111 ls []) := by
  have hx := X.1
  have hb := X.2.1
  refine lv_aload_n hx hb dL_law_1111 rfl (lv_at hl 3 rfl) ?_
  refine u_scr X hB (i := i) 1 hL (by omega) (lv_at hl 4 rfl) (lv_at hl 0 rfl) (by decide) dL_law_1112 dL_law_1113 dL_law_1115 dL_law_1116 dL_law_1117 ?_
  refine lv_aload_n hx hb dL_law_1118 rfl (lv_at hl 1 rfl) ?_
  refine u_goH X hB (Av := [.int (xs (i + 1))]) (rest := []) hM ⟨rfl, by decide, by decide, rfl⟩ wm_1069 wm_1070 wm_0 wm_1071 ⟨Nat.le_of_ble_eq_true rfl, Nat.le_of_ble_eq_true rfl⟩ (n := 3) rfl hl.1 (Nat.le_of_ble_eq_true rfl) ⟨by show cells + 1 ≤ 601024; omega, by show slots + 6 ≤ 7293034; omega⟩ dL_law_1119 (fun H locs f9 hy9 hB => ?_)
  refine lv_istore (lv' := [(5, .int r), (4, .int (nI i)), (3, .ref (a + 876)), (2, .ref (a + 866)), (1, .ref a), (0, .ref b)]) hx hb dL_law_1122 hl (by decide) rfl (fun ls hl => ?_)
  refine lv_aload_n hx hb dL_law_1124 rfl (lv_at hl 3 rfl) ?_
  refine u_scr X hB (i := i) 1 hL (by omega) (lv_at hl 5 rfl) (lv_at hl 1 rfl) (by decide) dL_law_1125 dL_law_1126 dL_law_1128 dL_law_1129 dL_law_1130 ?_
  refine u_goM hB (bk_runV X (Av := [.int (xs (i + 1))]) (rest := []) (mX9_freeAt hf9) yv_X9_freeAt wm_2033 ⟨Nat.le_of_ble_eq_true rfl, Nat.le_of_ble_eq_true rfl⟩ rfl rfl hl.1 kl_X9.1 (hB.2.1.obj lc_Mo_0) hB.2.1 hB.lenM hB.hM (Nat.le_of_ble_eq_true rfl) ⟨by show cells + 1 + 0 ≤ 601024; omega, by show slots + 6 + 0 ≤ 7293034; omega⟩ dL_law_1131) (fun H locs hB => ?_)
  refine W.eq (g2 := F0 m 1134 ls [.int q]) rfl ?_
  refine lv_istore (lv' := [(6, .int q), (5, .int r), (4, .int (nI i)), (3, .ref (a + 876)), (2, .ref (a + 866)), (1, .ref a), (0, .ref b)]) hx hb dL_law_1134 hl (by decide) rfl (fun ls hl => ?_)
  refine lv_aload_n hx hb dL_law_1136 rfl (lv_at hl 4 rfl) ?_
  refine u_goM hB (bk_runV X (Av := []) (rest := []) (mX9_thrown (show fX9_thrown u' = some (u' 3) from rfl)) yv_X9_thrown wm_1921 ⟨Nat.le_of_ble_eq_true rfl, Nat.le_of_ble_eq_true rfl⟩ rfl rfl hl.1 kl_X9.1 (hB.2.1.obj lc_Mo_0) hB.2.1 hB.lenM hB.hM (Nat.le_of_ble_eq_true rfl) ⟨by show cells + 1 + 0 + 0 ≤ 601024; omega, by show slots + 6 + 0 + 0 ≤ 7293034; omega⟩ dL_law_1137) (fun H locs hB => ?_)
  refine W.eq (g2 := F0 m 1140 ls [.int (u' 3)]) rfl ?_
  refine lv_iload hx hb dL_law_1140 (lv_at hl 1 rfl) ?_
  refine lv_icmp_eq (tgt := 1147) hx hb dL_law_1142 (by decide) (fun _ => ?_) (fun h => absurd ht h)
  refine lv_iload hx hb dL_law_1147 (lv_at hl 1 rfl) ?_
  refine lv_if_ne (tgt := 1164) hx hb dL_law_1149 (by decide) (fun _ => ?_) (fun h0 => ?_)
  · refine lv_goto (tgt := 3148) hx hb dL_law_1164 (by decide) ?_
    exact kk ls H locs f9 (lv_sub hl [2, 3, 4, 5, 6] rfl) hB
  · refine lv_aload_n hx hb dL_law_1152 rfl (lv_at hl 3 rfl) ?_
    refine lv_iconst (v := 0) hx hb dL_law_1153 (by decide) ?_
    refine u_out X hB dL_law_1154 ?_
    refine lv_iload hx hb dL_law_1155 (lv_at hl 0 rfl) ?_
    refine lv_i2l (v := q.toInt64) hx hb dL_law_1157 rfl ?_
    refine W.lcmp hx hb dL_law_1158 ?_
    rw [hy9 _ (hy h0), lg_self]
    refine lv_if_eq (tgt := 1164) hx hb dL_law_1159 (by decide) (fun _ => ?_) (fun h => absurd rfl h)
    refine lv_goto (tgt := 3148) hx hb dL_law_1164 (by decide) ?_
    exact kk ls H locs f9 (lv_sub hl [2, 3, 4, 5, 6] rfl) hB
theorem cL_22 {p : Program} {l : Launch} {e : Env} {s : State} {m : MethodId} {args : Array Value} {below : List Frame} {meth : Method} {c : Code} {H : Heap} {locs : List Loc} {cells slots : Nat} {Q : State → Prop} {ls : Array Slot} {D : va_G} {E : bE} {a : Nat} {v u : bM} {f : Nat → Int64} {b L : Nat} {xs : Nat → Int32} {i : Nat} {v' u' : bM} {r : Int32} (X : bCx p s m args meth c RL cL_law 9 D E) (hB : uB D E a v u f b L xs s H locs) (hl : lv_has ls 9 [(4, .int (nI i)), (3, .ref (a + 876)), (2, .ref (a + 866)), (1, .ref a), (0, .ref b)]) (hL : L ≤ 3072) (hi : i + 5 < L) (hf8 : fX8_nextOven  v = some r) (hf9 : fX9_nextOven  u = some (r, u')) (hc : cells + 20 ≤ 601024 ∧ slots + 3830 ≤ 7293034) (kk : ∀ (ls : Array Slot) (H : Heap) (locs : List Loc), lv_has ls 9 [(4, .int (nI i)), (3, .ref (a + 876)), (2, .ref (a + 866)), (1, .ref a), (0, .ref b)] → uB D E a v u' f b L xs s H locs → W p l e room_1 s m args below meth c H locs cells slots Q (F0 m 3148 ls [])) : W p l e room_1 s m args below meth c H locs cells slots Q (F0 m 1167 ls []) := by
  have hx := X.1
  have hb := X.2.1
  refine lv_aload_n hx hb dL_law_1167 rfl (lv_at hl 3 rfl) ?_
  refine u_goX hB (bk_runV X (Av := []) (rest := []) (mX8_nextOven hf8) yv_X8_nextOven wm_771 ⟨Nat.le_of_ble_eq_true rfl, Nat.le_of_ble_eq_true rfl⟩ rfl rfl hl.1 kl_X8.1 (hB.1.obj lcq_X_0) hB.1 hB.lenX hB.hX (Nat.le_of_ble_eq_true rfl) ⟨by show cells + 0 ≤ 601024; omega, by show slots + 0 ≤ 7293034; omega⟩ dL_law_1168) (fun H locs hB => ?_)
  refine W.eq (g2 := F0 m 1171 ls [.int r]) rfl ?_
  refine lv_aload_n hx hb dL_law_1171 rfl (lv_at hl 2 rfl) ?_
  refine u_goM hB (bk_runV X (Av := []) (rest := [.int r]) (mX9_nextOven hf9) yv_X9_nextOven wm_2037 ⟨Nat.le_of_ble_eq_true rfl, Nat.le_of_ble_eq_true rfl⟩ rfl rfl hl.1 kl_X9.1 (hB.2.1.obj lc_Mo_0) hB.2.1 hB.lenM hB.hM (Nat.le_of_ble_eq_true rfl) ⟨by show cells + 0 + 0 ≤ 601024; omega, by show slots + 0 + 0 ≤ 7293034; omega⟩ dL_law_1172) (fun H locs hB => ?_)
  refine W.eq (g2 := F0 m 1175 ls [.int r, .int r]) rfl ?_
  exact lv_icmp_eq (tgt := 3148) hx hb dL_law_1175 (by decide) (fun _ => kk ls H locs hl hB) (fun h => absurd rfl h)
theorem cL_23 {p : Program} {l : Launch} {e : Env} {s : State} {m : MethodId} {args : Array Value} {below : List Frame} {meth : Method} {c : Code} {H : Heap} {locs : List Loc} {cells slots : Nat} {Q : State → Prop} {ls : Array Slot} {D : va_G} {E : bE} {a : Nat} {v u : bM} {f : Nat → Int64} {b L : Nat} {xs : Nat → Int32} {i : Nat} {w u' : bM} {r q : Int32} {y9 : Option Int64} (X : bCx p s m args meth c RL cL_law 9 D E) (hB : uB D E a v u f b L xs s H locs) (hl : lv_has ls 9 [(4, .int (nI i)), (3, .ref (a + 876)), (2, .ref (a + 866)), (1, .ref a), (0, .ref b)]) (hL : L ≤ 3072) (hi : i + 5 < L) (hM : hMet l yL_rateAt cL_rateAt 4 [(0, 9, 12, 49)] 8 1 6 [.int (xs (i + 1))] v r w y9) (hf9 : fX9_rateAt (xs (i + 1)) u = some (q, u')) (ht : u' 3 = r) (hy : r = 0 → y9 = some q.toInt64) (hc : cells + 20 ≤ 601024 ∧ slots + 3830 ≤ 7293034) (kk : ∀ (ls : Array Slot) (H : Heap) (locs : List Loc) (f9 : Nat → Int64), lv_has ls 9 [(4, .int (nI i)), (3, .ref (a + 876)), (2, .ref (a + 866)), (1, .ref a), (0, .ref b)] → uB D E a w u' f9 b L xs s H locs → W p l e room_1 s m args below meth c H locs (cells + 1) (slots + 6) Q (F0 m 3148 ls [])) : W p l e room_1 s m args below meth c H locs cells slots Q (F0 m 1180 ls []) := by
  have hx := X.1
  have hb := X.2.1
  refine lv_aload_n hx hb dL_law_1180 rfl (lv_at hl 3 rfl) ?_
  refine u_scr X hB (i := i) 1 hL (by omega) (lv_at hl 4 rfl) (lv_at hl 0 rfl) (by decide) dL_law_1181 dL_law_1182 dL_law_1184 dL_law_1185 dL_law_1186 ?_
  refine lv_aload_n hx hb dL_law_1187 rfl (lv_at hl 1 rfl) ?_
  refine u_goH X hB (Av := [.int (xs (i + 1))]) (rest := []) hM ⟨rfl, by decide, by decide, rfl⟩ wm_1076 wm_1077 wm_0 wm_1078 ⟨Nat.le_of_ble_eq_true rfl, Nat.le_of_ble_eq_true rfl⟩ (n := 3) rfl hl.1 (Nat.le_of_ble_eq_true rfl) ⟨by show cells + 1 ≤ 601024; omega, by show slots + 6 ≤ 7293034; omega⟩ dL_law_1188 (fun H locs f9 hy9 hB => ?_)
  refine lv_istore (lv' := [(5, .int r), (4, .int (nI i)), (3, .ref (a + 876)), (2, .ref (a + 866)), (1, .ref a), (0, .ref b)]) hx hb dL_law_1191 hl (by decide) rfl (fun ls hl => ?_)
  refine lv_aload_n hx hb dL_law_1193 rfl (lv_at hl 3 rfl) ?_
  refine u_scr X hB (i := i) 1 hL (by omega) (lv_at hl 5 rfl) (lv_at hl 1 rfl) (by decide) dL_law_1194 dL_law_1195 dL_law_1197 dL_law_1198 dL_law_1199 ?_
  refine u_goM hB (bk_runV X (Av := [.int (xs (i + 1))]) (rest := []) (mX9_rateAt hf9) yv_X9_rateAt wm_2041 ⟨Nat.le_of_ble_eq_true rfl, Nat.le_of_ble_eq_true rfl⟩ rfl rfl hl.1 kl_X9.1 (hB.2.1.obj lc_Mo_0) hB.2.1 hB.lenM hB.hM (Nat.le_of_ble_eq_true rfl) ⟨by show cells + 1 + 0 ≤ 601024; omega, by show slots + 6 + 0 ≤ 7293034; omega⟩ dL_law_1200) (fun H locs hB => ?_)
  refine W.eq (g2 := F0 m 1203 ls [.int q]) rfl ?_
  refine lv_istore (lv' := [(6, .int q), (5, .int r), (4, .int (nI i)), (3, .ref (a + 876)), (2, .ref (a + 866)), (1, .ref a), (0, .ref b)]) hx hb dL_law_1203 hl (by decide) rfl (fun ls hl => ?_)
  refine lv_aload_n hx hb dL_law_1205 rfl (lv_at hl 4 rfl) ?_
  refine u_goM hB (bk_runV X (Av := []) (rest := []) (mX9_thrown (show fX9_thrown u' = some (u' 3) from rfl)) yv_X9_thrown wm_1921 ⟨Nat.le_of_ble_eq_true rfl, Nat.le_of_ble_eq_true rfl⟩ rfl rfl hl.1 kl_X9.1 (hB.2.1.obj lc_Mo_0) hB.2.1 hB.lenM hB.hM (Nat.le_of_ble_eq_true rfl) ⟨by show cells + 1 + 0 + 0 ≤ 601024; omega, by show slots + 6 + 0 + 0 ≤ 7293034; omega⟩ dL_law_1206) (fun H locs hB => ?_)
  refine W.eq (g2 := F0 m 1209 ls [.int (u' 3)]) rfl ?_
  refine lv_iload hx hb dL_law_1209 (lv_at hl 1 rfl) ?_
  refine lv_icmp_eq (tgt := 1216) hx hb dL_law_1211 (by decide) (fun _ => ?_) (fun h => absurd ht h)
  refine lv_iload hx hb dL_law_1216 (lv_at hl 1 rfl) ?_
  refine lv_if_ne (tgt := 1233) hx hb dL_law_1218 (by decide) (fun _ => ?_) (fun h0 => ?_)
  · refine lv_goto (tgt := 3148) hx hb dL_law_1233 (by decide) ?_
    exact kk ls H locs f9 (lv_sub hl [2, 3, 4, 5, 6] rfl) hB
  · refine lv_aload_n hx hb dL_law_1221 rfl (lv_at hl 3 rfl) ?_
    refine lv_iconst (v := 0) hx hb dL_law_1222 (by decide) ?_
    refine u_out X hB dL_law_1223 ?_
    refine lv_iload hx hb dL_law_1224 (lv_at hl 0 rfl) ?_
    refine lv_i2l (v := q.toInt64) hx hb dL_law_1226 rfl ?_
    refine W.lcmp hx hb dL_law_1227 ?_
    rw [hy9 _ (hy h0), lg_self]
    refine lv_if_eq (tgt := 1233) hx hb dL_law_1228 (by decide) (fun _ => ?_) (fun h => absurd rfl h)
    refine lv_goto (tgt := 3148) hx hb dL_law_1233 (by decide) ?_
    exact kk ls H locs f9 (lv_sub hl [2, 3, 4, 5, 6] rfl) hB
theorem cL_24 {p : Program} {l : Launch} {e : Env} {s : State} {m : MethodId} {args : Array Value} {below : List Frame} {meth : Method} {c : Code} {H : Heap} {locs : List Loc} {cells slots : Nat} {Q : State → Prop} {ls : Array Slot} {D : va_G} {E : bE} {a : Nat} {v u : bM} {f : Nat → Int64} {b L : Nat} {xs : Nat → Int32} {i : Nat} {v' u' : bM} {r : Int32} (X : bCx p s m args meth c RL cL_law 9 D E) (hB : uB D E a v u f b L xs s H locs) (hl : lv_has ls 9 [(4, .int (nI i)), (3, .ref (a + 876)), (2, .ref (a + 866)), (1, .ref a), (0, .ref b)]) (hL : L ≤ 3072) (hi : i + 5 < L) (hf8 : fX8_standardRate  v = some r) (hf9 : fX9_standardRate  u = some (r, u')) (hc : cells + 20 ≤ 601024 ∧ slots + 3830 ≤ 7293034) (kk : ∀ (ls : Array Slot) (H : Heap) (locs : List Loc), lv_has ls 9 [(4, .int (nI i)), (3, .ref (a + 876)), (2, .ref (a + 866)), (1, .ref a), (0, .ref b)] → uB D E a v u' f b L xs s H locs → W p l e room_1 s m args below meth c H locs cells slots Q (F0 m 3148 ls [])) : W p l e room_1 s m args below meth c H locs cells slots Q (F0 m 1236 ls []) := by
  have hx := X.1
  have hb := X.2.1
  refine lv_aload_n hx hb dL_law_1236 rfl (lv_at hl 3 rfl) ?_
  refine u_goX hB (bk_runV X (Av := []) (rest := []) (mX8_standardRate hf8) yv_X8_standardRate wm_776 ⟨Nat.le_of_ble_eq_true rfl, Nat.le_of_ble_eq_true rfl⟩ rfl rfl hl.1 kl_X8.1 (hB.1.obj lcq_X_0) hB.1 hB.lenX hB.hX (Nat.le_of_ble_eq_true rfl) ⟨by show cells + 0 ≤ 601024; omega, by show slots + 0 ≤ 7293034; omega⟩ dL_law_1237) (fun H locs hB => ?_)
  refine W.eq (g2 := F0 m 1240 ls [.int r]) rfl ?_
  refine lv_aload_n hx hb dL_law_1240 rfl (lv_at hl 2 rfl) ?_
  refine u_goM hB (bk_runV X (Av := []) (rest := [.int r]) (mX9_standardRate hf9) yv_X9_standardRate wm_2045 ⟨Nat.le_of_ble_eq_true rfl, Nat.le_of_ble_eq_true rfl⟩ rfl rfl hl.1 kl_X9.1 (hB.2.1.obj lc_Mo_0) hB.2.1 hB.lenM hB.hM (Nat.le_of_ble_eq_true rfl) ⟨by show cells + 0 + 0 ≤ 601024; omega, by show slots + 0 + 0 ≤ 7293034; omega⟩ dL_law_1241) (fun H locs hB => ?_)
  refine W.eq (g2 := F0 m 1244 ls [.int r, .int r]) rfl ?_
  exact lv_icmp_eq (tgt := 3148) hx hb dL_law_1244 (by decide) (fun _ => kk ls H locs hl hB) (fun h => absurd rfl h)
theorem cL_25 {p : Program} {l : Launch} {e : Env} {s : State} {m : MethodId} {args : Array Value} {below : List Frame} {meth : Method} {c : Code} {H : Heap} {locs : List Loc} {cells slots : Nat} {Q : State → Prop} {ls : Array Slot} {D : va_G} {E : bE} {a : Nat} {v u : bM} {f : Nat → Int64} {b L : Nat} {xs : Nat → Int32} {i : Nat} {v' u' : bM} {r : Int32} (X : bCx p s m args meth c RL cL_law 9 D E) (hB : uB D E a v u f b L xs s H locs) (hl : lv_has ls 9 [(4, .int (nI i)), (3, .ref (a + 876)), (2, .ref (a + 866)), (1, .ref a), (0, .ref b)]) (hL : L ≤ 3072) (hi : i + 5 < L) (hf8 : fX8_batchCount  v = some r) (hf9 : fX9_batchCount  u = some (r, u')) (hc : cells + 20 ≤ 601024 ∧ slots + 3830 ≤ 7293034) (kk : ∀ (ls : Array Slot) (H : Heap) (locs : List Loc), lv_has ls 9 [(4, .int (nI i)), (3, .ref (a + 876)), (2, .ref (a + 866)), (1, .ref a), (0, .ref b)] → uB D E a v u' f b L xs s H locs → W p l e room_1 s m args below meth c H locs cells slots Q (F0 m 3148 ls [])) : W p l e room_1 s m args below meth c H locs cells slots Q (F0 m 1249 ls []) := by
  have hx := X.1
  have hb := X.2.1
  refine lv_aload_n hx hb dL_law_1249 rfl (lv_at hl 3 rfl) ?_
  refine u_goX hB (bk_runV X (Av := []) (rest := []) (mX8_batchCount hf8) yv_X8_batchCount wm_780 ⟨Nat.le_of_ble_eq_true rfl, Nat.le_of_ble_eq_true rfl⟩ rfl rfl hl.1 kl_X8.1 (hB.1.obj lcq_X_0) hB.1 hB.lenX hB.hX (Nat.le_of_ble_eq_true rfl) ⟨by show cells + 0 ≤ 601024; omega, by show slots + 0 ≤ 7293034; omega⟩ dL_law_1250) (fun H locs hB => ?_)
  refine W.eq (g2 := F0 m 1253 ls [.int r]) rfl ?_
  refine lv_aload_n hx hb dL_law_1253 rfl (lv_at hl 2 rfl) ?_
  refine u_goM hB (bk_runV X (Av := []) (rest := [.int r]) (mX9_batchCount hf9) yv_X9_batchCount wm_2049 ⟨Nat.le_of_ble_eq_true rfl, Nat.le_of_ble_eq_true rfl⟩ rfl rfl hl.1 kl_X9.1 (hB.2.1.obj lc_Mo_0) hB.2.1 hB.lenM hB.hM (Nat.le_of_ble_eq_true rfl) ⟨by show cells + 0 + 0 ≤ 601024; omega, by show slots + 0 + 0 ≤ 7293034; omega⟩ dL_law_1254) (fun H locs hB => ?_)
  refine W.eq (g2 := F0 m 1257 ls [.int r, .int r]) rfl ?_
  exact lv_icmp_eq (tgt := 3148) hx hb dL_law_1257 (by decide) (fun _ => kk ls H locs hl hB) (fun h => absurd rfl h)
theorem cL_26 {p : Program} {l : Launch} {e : Env} {s : State} {m : MethodId} {args : Array Value} {below : List Frame} {meth : Method} {c : Code} {H : Heap} {locs : List Loc} {cells slots : Nat} {Q : State → Prop} {ls : Array Slot} {D : va_G} {E : bE} {a : Nat} {v u : bM} {f : Nat → Int64} {b L : Nat} {xs : Nat → Int32} {i : Nat} {w u' : bM} {r q : Int32} {y9 : Option Int64} (X : bCx p s m args meth c RL cL_law 9 D E) (hB : uB D E a v u f b L xs s H locs) (hl : lv_has ls 9 [(4, .int (nI i)), (3, .ref (a + 876)), (2, .ref (a + 866)), (1, .ref a), (0, .ref b)]) (hL : L ≤ 3072) (hi : i + 5 < L) (hM : hMet l yL_batchBread cL_batchBread 4 [(0, 9, 12, 13)] 9 1 6 [.int (xs (i + 1))] v r w y9) (hf9 : fX9_batchBread (xs (i + 1)) u = some (q, u')) (ht : u' 3 = r) (hy : r = 0 → y9 = some q.toInt64) (hc : cells + 20 ≤ 601024 ∧ slots + 3830 ≤ 7293034) (kk : ∀ (ls : Array Slot) (H : Heap) (locs : List Loc) (f9 : Nat → Int64), lv_has ls 9 [(4, .int (nI i)), (3, .ref (a + 876)), (2, .ref (a + 866)), (1, .ref a), (0, .ref b)] → uB D E a w u' f9 b L xs s H locs → W p l e room_1 s m args below meth c H locs (cells + 1) (slots + 6) Q (F0 m 3148 ls [])) : W p l e room_1 s m args below meth c H locs cells slots Q (F0 m 1262 ls []) := by
  have hx := X.1
  have hb := X.2.1
  refine lv_aload_n hx hb dL_law_1262 rfl (lv_at hl 3 rfl) ?_
  refine u_scr X hB (i := i) 1 hL (by omega) (lv_at hl 4 rfl) (lv_at hl 0 rfl) (by decide) dL_law_1263 dL_law_1264 dL_law_1266 dL_law_1267 dL_law_1268 ?_
  refine lv_aload_n hx hb dL_law_1269 rfl (lv_at hl 1 rfl) ?_
  refine u_goH X hB (Av := [.int (xs (i + 1))]) (rest := []) hM ⟨rfl, by decide, by decide, rfl⟩ wm_1103 wm_1104 wm_0 wm_1105 ⟨Nat.le_of_ble_eq_true rfl, Nat.le_of_ble_eq_true rfl⟩ (n := 3) rfl hl.1 (Nat.le_of_ble_eq_true rfl) ⟨by show cells + 1 ≤ 601024; omega, by show slots + 6 ≤ 7293034; omega⟩ dL_law_1270 (fun H locs f9 hy9 hB => ?_)
  refine lv_istore (lv' := [(5, .int r), (4, .int (nI i)), (3, .ref (a + 876)), (2, .ref (a + 866)), (1, .ref a), (0, .ref b)]) hx hb dL_law_1273 hl (by decide) rfl (fun ls hl => ?_)
  refine lv_aload_n hx hb dL_law_1275 rfl (lv_at hl 3 rfl) ?_
  refine u_scr X hB (i := i) 1 hL (by omega) (lv_at hl 5 rfl) (lv_at hl 1 rfl) (by decide) dL_law_1276 dL_law_1277 dL_law_1279 dL_law_1280 dL_law_1281 ?_
  refine u_goM hB (bk_runV X (Av := [.int (xs (i + 1))]) (rest := []) (mX9_batchBread hf9) yv_X9_batchBread wm_2053 ⟨Nat.le_of_ble_eq_true rfl, Nat.le_of_ble_eq_true rfl⟩ rfl rfl hl.1 kl_X9.1 (hB.2.1.obj lc_Mo_0) hB.2.1 hB.lenM hB.hM (Nat.le_of_ble_eq_true rfl) ⟨by show cells + 1 + 0 ≤ 601024; omega, by show slots + 6 + 0 ≤ 7293034; omega⟩ dL_law_1282) (fun H locs hB => ?_)
  refine W.eq (g2 := F0 m 1285 ls [.int q]) rfl ?_
  refine lv_istore (lv' := [(6, .int q), (5, .int r), (4, .int (nI i)), (3, .ref (a + 876)), (2, .ref (a + 866)), (1, .ref a), (0, .ref b)]) hx hb dL_law_1285 hl (by decide) rfl (fun ls hl => ?_)
  refine lv_aload_n hx hb dL_law_1287 rfl (lv_at hl 4 rfl) ?_
  refine u_goM hB (bk_runV X (Av := []) (rest := []) (mX9_thrown (show fX9_thrown u' = some (u' 3) from rfl)) yv_X9_thrown wm_1921 ⟨Nat.le_of_ble_eq_true rfl, Nat.le_of_ble_eq_true rfl⟩ rfl rfl hl.1 kl_X9.1 (hB.2.1.obj lc_Mo_0) hB.2.1 hB.lenM hB.hM (Nat.le_of_ble_eq_true rfl) ⟨by show cells + 1 + 0 + 0 ≤ 601024; omega, by show slots + 6 + 0 + 0 ≤ 7293034; omega⟩ dL_law_1288) (fun H locs hB => ?_)
  refine W.eq (g2 := F0 m 1291 ls [.int (u' 3)]) rfl ?_
  refine lv_iload hx hb dL_law_1291 (lv_at hl 1 rfl) ?_
  refine lv_icmp_eq (tgt := 1298) hx hb dL_law_1293 (by decide) (fun _ => ?_) (fun h => absurd ht h)
  refine lv_iload hx hb dL_law_1298 (lv_at hl 1 rfl) ?_
  refine lv_if_ne (tgt := 1315) hx hb dL_law_1300 (by decide) (fun _ => ?_) (fun h0 => ?_)
  · refine lv_goto (tgt := 3148) hx hb dL_law_1315 (by decide) ?_
    exact kk ls H locs f9 (lv_sub hl [2, 3, 4, 5, 6] rfl) hB
  · refine lv_aload_n hx hb dL_law_1303 rfl (lv_at hl 3 rfl) ?_
    refine lv_iconst (v := 0) hx hb dL_law_1304 (by decide) ?_
    refine u_out X hB dL_law_1305 ?_
    refine lv_iload hx hb dL_law_1306 (lv_at hl 0 rfl) ?_
    refine lv_i2l (v := q.toInt64) hx hb dL_law_1308 rfl ?_
    refine W.lcmp hx hb dL_law_1309 ?_
    rw [hy9 _ (hy h0), lg_self]
    refine lv_if_eq (tgt := 1315) hx hb dL_law_1310 (by decide) (fun _ => ?_) (fun h => absurd rfl h)
    refine lv_goto (tgt := 3148) hx hb dL_law_1315 (by decide) ?_
    exact kk ls H locs f9 (lv_sub hl [2, 3, 4, 5, 6] rfl) hB
theorem cL_27 {p : Program} {l : Launch} {e : Env} {s : State} {m : MethodId} {args : Array Value} {below : List Frame} {meth : Method} {c : Code} {H : Heap} {locs : List Loc} {cells slots : Nat} {Q : State → Prop} {ls : Array Slot} {D : va_G} {E : bE} {a : Nat} {v u : bM} {f : Nat → Int64} {b L : Nat} {xs : Nat → Int32} {i : Nat} {w u' : bM} {r q : Int32} {y9 : Option Int64} (X : bCx p s m args meth c RL cL_law 9 D E) (hB : uB D E a v u f b L xs s H locs) (hl : lv_has ls 9 [(4, .int (nI i)), (3, .ref (a + 876)), (2, .ref (a + 866)), (1, .ref a), (0, .ref b)]) (hL : L ≤ 3072) (hi : i + 5 < L) (hM : hMet l yL_goodLoaves cL_goodLoaves 4 [(0, 9, 12, 13)] 9 1 6 [.int (xs (i + 1))] v r w y9) (hf9 : fX9_goodLoaves (xs (i + 1)) u = some (q, u')) (ht : u' 3 = r) (hy : r = 0 → y9 = some q.toInt64) (hc : cells + 20 ≤ 601024 ∧ slots + 3830 ≤ 7293034) (kk : ∀ (ls : Array Slot) (H : Heap) (locs : List Loc) (f9 : Nat → Int64), lv_has ls 9 [(4, .int (nI i)), (3, .ref (a + 876)), (2, .ref (a + 866)), (1, .ref a), (0, .ref b)] → uB D E a w u' f9 b L xs s H locs → W p l e room_1 s m args below meth c H locs (cells + 1) (slots + 6) Q (F0 m 3148 ls [])) : W p l e room_1 s m args below meth c H locs cells slots Q (F0 m 1318 ls []) := by
  have hx := X.1
  have hb := X.2.1
  refine lv_aload_n hx hb dL_law_1318 rfl (lv_at hl 3 rfl) ?_
  refine u_scr X hB (i := i) 1 hL (by omega) (lv_at hl 4 rfl) (lv_at hl 0 rfl) (by decide) dL_law_1319 dL_law_1320 dL_law_1322 dL_law_1323 dL_law_1324 ?_
  refine lv_aload_n hx hb dL_law_1325 rfl (lv_at hl 1 rfl) ?_
  refine u_goH X hB (Av := [.int (xs (i + 1))]) (rest := []) hM ⟨rfl, by decide, by decide, rfl⟩ wm_1114 wm_1115 wm_0 wm_1116 ⟨Nat.le_of_ble_eq_true rfl, Nat.le_of_ble_eq_true rfl⟩ (n := 3) rfl hl.1 (Nat.le_of_ble_eq_true rfl) ⟨by show cells + 1 ≤ 601024; omega, by show slots + 6 ≤ 7293034; omega⟩ dL_law_1326 (fun H locs f9 hy9 hB => ?_)
  refine lv_istore (lv' := [(5, .int r), (4, .int (nI i)), (3, .ref (a + 876)), (2, .ref (a + 866)), (1, .ref a), (0, .ref b)]) hx hb dL_law_1329 hl (by decide) rfl (fun ls hl => ?_)
  refine lv_aload_n hx hb dL_law_1331 rfl (lv_at hl 3 rfl) ?_
  refine u_scr X hB (i := i) 1 hL (by omega) (lv_at hl 5 rfl) (lv_at hl 1 rfl) (by decide) dL_law_1332 dL_law_1333 dL_law_1335 dL_law_1336 dL_law_1337 ?_
  refine u_goM hB (bk_runV X (Av := [.int (xs (i + 1))]) (rest := []) (mX9_goodLoaves hf9) yv_X9_goodLoaves wm_2061 ⟨Nat.le_of_ble_eq_true rfl, Nat.le_of_ble_eq_true rfl⟩ rfl rfl hl.1 kl_X9.1 (hB.2.1.obj lc_Mo_0) hB.2.1 hB.lenM hB.hM (Nat.le_of_ble_eq_true rfl) ⟨by show cells + 1 + 0 ≤ 601024; omega, by show slots + 6 + 0 ≤ 7293034; omega⟩ dL_law_1338) (fun H locs hB => ?_)
  refine W.eq (g2 := F0 m 1341 ls [.int q]) rfl ?_
  refine lv_istore (lv' := [(6, .int q), (5, .int r), (4, .int (nI i)), (3, .ref (a + 876)), (2, .ref (a + 866)), (1, .ref a), (0, .ref b)]) hx hb dL_law_1341 hl (by decide) rfl (fun ls hl => ?_)
  refine lv_aload_n hx hb dL_law_1343 rfl (lv_at hl 4 rfl) ?_
  refine u_goM hB (bk_runV X (Av := []) (rest := []) (mX9_thrown (show fX9_thrown u' = some (u' 3) from rfl)) yv_X9_thrown wm_1921 ⟨Nat.le_of_ble_eq_true rfl, Nat.le_of_ble_eq_true rfl⟩ rfl rfl hl.1 kl_X9.1 (hB.2.1.obj lc_Mo_0) hB.2.1 hB.lenM hB.hM (Nat.le_of_ble_eq_true rfl) ⟨by show cells + 1 + 0 + 0 ≤ 601024; omega, by show slots + 6 + 0 + 0 ≤ 7293034; omega⟩ dL_law_1344) (fun H locs hB => ?_)
  refine W.eq (g2 := F0 m 1347 ls [.int (u' 3)]) rfl ?_
  refine lv_iload hx hb dL_law_1347 (lv_at hl 1 rfl) ?_
  refine lv_icmp_eq (tgt := 1354) hx hb dL_law_1349 (by decide) (fun _ => ?_) (fun h => absurd ht h)
  refine lv_iload hx hb dL_law_1354 (lv_at hl 1 rfl) ?_
  refine lv_if_ne (tgt := 1371) hx hb dL_law_1356 (by decide) (fun _ => ?_) (fun h0 => ?_)
  · refine lv_goto (tgt := 3148) hx hb dL_law_1371 (by decide) ?_
    exact kk ls H locs f9 (lv_sub hl [2, 3, 4, 5, 6] rfl) hB
  · refine lv_aload_n hx hb dL_law_1359 rfl (lv_at hl 3 rfl) ?_
    refine lv_iconst (v := 0) hx hb dL_law_1360 (by decide) ?_
    refine u_out X hB dL_law_1361 ?_
    refine lv_iload hx hb dL_law_1362 (lv_at hl 0 rfl) ?_
    refine lv_i2l (v := q.toInt64) hx hb dL_law_1364 rfl ?_
    refine W.lcmp hx hb dL_law_1365 ?_
    rw [hy9 _ (hy h0), lg_self]
    refine lv_if_eq (tgt := 1371) hx hb dL_law_1366 (by decide) (fun _ => ?_) (fun h => absurd rfl h)
    refine lv_goto (tgt := 3148) hx hb dL_law_1371 (by decide) ?_
    exact kk ls H locs f9 (lv_sub hl [2, 3, 4, 5, 6] rfl) hB
theorem cL_28 {p : Program} {l : Launch} {e : Env} {s : State} {m : MethodId} {args : Array Value} {below : List Frame} {meth : Method} {c : Code} {H : Heap} {locs : List Loc} {cells slots : Nat} {Q : State → Prop} {ls : Array Slot} {D : va_G} {E : bE} {a : Nat} {v u : bM} {f : Nat → Int64} {b L : Nat} {xs : Nat → Int32} {i : Nat} {w u' : bM} {r q : Int32} {y9 : Option Int64} (X : bCx p s m args meth c RL cL_law 9 D E) (hB : uB D E a v u f b L xs s H locs) (hl : lv_has ls 9 [(4, .int (nI i)), (3, .ref (a + 876)), (2, .ref (a + 866)), (1, .ref a), (0, .ref b)]) (hL : L ≤ 3072) (hi : i + 5 < L) (hM : hMet l yL_startOf cL_startOf 4 [(0, 9, 12, 13)] 9 1 6 [.int (xs (i + 1))] v r w y9) (hf9 : fX9_startOf (xs (i + 1)) u = some (q, u')) (ht : u' 3 = r) (hy : r = 0 → y9 = some q.toInt64) (hc : cells + 20 ≤ 601024 ∧ slots + 3830 ≤ 7293034) (kk : ∀ (ls : Array Slot) (H : Heap) (locs : List Loc) (f9 : Nat → Int64), lv_has ls 9 [(4, .int (nI i)), (3, .ref (a + 876)), (2, .ref (a + 866)), (1, .ref a), (0, .ref b)] → uB D E a w u' f9 b L xs s H locs → W p l e room_1 s m args below meth c H locs (cells + 1) (slots + 6) Q (F0 m 3148 ls [])) : W p l e room_1 s m args below meth c H locs cells slots Q (F0 m 1374 ls []) := by
  have hx := X.1
  have hb := X.2.1
  refine lv_aload_n hx hb dL_law_1374 rfl (lv_at hl 3 rfl) ?_
  refine u_scr X hB (i := i) 1 hL (by omega) (lv_at hl 4 rfl) (lv_at hl 0 rfl) (by decide) dL_law_1375 dL_law_1376 dL_law_1378 dL_law_1379 dL_law_1380 ?_
  refine lv_aload_n hx hb dL_law_1381 rfl (lv_at hl 1 rfl) ?_
  refine u_goH X hB (Av := [.int (xs (i + 1))]) (rest := []) hM ⟨rfl, by decide, by decide, rfl⟩ wm_1121 wm_1122 wm_0 wm_1123 ⟨Nat.le_of_ble_eq_true rfl, Nat.le_of_ble_eq_true rfl⟩ (n := 3) rfl hl.1 (Nat.le_of_ble_eq_true rfl) ⟨by show cells + 1 ≤ 601024; omega, by show slots + 6 ≤ 7293034; omega⟩ dL_law_1382 (fun H locs f9 hy9 hB => ?_)
  refine lv_istore (lv' := [(5, .int r), (4, .int (nI i)), (3, .ref (a + 876)), (2, .ref (a + 866)), (1, .ref a), (0, .ref b)]) hx hb dL_law_1385 hl (by decide) rfl (fun ls hl => ?_)
  refine lv_aload_n hx hb dL_law_1387 rfl (lv_at hl 3 rfl) ?_
  refine u_scr X hB (i := i) 1 hL (by omega) (lv_at hl 5 rfl) (lv_at hl 1 rfl) (by decide) dL_law_1388 dL_law_1389 dL_law_1391 dL_law_1392 dL_law_1393 ?_
  refine u_goM hB (bk_runV X (Av := [.int (xs (i + 1))]) (rest := []) (mX9_startOf hf9) yv_X9_startOf wm_2069 ⟨Nat.le_of_ble_eq_true rfl, Nat.le_of_ble_eq_true rfl⟩ rfl rfl hl.1 kl_X9.1 (hB.2.1.obj lc_Mo_0) hB.2.1 hB.lenM hB.hM (Nat.le_of_ble_eq_true rfl) ⟨by show cells + 1 + 0 ≤ 601024; omega, by show slots + 6 + 0 ≤ 7293034; omega⟩ dL_law_1394) (fun H locs hB => ?_)
  refine W.eq (g2 := F0 m 1397 ls [.int q]) rfl ?_
  refine lv_istore (lv' := [(6, .int q), (5, .int r), (4, .int (nI i)), (3, .ref (a + 876)), (2, .ref (a + 866)), (1, .ref a), (0, .ref b)]) hx hb dL_law_1397 hl (by decide) rfl (fun ls hl => ?_)
  refine lv_aload_n hx hb dL_law_1399 rfl (lv_at hl 4 rfl) ?_
  refine u_goM hB (bk_runV X (Av := []) (rest := []) (mX9_thrown (show fX9_thrown u' = some (u' 3) from rfl)) yv_X9_thrown wm_1921 ⟨Nat.le_of_ble_eq_true rfl, Nat.le_of_ble_eq_true rfl⟩ rfl rfl hl.1 kl_X9.1 (hB.2.1.obj lc_Mo_0) hB.2.1 hB.lenM hB.hM (Nat.le_of_ble_eq_true rfl) ⟨by show cells + 1 + 0 + 0 ≤ 601024; omega, by show slots + 6 + 0 + 0 ≤ 7293034; omega⟩ dL_law_1400) (fun H locs hB => ?_)
  refine W.eq (g2 := F0 m 1403 ls [.int (u' 3)]) rfl ?_
  refine lv_iload hx hb dL_law_1403 (lv_at hl 1 rfl) ?_
  refine lv_icmp_eq (tgt := 1410) hx hb dL_law_1405 (by decide) (fun _ => ?_) (fun h => absurd ht h)
  refine lv_iload hx hb dL_law_1410 (lv_at hl 1 rfl) ?_
  refine lv_if_ne (tgt := 1427) hx hb dL_law_1412 (by decide) (fun _ => ?_) (fun h0 => ?_)
  · refine lv_goto (tgt := 3148) hx hb dL_law_1427 (by decide) ?_
    exact kk ls H locs f9 (lv_sub hl [2, 3, 4, 5, 6] rfl) hB
  · refine lv_aload_n hx hb dL_law_1415 rfl (lv_at hl 3 rfl) ?_
    refine lv_iconst (v := 0) hx hb dL_law_1416 (by decide) ?_
    refine u_out X hB dL_law_1417 ?_
    refine lv_iload hx hb dL_law_1418 (lv_at hl 0 rfl) ?_
    refine lv_i2l (v := q.toInt64) hx hb dL_law_1420 rfl ?_
    refine W.lcmp hx hb dL_law_1421 ?_
    rw [hy9 _ (hy h0), lg_self]
    refine lv_if_eq (tgt := 1427) hx hb dL_law_1422 (by decide) (fun _ => ?_) (fun h => absurd rfl h)
    refine lv_goto (tgt := 3148) hx hb dL_law_1427 (by decide) ?_
    exact kk ls H locs f9 (lv_sub hl [2, 3, 4, 5, 6] rfl) hB
theorem cL_29 {p : Program} {l : Launch} {e : Env} {s : State} {m : MethodId} {args : Array Value} {below : List Frame} {meth : Method} {c : Code} {H : Heap} {locs : List Loc} {cells slots : Nat} {Q : State → Prop} {ls : Array Slot} {D : va_G} {E : bE} {a : Nat} {v u : bM} {f : Nat → Int64} {b L : Nat} {xs : Nat → Int32} {i : Nat} {w u' : bM} {r q : Int32} {y9 : Option Int64} (X : bCx p s m args meth c RL cL_law 9 D E) (hB : uB D E a v u f b L xs s H locs) (hl : lv_has ls 9 [(4, .int (nI i)), (3, .ref (a + 876)), (2, .ref (a + 866)), (1, .ref a), (0, .ref b)]) (hL : L ≤ 3072) (hi : i + 5 < L) (hM : hMet l yL_ovenMinutes cL_ovenMinutes 4 [(0, 9, 12, 13)] 9 1 6 [.int (xs (i + 1))] v r w y9) (hf9 : fX9_ovenMinutes (xs (i + 1)) u = some (q, u')) (ht : u' 3 = r) (hy : r = 0 → y9 = some q.toInt64) (hc : cells + 20 ≤ 601024 ∧ slots + 3830 ≤ 7293034) (kk : ∀ (ls : Array Slot) (H : Heap) (locs : List Loc) (f9 : Nat → Int64), lv_has ls 9 [(4, .int (nI i)), (3, .ref (a + 876)), (2, .ref (a + 866)), (1, .ref a), (0, .ref b)] → uB D E a w u' f9 b L xs s H locs → W p l e room_1 s m args below meth c H locs (cells + 1) (slots + 6) Q (F0 m 3148 ls [])) : W p l e room_1 s m args below meth c H locs cells slots Q (F0 m 1430 ls []) := by
  have hx := X.1
  have hb := X.2.1
  refine lv_aload_n hx hb dL_law_1430 rfl (lv_at hl 3 rfl) ?_
  refine u_scr X hB (i := i) 1 hL (by omega) (lv_at hl 4 rfl) (lv_at hl 0 rfl) (by decide) dL_law_1431 dL_law_1432 dL_law_1434 dL_law_1435 dL_law_1436 ?_
  refine lv_aload_n hx hb dL_law_1437 rfl (lv_at hl 1 rfl) ?_
  refine u_goH X hB (Av := [.int (xs (i + 1))]) (rest := []) hM ⟨rfl, by decide, by decide, rfl⟩ wm_1128 wm_1129 wm_0 wm_1130 ⟨Nat.le_of_ble_eq_true rfl, Nat.le_of_ble_eq_true rfl⟩ (n := 3) rfl hl.1 (Nat.le_of_ble_eq_true rfl) ⟨by show cells + 1 ≤ 601024; omega, by show slots + 6 ≤ 7293034; omega⟩ dL_law_1438 (fun H locs f9 hy9 hB => ?_)
  refine lv_istore (lv' := [(5, .int r), (4, .int (nI i)), (3, .ref (a + 876)), (2, .ref (a + 866)), (1, .ref a), (0, .ref b)]) hx hb dL_law_1441 hl (by decide) rfl (fun ls hl => ?_)
  refine lv_aload_n hx hb dL_law_1443 rfl (lv_at hl 3 rfl) ?_
  refine u_scr X hB (i := i) 1 hL (by omega) (lv_at hl 5 rfl) (lv_at hl 1 rfl) (by decide) dL_law_1444 dL_law_1445 dL_law_1447 dL_law_1448 dL_law_1449 ?_
  refine u_goM hB (bk_runV X (Av := [.int (xs (i + 1))]) (rest := []) (mX9_ovenMinutes hf9) yv_X9_ovenMinutes wm_2073 ⟨Nat.le_of_ble_eq_true rfl, Nat.le_of_ble_eq_true rfl⟩ rfl rfl hl.1 kl_X9.1 (hB.2.1.obj lc_Mo_0) hB.2.1 hB.lenM hB.hM (Nat.le_of_ble_eq_true rfl) ⟨by show cells + 1 + 0 ≤ 601024; omega, by show slots + 6 + 0 ≤ 7293034; omega⟩ dL_law_1450) (fun H locs hB => ?_)
  refine W.eq (g2 := F0 m 1453 ls [.int q]) rfl ?_
  refine lv_istore (lv' := [(6, .int q), (5, .int r), (4, .int (nI i)), (3, .ref (a + 876)), (2, .ref (a + 866)), (1, .ref a), (0, .ref b)]) hx hb dL_law_1453 hl (by decide) rfl (fun ls hl => ?_)
  refine lv_aload_n hx hb dL_law_1455 rfl (lv_at hl 4 rfl) ?_
  refine u_goM hB (bk_runV X (Av := []) (rest := []) (mX9_thrown (show fX9_thrown u' = some (u' 3) from rfl)) yv_X9_thrown wm_1921 ⟨Nat.le_of_ble_eq_true rfl, Nat.le_of_ble_eq_true rfl⟩ rfl rfl hl.1 kl_X9.1 (hB.2.1.obj lc_Mo_0) hB.2.1 hB.lenM hB.hM (Nat.le_of_ble_eq_true rfl) ⟨by show cells + 1 + 0 + 0 ≤ 601024; omega, by show slots + 6 + 0 + 0 ≤ 7293034; omega⟩ dL_law_1456) (fun H locs hB => ?_)
  refine W.eq (g2 := F0 m 1459 ls [.int (u' 3)]) rfl ?_
  refine lv_iload hx hb dL_law_1459 (lv_at hl 1 rfl) ?_
  refine lv_icmp_eq (tgt := 1466) hx hb dL_law_1461 (by decide) (fun _ => ?_) (fun h => absurd ht h)
  refine lv_iload hx hb dL_law_1466 (lv_at hl 1 rfl) ?_
  refine lv_if_ne (tgt := 1483) hx hb dL_law_1468 (by decide) (fun _ => ?_) (fun h0 => ?_)
  · refine lv_goto (tgt := 3148) hx hb dL_law_1483 (by decide) ?_
    exact kk ls H locs f9 (lv_sub hl [2, 3, 4, 5, 6] rfl) hB
  · refine lv_aload_n hx hb dL_law_1471 rfl (lv_at hl 3 rfl) ?_
    refine lv_iconst (v := 0) hx hb dL_law_1472 (by decide) ?_
    refine u_out X hB dL_law_1473 ?_
    refine lv_iload hx hb dL_law_1474 (lv_at hl 0 rfl) ?_
    refine lv_i2l (v := q.toInt64) hx hb dL_law_1476 rfl ?_
    refine W.lcmp hx hb dL_law_1477 ?_
    rw [hy9 _ (hy h0), lg_self]
    refine lv_if_eq (tgt := 1483) hx hb dL_law_1478 (by decide) (fun _ => ?_) (fun h => absurd rfl h)
    refine lv_goto (tgt := 3148) hx hb dL_law_1483 (by decide) ?_
    exact kk ls H locs f9 (lv_sub hl [2, 3, 4, 5, 6] rfl) hB
theorem cL_30 {p : Program} {l : Launch} {e : Env} {s : State} {m : MethodId} {args : Array Value} {below : List Frame} {meth : Method} {c : Code} {H : Heap} {locs : List Loc} {cells slots : Nat} {Q : State → Prop} {ls : Array Slot} {D : va_G} {E : bE} {a : Nat} {v u : bM} {f : Nat → Int64} {b L : Nat} {xs : Nat → Int32} {i : Nat} {w u' : bM} {r q : Int32} {y9 : Option Int64} (X : bCx p s m args meth c RL cL_law 9 D E) (hB : uB D E a v u f b L xs s H locs) (hl : lv_has ls 9 [(4, .int (nI i)), (3, .ref (a + 876)), (2, .ref (a + 866)), (1, .ref a), (0, .ref b)]) (hL : L ≤ 3072) (hi : i + 5 < L) (hM : hMet l yL_costOf cL_costOf 4 [(0, 9, 12, 13)] 9 1 6 [.int (xs (i + 1))] v r w y9) (hf9 : fX9_costOf (xs (i + 1)) u = some (q, u')) (ht : u' 3 = r) (hy : r = 0 → y9 = some q.toInt64) (hc : cells + 20 ≤ 601024 ∧ slots + 3830 ≤ 7293034) (kk : ∀ (ls : Array Slot) (H : Heap) (locs : List Loc) (f9 : Nat → Int64), lv_has ls 9 [(4, .int (nI i)), (3, .ref (a + 876)), (2, .ref (a + 866)), (1, .ref a), (0, .ref b)] → uB D E a w u' f9 b L xs s H locs → W p l e room_1 s m args below meth c H locs (cells + 1) (slots + 6) Q (F0 m 3148 ls [])) : W p l e room_1 s m args below meth c H locs cells slots Q (F0 m 1486 ls []) := by
  have hx := X.1
  have hb := X.2.1
  refine lv_aload_n hx hb dL_law_1486 rfl (lv_at hl 3 rfl) ?_
  refine u_scr X hB (i := i) 1 hL (by omega) (lv_at hl 4 rfl) (lv_at hl 0 rfl) (by decide) dL_law_1487 dL_law_1488 dL_law_1490 dL_law_1491 dL_law_1492 ?_
  refine lv_aload_n hx hb dL_law_1493 rfl (lv_at hl 1 rfl) ?_
  refine u_goH X hB (Av := [.int (xs (i + 1))]) (rest := []) hM ⟨rfl, by decide, by decide, rfl⟩ wm_1135 wm_1136 wm_0 wm_1137 ⟨Nat.le_of_ble_eq_true rfl, Nat.le_of_ble_eq_true rfl⟩ (n := 3) rfl hl.1 (Nat.le_of_ble_eq_true rfl) ⟨by show cells + 1 ≤ 601024; omega, by show slots + 6 ≤ 7293034; omega⟩ dL_law_1494 (fun H locs f9 hy9 hB => ?_)
  refine lv_istore (lv' := [(5, .int r), (4, .int (nI i)), (3, .ref (a + 876)), (2, .ref (a + 866)), (1, .ref a), (0, .ref b)]) hx hb dL_law_1497 hl (by decide) rfl (fun ls hl => ?_)
  refine lv_aload_n hx hb dL_law_1499 rfl (lv_at hl 3 rfl) ?_
  refine u_scr X hB (i := i) 1 hL (by omega) (lv_at hl 5 rfl) (lv_at hl 1 rfl) (by decide) dL_law_1500 dL_law_1501 dL_law_1503 dL_law_1504 dL_law_1505 ?_
  refine u_goM hB (bk_runV X (Av := [.int (xs (i + 1))]) (rest := []) (mX9_costOf hf9) yv_X9_costOf wm_2077 ⟨Nat.le_of_ble_eq_true rfl, Nat.le_of_ble_eq_true rfl⟩ rfl rfl hl.1 kl_X9.1 (hB.2.1.obj lc_Mo_0) hB.2.1 hB.lenM hB.hM (Nat.le_of_ble_eq_true rfl) ⟨by show cells + 1 + 0 ≤ 601024; omega, by show slots + 6 + 0 ≤ 7293034; omega⟩ dL_law_1506) (fun H locs hB => ?_)
  refine W.eq (g2 := F0 m 1509 ls [.int q]) rfl ?_
  refine lv_istore (lv' := [(6, .int q), (5, .int r), (4, .int (nI i)), (3, .ref (a + 876)), (2, .ref (a + 866)), (1, .ref a), (0, .ref b)]) hx hb dL_law_1509 hl (by decide) rfl (fun ls hl => ?_)
  refine lv_aload_n hx hb dL_law_1511 rfl (lv_at hl 4 rfl) ?_
  refine u_goM hB (bk_runV X (Av := []) (rest := []) (mX9_thrown (show fX9_thrown u' = some (u' 3) from rfl)) yv_X9_thrown wm_1921 ⟨Nat.le_of_ble_eq_true rfl, Nat.le_of_ble_eq_true rfl⟩ rfl rfl hl.1 kl_X9.1 (hB.2.1.obj lc_Mo_0) hB.2.1 hB.lenM hB.hM (Nat.le_of_ble_eq_true rfl) ⟨by show cells + 1 + 0 + 0 ≤ 601024; omega, by show slots + 6 + 0 + 0 ≤ 7293034; omega⟩ dL_law_1512) (fun H locs hB => ?_)
  refine W.eq (g2 := F0 m 1515 ls [.int (u' 3)]) rfl ?_
  refine lv_iload hx hb dL_law_1515 (lv_at hl 1 rfl) ?_
  refine lv_icmp_eq (tgt := 1522) hx hb dL_law_1517 (by decide) (fun _ => ?_) (fun h => absurd ht h)
  refine lv_iload hx hb dL_law_1522 (lv_at hl 1 rfl) ?_
  refine lv_if_ne (tgt := 1539) hx hb dL_law_1524 (by decide) (fun _ => ?_) (fun h0 => ?_)
  · refine lv_goto (tgt := 3148) hx hb dL_law_1539 (by decide) ?_
    exact kk ls H locs f9 (lv_sub hl [2, 3, 4, 5, 6] rfl) hB
  · refine lv_aload_n hx hb dL_law_1527 rfl (lv_at hl 3 rfl) ?_
    refine lv_iconst (v := 0) hx hb dL_law_1528 (by decide) ?_
    refine u_out X hB dL_law_1529 ?_
    refine lv_iload hx hb dL_law_1530 (lv_at hl 0 rfl) ?_
    refine lv_i2l (v := q.toInt64) hx hb dL_law_1532 rfl ?_
    refine W.lcmp hx hb dL_law_1533 ?_
    rw [hy9 _ (hy h0), lg_self]
    refine lv_if_eq (tgt := 1539) hx hb dL_law_1534 (by decide) (fun _ => ?_) (fun h => absurd rfl h)
    refine lv_goto (tgt := 3148) hx hb dL_law_1539 (by decide) ?_
    exact kk ls H locs f9 (lv_sub hl [2, 3, 4, 5, 6] rfl) hB
theorem cL_31 {p : Program} {l : Launch} {e : Env} {s : State} {m : MethodId} {args : Array Value} {below : List Frame} {meth : Method} {c : Code} {H : Heap} {locs : List Loc} {cells slots : Nat} {Q : State → Prop} {ls : Array Slot} {D : va_G} {E : bE} {a : Nat} {v u : bM} {f : Nat → Int64} {b L : Nat} {xs : Nat → Int32} {i : Nat} {w u' : bM} {r q : Int32} {y9 : Option Int64} (X : bCx p s m args meth c RL cL_law 9 D E) (hB : uB D E a v u f b L xs s H locs) (hl : lv_has ls 9 [(4, .int (nI i)), (3, .ref (a + 876)), (2, .ref (a + 866)), (1, .ref a), (0, .ref b)]) (hL : L ≤ 3072) (hi : i + 5 < L) (hM : hMet l yL_lossOf cL_lossOf 4 [(0, 9, 12, 13)] 9 1 6 [.int (xs (i + 1))] v r w y9) (hf9 : fX9_lossOf (xs (i + 1)) u = some (q, u')) (ht : u' 3 = r) (hy : r = 0 → y9 = some q.toInt64) (hc : cells + 20 ≤ 601024 ∧ slots + 3830 ≤ 7293034) (kk : ∀ (ls : Array Slot) (H : Heap) (locs : List Loc) (f9 : Nat → Int64), lv_has ls 9 [(4, .int (nI i)), (3, .ref (a + 876)), (2, .ref (a + 866)), (1, .ref a), (0, .ref b)] → uB D E a w u' f9 b L xs s H locs → W p l e room_1 s m args below meth c H locs (cells + 1) (slots + 6) Q (F0 m 3148 ls [])) : W p l e room_1 s m args below meth c H locs cells slots Q (F0 m 1542 ls []) := by
  have hx := X.1
  have hb := X.2.1
  refine lv_aload_n hx hb dL_law_1542 rfl (lv_at hl 3 rfl) ?_
  refine u_scr X hB (i := i) 1 hL (by omega) (lv_at hl 4 rfl) (lv_at hl 0 rfl) (by decide) dL_law_1543 dL_law_1544 dL_law_1546 dL_law_1547 dL_law_1548 ?_
  refine lv_aload_n hx hb dL_law_1549 rfl (lv_at hl 1 rfl) ?_
  refine u_goH X hB (Av := [.int (xs (i + 1))]) (rest := []) hM ⟨rfl, by decide, by decide, rfl⟩ wm_1142 wm_1143 wm_0 wm_1144 ⟨Nat.le_of_ble_eq_true rfl, Nat.le_of_ble_eq_true rfl⟩ (n := 3) rfl hl.1 (Nat.le_of_ble_eq_true rfl) ⟨by show cells + 1 ≤ 601024; omega, by show slots + 6 ≤ 7293034; omega⟩ dL_law_1550 (fun H locs f9 hy9 hB => ?_)
  refine lv_istore (lv' := [(5, .int r), (4, .int (nI i)), (3, .ref (a + 876)), (2, .ref (a + 866)), (1, .ref a), (0, .ref b)]) hx hb dL_law_1553 hl (by decide) rfl (fun ls hl => ?_)
  refine lv_aload_n hx hb dL_law_1555 rfl (lv_at hl 3 rfl) ?_
  refine u_scr X hB (i := i) 1 hL (by omega) (lv_at hl 5 rfl) (lv_at hl 1 rfl) (by decide) dL_law_1556 dL_law_1557 dL_law_1559 dL_law_1560 dL_law_1561 ?_
  refine u_goM hB (bk_runV X (Av := [.int (xs (i + 1))]) (rest := []) (mX9_lossOf hf9) yv_X9_lossOf wm_2081 ⟨Nat.le_of_ble_eq_true rfl, Nat.le_of_ble_eq_true rfl⟩ rfl rfl hl.1 kl_X9.1 (hB.2.1.obj lc_Mo_0) hB.2.1 hB.lenM hB.hM (Nat.le_of_ble_eq_true rfl) ⟨by show cells + 1 + 0 ≤ 601024; omega, by show slots + 6 + 0 ≤ 7293034; omega⟩ dL_law_1562) (fun H locs hB => ?_)
  refine W.eq (g2 := F0 m 1565 ls [.int q]) rfl ?_
  refine lv_istore (lv' := [(6, .int q), (5, .int r), (4, .int (nI i)), (3, .ref (a + 876)), (2, .ref (a + 866)), (1, .ref a), (0, .ref b)]) hx hb dL_law_1565 hl (by decide) rfl (fun ls hl => ?_)
  refine lv_aload_n hx hb dL_law_1567 rfl (lv_at hl 4 rfl) ?_
  refine u_goM hB (bk_runV X (Av := []) (rest := []) (mX9_thrown (show fX9_thrown u' = some (u' 3) from rfl)) yv_X9_thrown wm_1921 ⟨Nat.le_of_ble_eq_true rfl, Nat.le_of_ble_eq_true rfl⟩ rfl rfl hl.1 kl_X9.1 (hB.2.1.obj lc_Mo_0) hB.2.1 hB.lenM hB.hM (Nat.le_of_ble_eq_true rfl) ⟨by show cells + 1 + 0 + 0 ≤ 601024; omega, by show slots + 6 + 0 + 0 ≤ 7293034; omega⟩ dL_law_1568) (fun H locs hB => ?_)
  refine W.eq (g2 := F0 m 1571 ls [.int (u' 3)]) rfl ?_
  refine lv_iload hx hb dL_law_1571 (lv_at hl 1 rfl) ?_
  refine lv_icmp_eq (tgt := 1578) hx hb dL_law_1573 (by decide) (fun _ => ?_) (fun h => absurd ht h)
  refine lv_iload hx hb dL_law_1578 (lv_at hl 1 rfl) ?_
  refine lv_if_ne (tgt := 1595) hx hb dL_law_1580 (by decide) (fun _ => ?_) (fun h0 => ?_)
  · refine lv_goto (tgt := 3148) hx hb dL_law_1595 (by decide) ?_
    exact kk ls H locs f9 (lv_sub hl [2, 3, 4, 5, 6] rfl) hB
  · refine lv_aload_n hx hb dL_law_1583 rfl (lv_at hl 3 rfl) ?_
    refine lv_iconst (v := 0) hx hb dL_law_1584 (by decide) ?_
    refine u_out X hB dL_law_1585 ?_
    refine lv_iload hx hb dL_law_1586 (lv_at hl 0 rfl) ?_
    refine lv_i2l (v := q.toInt64) hx hb dL_law_1588 rfl ?_
    refine W.lcmp hx hb dL_law_1589 ?_
    rw [hy9 _ (hy h0), lg_self]
    refine lv_if_eq (tgt := 1595) hx hb dL_law_1590 (by decide) (fun _ => ?_) (fun h => absurd rfl h)
    refine lv_goto (tgt := 3148) hx hb dL_law_1595 (by decide) ?_
    exact kk ls H locs f9 (lv_sub hl [2, 3, 4, 5, 6] rfl) hB
theorem cL_32 {p : Program} {l : Launch} {e : Env} {s : State} {m : MethodId} {args : Array Value} {below : List Frame} {meth : Method} {c : Code} {H : Heap} {locs : List Loc} {cells slots : Nat} {Q : State → Prop} {ls : Array Slot} {D : va_G} {E : bE} {a : Nat} {v u : bM} {f : Nat → Int64} {b L : Nat} {xs : Nat → Int32} {i : Nat} {w u' : bM} {r q : Int32} {y9 : Option Int64} (X : bCx p s m args meth c RL cL_law 9 D E) (hB : uB D E a v u f b L xs s H locs) (hl : lv_has ls 9 [(4, .int (nI i)), (3, .ref (a + 876)), (2, .ref (a + 866)), (1, .ref a), (0, .ref b)]) (hL : L ≤ 3072) (hi : i + 5 < L) (hM : hMet l yL_gapOf cL_gapOf 5 [(0, 10, 13, 13), (0, 10, 17, 49)] 9 1 6 [.int (xs (i + 1)), .int (xs (i + 2))] v r w y9) (hf9 : fX9_gapOf (xs (i + 1)) (xs (i + 2)) u = some (q, u')) (ht : u' 3 = r) (hy : r = 0 → y9 = some q.toInt64) (hc : cells + 20 ≤ 601024 ∧ slots + 3830 ≤ 7293034) (kk : ∀ (ls : Array Slot) (H : Heap) (locs : List Loc) (f9 : Nat → Int64), lv_has ls 9 [(4, .int (nI i)), (3, .ref (a + 876)), (2, .ref (a + 866)), (1, .ref a), (0, .ref b)] → uB D E a w u' f9 b L xs s H locs → W p l e room_1 s m args below meth c H locs (cells + 1) (slots + 6) Q (F0 m 3148 ls [])) : W p l e room_1 s m args below meth c H locs cells slots Q (F0 m 1598 ls []) := by
  have hx := X.1
  have hb := X.2.1
  refine lv_aload_n hx hb dL_law_1598 rfl (lv_at hl 3 rfl) ?_
  refine u_scr X hB (i := i) 1 hL (by omega) (lv_at hl 4 rfl) (lv_at hl 0 rfl) (by decide) dL_law_1599 dL_law_1600 dL_law_1602 dL_law_1603 dL_law_1604 ?_
  refine u_scr X hB (i := i) 2 hL (by omega) (lv_at hl 4 rfl) (lv_at hl 0 rfl) (by decide) dL_law_1605 dL_law_1606 dL_law_1608 dL_law_1609 dL_law_1610 ?_
  refine lv_aload_n hx hb dL_law_1611 rfl (lv_at hl 1 rfl) ?_
  refine u_goH X hB (Av := [.int (xs (i + 1)), .int (xs (i + 2))]) (rest := []) hM ⟨rfl, by decide, by decide, rfl⟩ wm_1149 wm_1150 wm_0 wm_1151 ⟨Nat.le_of_ble_eq_true rfl, Nat.le_of_ble_eq_true rfl⟩ (n := 4) rfl hl.1 (Nat.le_of_ble_eq_true rfl) ⟨by show cells + 1 ≤ 601024; omega, by show slots + 6 ≤ 7293034; omega⟩ dL_law_1612 (fun H locs f9 hy9 hB => ?_)
  refine lv_istore (lv' := [(5, .int r), (4, .int (nI i)), (3, .ref (a + 876)), (2, .ref (a + 866)), (1, .ref a), (0, .ref b)]) hx hb dL_law_1615 hl (by decide) rfl (fun ls hl => ?_)
  refine lv_aload_n hx hb dL_law_1617 rfl (lv_at hl 3 rfl) ?_
  refine u_scr X hB (i := i) 1 hL (by omega) (lv_at hl 5 rfl) (lv_at hl 1 rfl) (by decide) dL_law_1618 dL_law_1619 dL_law_1621 dL_law_1622 dL_law_1623 ?_
  refine u_scr X hB (i := i) 2 hL (by omega) (lv_at hl 5 rfl) (lv_at hl 1 rfl) (by decide) dL_law_1624 dL_law_1625 dL_law_1627 dL_law_1628 dL_law_1629 ?_
  refine u_goM hB (bk_runV X (Av := [.int (xs (i + 1)), .int (xs (i + 2))]) (rest := []) (mX9_gapOf hf9) yv_X9_gapOf wm_2089 ⟨Nat.le_of_ble_eq_true rfl, Nat.le_of_ble_eq_true rfl⟩ rfl rfl hl.1 kl_X9.1 (hB.2.1.obj lc_Mo_0) hB.2.1 hB.lenM hB.hM (Nat.le_of_ble_eq_true rfl) ⟨by show cells + 1 + 0 ≤ 601024; omega, by show slots + 6 + 0 ≤ 7293034; omega⟩ dL_law_1630) (fun H locs hB => ?_)
  refine W.eq (g2 := F0 m 1633 ls [.int q]) rfl ?_
  refine lv_istore (lv' := [(6, .int q), (5, .int r), (4, .int (nI i)), (3, .ref (a + 876)), (2, .ref (a + 866)), (1, .ref a), (0, .ref b)]) hx hb dL_law_1633 hl (by decide) rfl (fun ls hl => ?_)
  refine lv_aload_n hx hb dL_law_1635 rfl (lv_at hl 4 rfl) ?_
  refine u_goM hB (bk_runV X (Av := []) (rest := []) (mX9_thrown (show fX9_thrown u' = some (u' 3) from rfl)) yv_X9_thrown wm_1921 ⟨Nat.le_of_ble_eq_true rfl, Nat.le_of_ble_eq_true rfl⟩ rfl rfl hl.1 kl_X9.1 (hB.2.1.obj lc_Mo_0) hB.2.1 hB.lenM hB.hM (Nat.le_of_ble_eq_true rfl) ⟨by show cells + 1 + 0 + 0 ≤ 601024; omega, by show slots + 6 + 0 + 0 ≤ 7293034; omega⟩ dL_law_1636) (fun H locs hB => ?_)
  refine W.eq (g2 := F0 m 1639 ls [.int (u' 3)]) rfl ?_
  refine lv_iload hx hb dL_law_1639 (lv_at hl 1 rfl) ?_
  refine lv_icmp_eq (tgt := 1646) hx hb dL_law_1641 (by decide) (fun _ => ?_) (fun h => absurd ht h)
  refine lv_iload hx hb dL_law_1646 (lv_at hl 1 rfl) ?_
  refine lv_if_ne (tgt := 1663) hx hb dL_law_1648 (by decide) (fun _ => ?_) (fun h0 => ?_)
  · refine lv_goto (tgt := 3148) hx hb dL_law_1663 (by decide) ?_
    exact kk ls H locs f9 (lv_sub hl [2, 3, 4, 5, 6] rfl) hB
  · refine lv_aload_n hx hb dL_law_1651 rfl (lv_at hl 3 rfl) ?_
    refine lv_iconst (v := 0) hx hb dL_law_1652 (by decide) ?_
    refine u_out X hB dL_law_1653 ?_
    refine lv_iload hx hb dL_law_1654 (lv_at hl 0 rfl) ?_
    refine lv_i2l (v := q.toInt64) hx hb dL_law_1656 rfl ?_
    refine W.lcmp hx hb dL_law_1657 ?_
    rw [hy9 _ (hy h0), lg_self]
    refine lv_if_eq (tgt := 1663) hx hb dL_law_1658 (by decide) (fun _ => ?_) (fun h => absurd rfl h)
    refine lv_goto (tgt := 3148) hx hb dL_law_1663 (by decide) ?_
    exact kk ls H locs f9 (lv_sub hl [2, 3, 4, 5, 6] rfl) hB
theorem cL_33 {p : Program} {l : Launch} {e : Env} {s : State} {m : MethodId} {args : Array Value} {below : List Frame} {meth : Method} {c : Code} {H : Heap} {locs : List Loc} {cells slots : Nat} {Q : State → Prop} {ls : Array Slot} {D : va_G} {E : bE} {a : Nat} {v u : bM} {f : Nat → Int64} {b L : Nat} {xs : Nat → Int32} {i : Nat} {w u' : bM} {r q : Int32} {y9 : Option Int64} (X : bCx p s m args meth c RL cL_law 9 D E) (hB : uB D E a v u f b L xs s H locs) (hl : lv_has ls 9 [(4, .int (nI i)), (3, .ref (a + 876)), (2, .ref (a + 866)), (1, .ref a), (0, .ref b)]) (hL : L ≤ 3072) (hi : i + 5 < L) (hM : hMet l yL_kindAt cL_kindAt 5 [(0, 10, 13, 13)] 9 1 6 [.int (xs (i + 1)), .int (xs (i + 2))] v r w y9) (hf9 : fX9_kindAt (xs (i + 1)) (xs (i + 2)) u = some (q, u')) (ht : u' 3 = r) (hy : r = 0 → y9 = some q.toInt64) (hc : cells + 20 ≤ 601024 ∧ slots + 3830 ≤ 7293034) (kk : ∀ (ls : Array Slot) (H : Heap) (locs : List Loc) (f9 : Nat → Int64), lv_has ls 9 [(4, .int (nI i)), (3, .ref (a + 876)), (2, .ref (a + 866)), (1, .ref a), (0, .ref b)] → uB D E a w u' f9 b L xs s H locs → W p l e room_1 s m args below meth c H locs (cells + 1) (slots + 6) Q (F0 m 3148 ls [])) : W p l e room_1 s m args below meth c H locs cells slots Q (F0 m 1666 ls []) := by
  have hx := X.1
  have hb := X.2.1
  refine lv_aload_n hx hb dL_law_1666 rfl (lv_at hl 3 rfl) ?_
  refine u_scr X hB (i := i) 1 hL (by omega) (lv_at hl 4 rfl) (lv_at hl 0 rfl) (by decide) dL_law_1667 dL_law_1668 dL_law_1670 dL_law_1671 dL_law_1672 ?_
  refine u_scr X hB (i := i) 2 hL (by omega) (lv_at hl 4 rfl) (lv_at hl 0 rfl) (by decide) dL_law_1673 dL_law_1674 dL_law_1676 dL_law_1677 dL_law_1678 ?_
  refine lv_aload_n hx hb dL_law_1679 rfl (lv_at hl 1 rfl) ?_
  refine u_goH X hB (Av := [.int (xs (i + 1)), .int (xs (i + 2))]) (rest := []) hM ⟨rfl, by decide, by decide, rfl⟩ wm_1156 wm_1157 wm_0 wm_1158 ⟨Nat.le_of_ble_eq_true rfl, Nat.le_of_ble_eq_true rfl⟩ (n := 4) rfl hl.1 (Nat.le_of_ble_eq_true rfl) ⟨by show cells + 1 ≤ 601024; omega, by show slots + 6 ≤ 7293034; omega⟩ dL_law_1680 (fun H locs f9 hy9 hB => ?_)
  refine lv_istore (lv' := [(5, .int r), (4, .int (nI i)), (3, .ref (a + 876)), (2, .ref (a + 866)), (1, .ref a), (0, .ref b)]) hx hb dL_law_1683 hl (by decide) rfl (fun ls hl => ?_)
  refine lv_aload_n hx hb dL_law_1685 rfl (lv_at hl 3 rfl) ?_
  refine u_scr X hB (i := i) 1 hL (by omega) (lv_at hl 5 rfl) (lv_at hl 1 rfl) (by decide) dL_law_1686 dL_law_1687 dL_law_1689 dL_law_1690 dL_law_1691 ?_
  refine u_scr X hB (i := i) 2 hL (by omega) (lv_at hl 5 rfl) (lv_at hl 1 rfl) (by decide) dL_law_1692 dL_law_1693 dL_law_1695 dL_law_1696 dL_law_1697 ?_
  refine u_goM hB (bk_runV X (Av := [.int (xs (i + 1)), .int (xs (i + 2))]) (rest := []) (mX9_kindAt hf9) yv_X9_kindAt wm_2093 ⟨Nat.le_of_ble_eq_true rfl, Nat.le_of_ble_eq_true rfl⟩ rfl rfl hl.1 kl_X9.1 (hB.2.1.obj lc_Mo_0) hB.2.1 hB.lenM hB.hM (Nat.le_of_ble_eq_true rfl) ⟨by show cells + 1 + 0 ≤ 601024; omega, by show slots + 6 + 0 ≤ 7293034; omega⟩ dL_law_1698) (fun H locs hB => ?_)
  refine W.eq (g2 := F0 m 1701 ls [.int q]) rfl ?_
  refine lv_istore (lv' := [(6, .int q), (5, .int r), (4, .int (nI i)), (3, .ref (a + 876)), (2, .ref (a + 866)), (1, .ref a), (0, .ref b)]) hx hb dL_law_1701 hl (by decide) rfl (fun ls hl => ?_)
  refine lv_aload_n hx hb dL_law_1703 rfl (lv_at hl 4 rfl) ?_
  refine u_goM hB (bk_runV X (Av := []) (rest := []) (mX9_thrown (show fX9_thrown u' = some (u' 3) from rfl)) yv_X9_thrown wm_1921 ⟨Nat.le_of_ble_eq_true rfl, Nat.le_of_ble_eq_true rfl⟩ rfl rfl hl.1 kl_X9.1 (hB.2.1.obj lc_Mo_0) hB.2.1 hB.lenM hB.hM (Nat.le_of_ble_eq_true rfl) ⟨by show cells + 1 + 0 + 0 ≤ 601024; omega, by show slots + 6 + 0 + 0 ≤ 7293034; omega⟩ dL_law_1704) (fun H locs hB => ?_)
  refine W.eq (g2 := F0 m 1707 ls [.int (u' 3)]) rfl ?_
  refine lv_iload hx hb dL_law_1707 (lv_at hl 1 rfl) ?_
  refine lv_icmp_eq (tgt := 1714) hx hb dL_law_1709 (by decide) (fun _ => ?_) (fun h => absurd ht h)
  refine lv_iload hx hb dL_law_1714 (lv_at hl 1 rfl) ?_
  refine lv_if_ne (tgt := 1731) hx hb dL_law_1716 (by decide) (fun _ => ?_) (fun h0 => ?_)
  · refine lv_goto (tgt := 3148) hx hb dL_law_1731 (by decide) ?_
    exact kk ls H locs f9 (lv_sub hl [2, 3, 4, 5, 6] rfl) hB
  · refine lv_aload_n hx hb dL_law_1719 rfl (lv_at hl 3 rfl) ?_
    refine lv_iconst (v := 0) hx hb dL_law_1720 (by decide) ?_
    refine u_out X hB dL_law_1721 ?_
    refine lv_iload hx hb dL_law_1722 (lv_at hl 0 rfl) ?_
    refine lv_i2l (v := q.toInt64) hx hb dL_law_1724 rfl ?_
    refine W.lcmp hx hb dL_law_1725 ?_
    rw [hy9 _ (hy h0), lg_self]
    refine lv_if_eq (tgt := 1731) hx hb dL_law_1726 (by decide) (fun _ => ?_) (fun h => absurd rfl h)
    refine lv_goto (tgt := 3148) hx hb dL_law_1731 (by decide) ?_
    exact kk ls H locs f9 (lv_sub hl [2, 3, 4, 5, 6] rfl) hB
theorem cL_34 {p : Program} {l : Launch} {e : Env} {s : State} {m : MethodId} {args : Array Value} {below : List Frame} {meth : Method} {c : Code} {H : Heap} {locs : List Loc} {cells slots : Nat} {Q : State → Prop} {ls : Array Slot} {D : va_G} {E : bE} {a : Nat} {v u : bM} {f : Nat → Int64} {b L : Nat} {xs : Nat → Int32} {i : Nat} {w u' : bM} {r q : Int32} {y9 : Option Int64} (X : bCx p s m args meth c RL cL_law 9 D E) (hB : uB D E a v u f b L xs s H locs) (hl : lv_has ls 9 [(4, .int (nI i)), (3, .ref (a + 876)), (2, .ref (a + 866)), (1, .ref a), (0, .ref b)]) (hL : L ≤ 3072) (hi : i + 5 < L) (hM : hMet l yL_gapSum cL_gapSum 4 [(0, 9, 12, 49)] 8 1 6 [.int (xs (i + 1))] v r w y9) (hf9 : fX9_gapSum (xs (i + 1)) u = some (q, u')) (ht : u' 3 = r) (hy : r = 0 → y9 = some q.toInt64) (hc : cells + 20 ≤ 601024 ∧ slots + 3830 ≤ 7293034) (kk : ∀ (ls : Array Slot) (H : Heap) (locs : List Loc) (f9 : Nat → Int64), lv_has ls 9 [(4, .int (nI i)), (3, .ref (a + 876)), (2, .ref (a + 866)), (1, .ref a), (0, .ref b)] → uB D E a w u' f9 b L xs s H locs → W p l e room_1 s m args below meth c H locs (cells + 1) (slots + 6) Q (F0 m 3148 ls [])) : W p l e room_1 s m args below meth c H locs cells slots Q (F0 m 1734 ls []) := by
  have hx := X.1
  have hb := X.2.1
  refine lv_aload_n hx hb dL_law_1734 rfl (lv_at hl 3 rfl) ?_
  refine u_scr X hB (i := i) 1 hL (by omega) (lv_at hl 4 rfl) (lv_at hl 0 rfl) (by decide) dL_law_1735 dL_law_1736 dL_law_1738 dL_law_1739 dL_law_1740 ?_
  refine lv_aload_n hx hb dL_law_1741 rfl (lv_at hl 1 rfl) ?_
  refine u_goH X hB (Av := [.int (xs (i + 1))]) (rest := []) hM ⟨rfl, by decide, by decide, rfl⟩ wm_1171 wm_1172 wm_0 wm_1173 ⟨Nat.le_of_ble_eq_true rfl, Nat.le_of_ble_eq_true rfl⟩ (n := 3) rfl hl.1 (Nat.le_of_ble_eq_true rfl) ⟨by show cells + 1 ≤ 601024; omega, by show slots + 6 ≤ 7293034; omega⟩ dL_law_1742 (fun H locs f9 hy9 hB => ?_)
  refine lv_istore (lv' := [(5, .int r), (4, .int (nI i)), (3, .ref (a + 876)), (2, .ref (a + 866)), (1, .ref a), (0, .ref b)]) hx hb dL_law_1745 hl (by decide) rfl (fun ls hl => ?_)
  refine lv_aload_n hx hb dL_law_1747 rfl (lv_at hl 3 rfl) ?_
  refine u_scr X hB (i := i) 1 hL (by omega) (lv_at hl 5 rfl) (lv_at hl 1 rfl) (by decide) dL_law_1748 dL_law_1749 dL_law_1751 dL_law_1752 dL_law_1753 ?_
  refine u_goM hB (bk_runV X (Av := [.int (xs (i + 1))]) (rest := []) (mX9_gapSum hf9) yv_X9_gapSum wm_2101 ⟨Nat.le_of_ble_eq_true rfl, Nat.le_of_ble_eq_true rfl⟩ rfl rfl hl.1 kl_X9.1 (hB.2.1.obj lc_Mo_0) hB.2.1 hB.lenM hB.hM (Nat.le_of_ble_eq_true rfl) ⟨by show cells + 1 + 0 ≤ 601024; omega, by show slots + 6 + 0 ≤ 7293034; omega⟩ dL_law_1754) (fun H locs hB => ?_)
  refine W.eq (g2 := F0 m 1757 ls [.int q]) rfl ?_
  refine lv_istore (lv' := [(6, .int q), (5, .int r), (4, .int (nI i)), (3, .ref (a + 876)), (2, .ref (a + 866)), (1, .ref a), (0, .ref b)]) hx hb dL_law_1757 hl (by decide) rfl (fun ls hl => ?_)
  refine lv_aload_n hx hb dL_law_1759 rfl (lv_at hl 4 rfl) ?_
  refine u_goM hB (bk_runV X (Av := []) (rest := []) (mX9_thrown (show fX9_thrown u' = some (u' 3) from rfl)) yv_X9_thrown wm_1921 ⟨Nat.le_of_ble_eq_true rfl, Nat.le_of_ble_eq_true rfl⟩ rfl rfl hl.1 kl_X9.1 (hB.2.1.obj lc_Mo_0) hB.2.1 hB.lenM hB.hM (Nat.le_of_ble_eq_true rfl) ⟨by show cells + 1 + 0 + 0 ≤ 601024; omega, by show slots + 6 + 0 + 0 ≤ 7293034; omega⟩ dL_law_1760) (fun H locs hB => ?_)
  refine W.eq (g2 := F0 m 1763 ls [.int (u' 3)]) rfl ?_
  refine lv_iload hx hb dL_law_1763 (lv_at hl 1 rfl) ?_
  refine lv_icmp_eq (tgt := 1770) hx hb dL_law_1765 (by decide) (fun _ => ?_) (fun h => absurd ht h)
  refine lv_iload hx hb dL_law_1770 (lv_at hl 1 rfl) ?_
  refine lv_if_ne (tgt := 1787) hx hb dL_law_1772 (by decide) (fun _ => ?_) (fun h0 => ?_)
  · refine lv_goto (tgt := 3148) hx hb dL_law_1787 (by decide) ?_
    exact kk ls H locs f9 (lv_sub hl [2, 3, 4, 5, 6] rfl) hB
  · refine lv_aload_n hx hb dL_law_1775 rfl (lv_at hl 3 rfl) ?_
    refine lv_iconst (v := 0) hx hb dL_law_1776 (by decide) ?_
    refine u_out X hB dL_law_1777 ?_
    refine lv_iload hx hb dL_law_1778 (lv_at hl 0 rfl) ?_
    refine lv_i2l (v := q.toInt64) hx hb dL_law_1780 rfl ?_
    refine W.lcmp hx hb dL_law_1781 ?_
    rw [hy9 _ (hy h0), lg_self]
    refine lv_if_eq (tgt := 1787) hx hb dL_law_1782 (by decide) (fun _ => ?_) (fun h => absurd rfl h)
    refine lv_goto (tgt := 3148) hx hb dL_law_1787 (by decide) ?_
    exact kk ls H locs f9 (lv_sub hl [2, 3, 4, 5, 6] rfl) hB
theorem cL_35 {p : Program} {l : Launch} {e : Env} {s : State} {m : MethodId} {args : Array Value} {below : List Frame} {meth : Method} {c : Code} {H : Heap} {locs : List Loc} {cells slots : Nat} {Q : State → Prop} {ls : Array Slot} {D : va_G} {E : bE} {a : Nat} {v u : bM} {f : Nat → Int64} {b L : Nat} {xs : Nat → Int32} {i : Nat} {w u' : bM} {r q : Int32} {y9 : Option Int64} (X : bCx p s m args meth c RL cL_law 9 D E) (hB : uB D E a v u f b L xs s H locs) (hl : lv_has ls 9 [(4, .int (nI i)), (3, .ref (a + 876)), (2, .ref (a + 866)), (1, .ref a), (0, .ref b)]) (hL : L ≤ 3072) (hi : i + 5 < L) (hM : hMet l yL_priceGap cL_priceGap 4 [(0, 9, 12, 13)] 9 1 6 [.int (xs (i + 1))] v r w y9) (hf9 : fX9_priceGap (xs (i + 1)) u = some (q, u')) (ht : u' 3 = r) (hy : r = 0 → y9 = some q.toInt64) (hc : cells + 20 ≤ 601024 ∧ slots + 3830 ≤ 7293034) (kk : ∀ (ls : Array Slot) (H : Heap) (locs : List Loc) (f9 : Nat → Int64), lv_has ls 9 [(4, .int (nI i)), (3, .ref (a + 876)), (2, .ref (a + 866)), (1, .ref a), (0, .ref b)] → uB D E a w u' f9 b L xs s H locs → W p l e room_1 s m args below meth c H locs (cells + 1) (slots + 6) Q (F0 m 3148 ls [])) : W p l e room_1 s m args below meth c H locs cells slots Q (F0 m 1790 ls []) := by
  have hx := X.1
  have hb := X.2.1
  refine lv_aload_n hx hb dL_law_1790 rfl (lv_at hl 3 rfl) ?_
  refine u_scr X hB (i := i) 1 hL (by omega) (lv_at hl 4 rfl) (lv_at hl 0 rfl) (by decide) dL_law_1791 dL_law_1792 dL_law_1794 dL_law_1795 dL_law_1796 ?_
  refine lv_aload_n hx hb dL_law_1797 rfl (lv_at hl 1 rfl) ?_
  refine u_goH X hB (Av := [.int (xs (i + 1))]) (rest := []) hM ⟨rfl, by decide, by decide, rfl⟩ wm_1179 wm_1180 wm_0 wm_1181 ⟨Nat.le_of_ble_eq_true rfl, Nat.le_of_ble_eq_true rfl⟩ (n := 3) rfl hl.1 (Nat.le_of_ble_eq_true rfl) ⟨by show cells + 1 ≤ 601024; omega, by show slots + 6 ≤ 7293034; omega⟩ dL_law_1798 (fun H locs f9 hy9 hB => ?_)
  refine lv_istore (lv' := [(5, .int r), (4, .int (nI i)), (3, .ref (a + 876)), (2, .ref (a + 866)), (1, .ref a), (0, .ref b)]) hx hb dL_law_1801 hl (by decide) rfl (fun ls hl => ?_)
  refine lv_aload_n hx hb dL_law_1803 rfl (lv_at hl 3 rfl) ?_
  refine u_scr X hB (i := i) 1 hL (by omega) (lv_at hl 5 rfl) (lv_at hl 1 rfl) (by decide) dL_law_1804 dL_law_1805 dL_law_1807 dL_law_1808 dL_law_1809 ?_
  refine u_goM hB (bk_runV X (Av := [.int (xs (i + 1))]) (rest := []) (mX9_priceGap hf9) yv_X9_priceGap wm_2109 ⟨Nat.le_of_ble_eq_true rfl, Nat.le_of_ble_eq_true rfl⟩ rfl rfl hl.1 kl_X9.1 (hB.2.1.obj lc_Mo_0) hB.2.1 hB.lenM hB.hM (Nat.le_of_ble_eq_true rfl) ⟨by show cells + 1 + 0 ≤ 601024; omega, by show slots + 6 + 0 ≤ 7293034; omega⟩ dL_law_1810) (fun H locs hB => ?_)
  refine W.eq (g2 := F0 m 1813 ls [.int q]) rfl ?_
  refine lv_istore (lv' := [(6, .int q), (5, .int r), (4, .int (nI i)), (3, .ref (a + 876)), (2, .ref (a + 866)), (1, .ref a), (0, .ref b)]) hx hb dL_law_1813 hl (by decide) rfl (fun ls hl => ?_)
  refine lv_aload_n hx hb dL_law_1815 rfl (lv_at hl 4 rfl) ?_
  refine u_goM hB (bk_runV X (Av := []) (rest := []) (mX9_thrown (show fX9_thrown u' = some (u' 3) from rfl)) yv_X9_thrown wm_1921 ⟨Nat.le_of_ble_eq_true rfl, Nat.le_of_ble_eq_true rfl⟩ rfl rfl hl.1 kl_X9.1 (hB.2.1.obj lc_Mo_0) hB.2.1 hB.lenM hB.hM (Nat.le_of_ble_eq_true rfl) ⟨by show cells + 1 + 0 + 0 ≤ 601024; omega, by show slots + 6 + 0 + 0 ≤ 7293034; omega⟩ dL_law_1816) (fun H locs hB => ?_)
  refine W.eq (g2 := F0 m 1819 ls [.int (u' 3)]) rfl ?_
  refine lv_iload hx hb dL_law_1819 (lv_at hl 1 rfl) ?_
  refine lv_icmp_eq (tgt := 1826) hx hb dL_law_1821 (by decide) (fun _ => ?_) (fun h => absurd ht h)
  refine lv_iload hx hb dL_law_1826 (lv_at hl 1 rfl) ?_
  refine lv_if_ne (tgt := 1843) hx hb dL_law_1828 (by decide) (fun _ => ?_) (fun h0 => ?_)
  · refine lv_goto (tgt := 3148) hx hb dL_law_1843 (by decide) ?_
    exact kk ls H locs f9 (lv_sub hl [2, 3, 4, 5, 6] rfl) hB
  · refine lv_aload_n hx hb dL_law_1831 rfl (lv_at hl 3 rfl) ?_
    refine lv_iconst (v := 0) hx hb dL_law_1832 (by decide) ?_
    refine u_out X hB dL_law_1833 ?_
    refine lv_iload hx hb dL_law_1834 (lv_at hl 0 rfl) ?_
    refine lv_i2l (v := q.toInt64) hx hb dL_law_1836 rfl ?_
    refine W.lcmp hx hb dL_law_1837 ?_
    rw [hy9 _ (hy h0), lg_self]
    refine lv_if_eq (tgt := 1843) hx hb dL_law_1838 (by decide) (fun _ => ?_) (fun h => absurd rfl h)
    refine lv_goto (tgt := 3148) hx hb dL_law_1843 (by decide) ?_
    exact kk ls H locs f9 (lv_sub hl [2, 3, 4, 5, 6] rfl) hB
theorem cL_36 {p : Program} {l : Launch} {e : Env} {s : State} {m : MethodId} {args : Array Value} {below : List Frame} {meth : Method} {c : Code} {H : Heap} {locs : List Loc} {cells slots : Nat} {Q : State → Prop} {ls : Array Slot} {D : va_G} {E : bE} {a : Nat} {v u : bM} {f : Nat → Int64} {b L : Nat} {xs : Nat → Int32} {i : Nat} {w u' : bM} {r q : Int32} {y9 : Option Int64} (X : bCx p s m args meth c RL cL_law 9 D E) (hB : uB D E a v u f b L xs s H locs) (hl : lv_has ls 9 [(4, .int (nI i)), (3, .ref (a + 876)), (2, .ref (a + 866)), (1, .ref a), (0, .ref b)]) (hL : L ≤ 3072) (hi : i + 5 < L) (hM : hMet l yL_useGap cL_useGap 4 [(0, 9, 12, 13)] 9 1 6 [.int (xs (i + 1))] v r w y9) (hf9 : fX9_useGap (xs (i + 1)) u = some (q, u')) (ht : u' 3 = r) (hy : r = 0 → y9 = some q.toInt64) (hc : cells + 20 ≤ 601024 ∧ slots + 3830 ≤ 7293034) (kk : ∀ (ls : Array Slot) (H : Heap) (locs : List Loc) (f9 : Nat → Int64), lv_has ls 9 [(4, .int (nI i)), (3, .ref (a + 876)), (2, .ref (a + 866)), (1, .ref a), (0, .ref b)] → uB D E a w u' f9 b L xs s H locs → W p l e room_1 s m args below meth c H locs (cells + 1) (slots + 6) Q (F0 m 3148 ls [])) : W p l e room_1 s m args below meth c H locs cells slots Q (F0 m 1846 ls []) := by
  have hx := X.1
  have hb := X.2.1
  refine lv_aload_n hx hb dL_law_1846 rfl (lv_at hl 3 rfl) ?_
  refine u_scr X hB (i := i) 1 hL (by omega) (lv_at hl 4 rfl) (lv_at hl 0 rfl) (by decide) dL_law_1847 dL_law_1848 dL_law_1850 dL_law_1851 dL_law_1852 ?_
  refine lv_aload_n hx hb dL_law_1853 rfl (lv_at hl 1 rfl) ?_
  refine u_goH X hB (Av := [.int (xs (i + 1))]) (rest := []) hM ⟨rfl, by decide, by decide, rfl⟩ wm_1186 wm_1187 wm_0 wm_1188 ⟨Nat.le_of_ble_eq_true rfl, Nat.le_of_ble_eq_true rfl⟩ (n := 3) rfl hl.1 (Nat.le_of_ble_eq_true rfl) ⟨by show cells + 1 ≤ 601024; omega, by show slots + 6 ≤ 7293034; omega⟩ dL_law_1854 (fun H locs f9 hy9 hB => ?_)
  refine lv_istore (lv' := [(5, .int r), (4, .int (nI i)), (3, .ref (a + 876)), (2, .ref (a + 866)), (1, .ref a), (0, .ref b)]) hx hb dL_law_1857 hl (by decide) rfl (fun ls hl => ?_)
  refine lv_aload_n hx hb dL_law_1859 rfl (lv_at hl 3 rfl) ?_
  refine u_scr X hB (i := i) 1 hL (by omega) (lv_at hl 5 rfl) (lv_at hl 1 rfl) (by decide) dL_law_1860 dL_law_1861 dL_law_1863 dL_law_1864 dL_law_1865 ?_
  refine u_goM hB (bk_runV X (Av := [.int (xs (i + 1))]) (rest := []) (mX9_useGap hf9) yv_X9_useGap wm_2113 ⟨Nat.le_of_ble_eq_true rfl, Nat.le_of_ble_eq_true rfl⟩ rfl rfl hl.1 kl_X9.1 (hB.2.1.obj lc_Mo_0) hB.2.1 hB.lenM hB.hM (Nat.le_of_ble_eq_true rfl) ⟨by show cells + 1 + 0 ≤ 601024; omega, by show slots + 6 + 0 ≤ 7293034; omega⟩ dL_law_1866) (fun H locs hB => ?_)
  refine W.eq (g2 := F0 m 1869 ls [.int q]) rfl ?_
  refine lv_istore (lv' := [(6, .int q), (5, .int r), (4, .int (nI i)), (3, .ref (a + 876)), (2, .ref (a + 866)), (1, .ref a), (0, .ref b)]) hx hb dL_law_1869 hl (by decide) rfl (fun ls hl => ?_)
  refine lv_aload_n hx hb dL_law_1871 rfl (lv_at hl 4 rfl) ?_
  refine u_goM hB (bk_runV X (Av := []) (rest := []) (mX9_thrown (show fX9_thrown u' = some (u' 3) from rfl)) yv_X9_thrown wm_1921 ⟨Nat.le_of_ble_eq_true rfl, Nat.le_of_ble_eq_true rfl⟩ rfl rfl hl.1 kl_X9.1 (hB.2.1.obj lc_Mo_0) hB.2.1 hB.lenM hB.hM (Nat.le_of_ble_eq_true rfl) ⟨by show cells + 1 + 0 + 0 ≤ 601024; omega, by show slots + 6 + 0 + 0 ≤ 7293034; omega⟩ dL_law_1872) (fun H locs hB => ?_)
  refine W.eq (g2 := F0 m 1875 ls [.int (u' 3)]) rfl ?_
  refine lv_iload hx hb dL_law_1875 (lv_at hl 1 rfl) ?_
  refine lv_icmp_eq (tgt := 1882) hx hb dL_law_1877 (by decide) (fun _ => ?_) (fun h => absurd ht h)
  refine lv_iload hx hb dL_law_1882 (lv_at hl 1 rfl) ?_
  refine lv_if_ne (tgt := 1899) hx hb dL_law_1884 (by decide) (fun _ => ?_) (fun h0 => ?_)
  · refine lv_goto (tgt := 3148) hx hb dL_law_1899 (by decide) ?_
    exact kk ls H locs f9 (lv_sub hl [2, 3, 4, 5, 6] rfl) hB
  · refine lv_aload_n hx hb dL_law_1887 rfl (lv_at hl 3 rfl) ?_
    refine lv_iconst (v := 0) hx hb dL_law_1888 (by decide) ?_
    refine u_out X hB dL_law_1889 ?_
    refine lv_iload hx hb dL_law_1890 (lv_at hl 0 rfl) ?_
    refine lv_i2l (v := q.toInt64) hx hb dL_law_1892 rfl ?_
    refine W.lcmp hx hb dL_law_1893 ?_
    rw [hy9 _ (hy h0), lg_self]
    refine lv_if_eq (tgt := 1899) hx hb dL_law_1894 (by decide) (fun _ => ?_) (fun h => absurd rfl h)
    refine lv_goto (tgt := 3148) hx hb dL_law_1899 (by decide) ?_
    exact kk ls H locs f9 (lv_sub hl [2, 3, 4, 5, 6] rfl) hB
theorem cL_37 {p : Program} {l : Launch} {e : Env} {s : State} {m : MethodId} {args : Array Value} {below : List Frame} {meth : Method} {c : Code} {H : Heap} {locs : List Loc} {cells slots : Nat} {Q : State → Prop} {ls : Array Slot} {D : va_G} {E : bE} {a : Nat} {v u : bM} {f : Nat → Int64} {b L : Nat} {xs : Nat → Int32} {i : Nat} {v' u' : bM} {r : Int32} (X : bCx p s m args meth c RL cL_law 9 D E) (hB : uB D E a v u f b L xs s H locs) (hl : lv_has ls 9 [(4, .int (nI i)), (3, .ref (a + 876)), (2, .ref (a + 866)), (1, .ref a), (0, .ref b)]) (hL : L ≤ 3072) (hi : i + 5 < L) (hf8 : fX8_totalLoss  v = some r) (hf9 : fX9_totalLoss  u = some (r, u')) (hc : cells + 20 ≤ 601024 ∧ slots + 3830 ≤ 7293034) (kk : ∀ (ls : Array Slot) (H : Heap) (locs : List Loc), lv_has ls 9 [(4, .int (nI i)), (3, .ref (a + 876)), (2, .ref (a + 866)), (1, .ref a), (0, .ref b)] → uB D E a v u' f b L xs s H locs → W p l e room_1 s m args below meth c H locs cells slots Q (F0 m 3148 ls [])) : W p l e room_1 s m args below meth c H locs cells slots Q (F0 m 1902 ls []) := by
  have hx := X.1
  have hb := X.2.1
  refine lv_aload_n hx hb dL_law_1902 rfl (lv_at hl 3 rfl) ?_
  refine u_goX hB (bk_runV X (Av := []) (rest := []) (mX8_totalLoss hf8) yv_X8_totalLoss wm_784 ⟨Nat.le_of_ble_eq_true rfl, Nat.le_of_ble_eq_true rfl⟩ rfl rfl hl.1 kl_X8.1 (hB.1.obj lcq_X_0) hB.1 hB.lenX hB.hX (Nat.le_of_ble_eq_true rfl) ⟨by show cells + 0 ≤ 601024; omega, by show slots + 0 ≤ 7293034; omega⟩ dL_law_1903) (fun H locs hB => ?_)
  refine W.eq (g2 := F0 m 1906 ls [.int r]) rfl ?_
  refine lv_aload_n hx hb dL_law_1906 rfl (lv_at hl 2 rfl) ?_
  refine u_goM hB (bk_runV X (Av := []) (rest := [.int r]) (mX9_totalLoss hf9) yv_X9_totalLoss wm_2117 ⟨Nat.le_of_ble_eq_true rfl, Nat.le_of_ble_eq_true rfl⟩ rfl rfl hl.1 kl_X9.1 (hB.2.1.obj lc_Mo_0) hB.2.1 hB.lenM hB.hM (Nat.le_of_ble_eq_true rfl) ⟨by show cells + 0 + 0 ≤ 601024; omega, by show slots + 0 + 0 ≤ 7293034; omega⟩ dL_law_1907) (fun H locs hB => ?_)
  refine W.eq (g2 := F0 m 1910 ls [.int r, .int r]) rfl ?_
  exact lv_icmp_eq (tgt := 3148) hx hb dL_law_1910 (by decide) (fun _ => kk ls H locs hl hB) (fun h => absurd rfl h)
theorem cL_38 {p : Program} {l : Launch} {e : Env} {s : State} {m : MethodId} {args : Array Value} {below : List Frame} {meth : Method} {c : Code} {H : Heap} {locs : List Loc} {cells slots : Nat} {Q : State → Prop} {ls : Array Slot} {D : va_G} {E : bE} {a : Nat} {v u : bM} {f : Nat → Int64} {b L : Nat} {xs : Nat → Int32} {i : Nat} {v' u' : bM} {r : Int32} (X : bCx p s m args meth c RL cL_law 9 D E) (hB : uB D E a v u f b L xs s H locs) (hl : lv_has ls 9 [(4, .int (nI i)), (3, .ref (a + 876)), (2, .ref (a + 866)), (1, .ref a), (0, .ref b)]) (hL : L ≤ 3072) (hi : i + 5 < L) (hf8 : fX8_worstBatch  v = some r) (hf9 : fX9_worstBatch  u = some (r, u')) (hc : cells + 20 ≤ 601024 ∧ slots + 3830 ≤ 7293034) (kk : ∀ (ls : Array Slot) (H : Heap) (locs : List Loc), lv_has ls 9 [(4, .int (nI i)), (3, .ref (a + 876)), (2, .ref (a + 866)), (1, .ref a), (0, .ref b)] → uB D E a v u' f b L xs s H locs → W p l e room_1 s m args below meth c H locs cells slots Q (F0 m 3148 ls [])) : W p l e room_1 s m args below meth c H locs cells slots Q (F0 m 1915 ls []) := by
  have hx := X.1
  have hb := X.2.1
  refine lv_aload_n hx hb dL_law_1915 rfl (lv_at hl 3 rfl) ?_
  refine u_goX hB (bk_runV X (Av := []) (rest := []) (mX8_worstBatch hf8) yv_X8_worstBatch wm_800 ⟨Nat.le_of_ble_eq_true rfl, Nat.le_of_ble_eq_true rfl⟩ rfl rfl hl.1 kl_X8.1 (hB.1.obj lcq_X_0) hB.1 hB.lenX hB.hX (Nat.le_of_ble_eq_true rfl) ⟨by show cells + 0 ≤ 601024; omega, by show slots + 0 ≤ 7293034; omega⟩ dL_law_1916) (fun H locs hB => ?_)
  refine W.eq (g2 := F0 m 1919 ls [.int r]) rfl ?_
  refine lv_aload_n hx hb dL_law_1919 rfl (lv_at hl 2 rfl) ?_
  refine u_goM hB (bk_runV X (Av := []) (rest := [.int r]) (mX9_worstBatch hf9) yv_X9_worstBatch wm_2125 ⟨Nat.le_of_ble_eq_true rfl, Nat.le_of_ble_eq_true rfl⟩ rfl rfl hl.1 kl_X9.1 (hB.2.1.obj lc_Mo_0) hB.2.1 hB.lenM hB.hM (Nat.le_of_ble_eq_true rfl) ⟨by show cells + 0 + 0 ≤ 601024; omega, by show slots + 0 + 0 ≤ 7293034; omega⟩ dL_law_1920) (fun H locs hB => ?_)
  refine W.eq (g2 := F0 m 1923 ls [.int r, .int r]) rfl ?_
  exact lv_icmp_eq (tgt := 3148) hx hb dL_law_1923 (by decide) (fun _ => kk ls H locs hl hB) (fun h => absurd rfl h)
theorem cL_39 {p : Program} {l : Launch} {e : Env} {s : State} {m : MethodId} {args : Array Value} {below : List Frame} {meth : Method} {c : Code} {H : Heap} {locs : List Loc} {cells slots : Nat} {Q : State → Prop} {ls : Array Slot} {D : va_G} {E : bE} {a : Nat} {v u : bM} {f : Nat → Int64} {b L : Nat} {xs : Nat → Int32} {i : Nat} {v' u' : bM} {r : Int32} (X : bCx p s m args meth c RL cL_law 9 D E) (hB : uB D E a v u f b L xs s H locs) (hl : lv_has ls 9 [(4, .int (nI i)), (3, .ref (a + 876)), (2, .ref (a + 866)), (1, .ref a), (0, .ref b)]) (hL : L ≤ 3072) (hi : i + 5 < L) (hf8 : fX8_worstKind  v = some r) (hf9 : fX9_worstKind  u = some (r, u')) (hc : cells + 20 ≤ 601024 ∧ slots + 3830 ≤ 7293034) (kk : ∀ (ls : Array Slot) (H : Heap) (locs : List Loc), lv_has ls 9 [(4, .int (nI i)), (3, .ref (a + 876)), (2, .ref (a + 866)), (1, .ref a), (0, .ref b)] → uB D E a v u' f b L xs s H locs → W p l e room_1 s m args below meth c H locs cells slots Q (F0 m 3148 ls [])) : W p l e room_1 s m args below meth c H locs cells slots Q (F0 m 1928 ls []) := by
  have hx := X.1
  have hb := X.2.1
  refine lv_aload_n hx hb dL_law_1928 rfl (lv_at hl 3 rfl) ?_
  refine u_goX hB (bk_runV X (Av := []) (rest := []) (mX8_worstKind hf8) yv_X8_worstKind wm_808 ⟨Nat.le_of_ble_eq_true rfl, Nat.le_of_ble_eq_true rfl⟩ rfl rfl hl.1 kl_X8.1 (hB.1.obj lcq_X_0) hB.1 hB.lenX hB.hX (Nat.le_of_ble_eq_true rfl) ⟨by show cells + 0 ≤ 601024; omega, by show slots + 0 ≤ 7293034; omega⟩ dL_law_1929) (fun H locs hB => ?_)
  refine W.eq (g2 := F0 m 1932 ls [.int r]) rfl ?_
  refine lv_aload_n hx hb dL_law_1932 rfl (lv_at hl 2 rfl) ?_
  refine u_goM hB (bk_runV X (Av := []) (rest := [.int r]) (mX9_worstKind hf9) yv_X9_worstKind wm_2129 ⟨Nat.le_of_ble_eq_true rfl, Nat.le_of_ble_eq_true rfl⟩ rfl rfl hl.1 kl_X9.1 (hB.2.1.obj lc_Mo_0) hB.2.1 hB.lenM hB.hM (Nat.le_of_ble_eq_true rfl) ⟨by show cells + 0 + 0 ≤ 601024; omega, by show slots + 0 + 0 ≤ 7293034; omega⟩ dL_law_1933) (fun H locs hB => ?_)
  refine W.eq (g2 := F0 m 1936 ls [.int r, .int r]) rfl ?_
  exact lv_icmp_eq (tgt := 3148) hx hb dL_law_1936 (by decide) (fun _ => kk ls H locs hl hB) (fun h => absurd rfl h)
theorem cL_40 {p : Program} {l : Launch} {e : Env} {s : State} {m : MethodId} {args : Array Value} {below : List Frame} {meth : Method} {c : Code} {H : Heap} {locs : List Loc} {cells slots : Nat} {Q : State → Prop} {ls : Array Slot} {D : va_G} {E : bE} {a : Nat} {v u : bM} {f : Nat → Int64} {b L : Nat} {xs : Nat → Int32} {i : Nat} {w u' : bM} {r q : Int32} {y9 : Option Int64} (X : bCx p s m args meth c RL cL_law 9 D E) (hB : uB D E a v u f b L xs s H locs) (hl : lv_has ls 9 [(4, .int (nI i)), (3, .ref (a + 876)), (2, .ref (a + 866)), (1, .ref a), (0, .ref b)]) (hL : L ≤ 3072) (hi : i + 5 < L) (hM : hMet l yL_bakeObstacle cL_bakeObstacle 7 [(0, 14, 17, 13), (0, 14, 21, 49)] 9 1 6 [.int (xs (i + 1)), .int (xs (i + 2)), .int (xs (i + 3)), .int (xs (i + 4))] v r w y9) (hf9 : fX9_bakeObstacle (xs (i + 1)) (xs (i + 2)) (xs (i + 3)) (xs (i + 4)) u = some (q, u')) (ht : u' 3 = r) (hy : r = 0 → y9 = some q.toInt64) (hc : cells + 20 ≤ 601024 ∧ slots + 3830 ≤ 7293034) (kk : ∀ (ls : Array Slot) (H : Heap) (locs : List Loc) (f9 : Nat → Int64), lv_has ls 9 [(4, .int (nI i)), (3, .ref (a + 876)), (2, .ref (a + 866)), (1, .ref a), (0, .ref b)] → uB D E a w u' f9 b L xs s H locs → W p l e room_1 s m args below meth c H locs (cells + 1) (slots + 6) Q (F0 m 3148 ls [])) : W p l e room_1 s m args below meth c H locs cells slots Q (F0 m 1941 ls []) := by
  have hx := X.1
  have hb := X.2.1
  refine lv_aload_n hx hb dL_law_1941 rfl (lv_at hl 3 rfl) ?_
  refine u_scr X hB (i := i) 1 hL (by omega) (lv_at hl 4 rfl) (lv_at hl 0 rfl) (by decide) dL_law_1942 dL_law_1943 dL_law_1945 dL_law_1946 dL_law_1947 ?_
  refine u_scr X hB (i := i) 2 hL (by omega) (lv_at hl 4 rfl) (lv_at hl 0 rfl) (by decide) dL_law_1948 dL_law_1949 dL_law_1951 dL_law_1952 dL_law_1953 ?_
  refine u_scr X hB (i := i) 3 hL (by omega) (lv_at hl 4 rfl) (lv_at hl 0 rfl) (by decide) dL_law_1954 dL_law_1955 dL_law_1957 dL_law_1958 dL_law_1959 ?_
  refine u_scr X hB (i := i) 4 hL (by omega) (lv_at hl 4 rfl) (lv_at hl 0 rfl) (by decide) dL_law_1960 dL_law_1961 dL_law_1963 dL_law_1964 dL_law_1965 ?_
  refine lv_aload_n hx hb dL_law_1966 rfl (lv_at hl 1 rfl) ?_
  refine u_goH X hB (Av := [.int (xs (i + 1)), .int (xs (i + 2)), .int (xs (i + 3)), .int (xs (i + 4))]) (rest := []) hM ⟨rfl, by decide, by decide, rfl⟩ wm_1193 wm_1194 wm_0 wm_1195 ⟨Nat.le_of_ble_eq_true rfl, Nat.le_of_ble_eq_true rfl⟩ (n := 6) rfl hl.1 (Nat.le_of_ble_eq_true rfl) ⟨by show cells + 1 ≤ 601024; omega, by show slots + 6 ≤ 7293034; omega⟩ dL_law_1967 (fun H locs f9 hy9 hB => ?_)
  refine lv_istore (lv' := [(5, .int r), (4, .int (nI i)), (3, .ref (a + 876)), (2, .ref (a + 866)), (1, .ref a), (0, .ref b)]) hx hb dL_law_1970 hl (by decide) rfl (fun ls hl => ?_)
  refine lv_aload_n hx hb dL_law_1972 rfl (lv_at hl 3 rfl) ?_
  refine u_scr X hB (i := i) 1 hL (by omega) (lv_at hl 5 rfl) (lv_at hl 1 rfl) (by decide) dL_law_1973 dL_law_1974 dL_law_1976 dL_law_1977 dL_law_1978 ?_
  refine u_scr X hB (i := i) 2 hL (by omega) (lv_at hl 5 rfl) (lv_at hl 1 rfl) (by decide) dL_law_1979 dL_law_1980 dL_law_1982 dL_law_1983 dL_law_1984 ?_
  refine u_scr X hB (i := i) 3 hL (by omega) (lv_at hl 5 rfl) (lv_at hl 1 rfl) (by decide) dL_law_1985 dL_law_1986 dL_law_1988 dL_law_1989 dL_law_1990 ?_
  refine u_scr X hB (i := i) 4 hL (by omega) (lv_at hl 5 rfl) (lv_at hl 1 rfl) (by decide) dL_law_1991 dL_law_1992 dL_law_1994 dL_law_1995 dL_law_1996 ?_
  refine u_goM hB (bk_runV X (Av := [.int (xs (i + 1)), .int (xs (i + 2)), .int (xs (i + 3)), .int (xs (i + 4))]) (rest := []) (mX9_bakeObstacle hf9) yv_X9_bakeObstacle wm_2133 ⟨Nat.le_of_ble_eq_true rfl, Nat.le_of_ble_eq_true rfl⟩ rfl rfl hl.1 kl_X9.1 (hB.2.1.obj lc_Mo_0) hB.2.1 hB.lenM hB.hM (Nat.le_of_ble_eq_true rfl) ⟨by show cells + 1 + 0 ≤ 601024; omega, by show slots + 6 + 0 ≤ 7293034; omega⟩ dL_law_1997) (fun H locs hB => ?_)
  refine W.eq (g2 := F0 m 2000 ls [.int q]) rfl ?_
  refine lv_istore (lv' := [(6, .int q), (5, .int r), (4, .int (nI i)), (3, .ref (a + 876)), (2, .ref (a + 866)), (1, .ref a), (0, .ref b)]) hx hb dL_law_2000 hl (by decide) rfl (fun ls hl => ?_)
  refine lv_aload_n hx hb dL_law_2002 rfl (lv_at hl 4 rfl) ?_
  refine u_goM hB (bk_runV X (Av := []) (rest := []) (mX9_thrown (show fX9_thrown u' = some (u' 3) from rfl)) yv_X9_thrown wm_1921 ⟨Nat.le_of_ble_eq_true rfl, Nat.le_of_ble_eq_true rfl⟩ rfl rfl hl.1 kl_X9.1 (hB.2.1.obj lc_Mo_0) hB.2.1 hB.lenM hB.hM (Nat.le_of_ble_eq_true rfl) ⟨by show cells + 1 + 0 + 0 ≤ 601024; omega, by show slots + 6 + 0 + 0 ≤ 7293034; omega⟩ dL_law_2003) (fun H locs hB => ?_)
  refine W.eq (g2 := F0 m 2006 ls [.int (u' 3)]) rfl ?_
  refine lv_iload hx hb dL_law_2006 (lv_at hl 1 rfl) ?_
  refine lv_icmp_eq (tgt := 2013) hx hb dL_law_2008 (by decide) (fun _ => ?_) (fun h => absurd ht h)
  refine lv_iload hx hb dL_law_2013 (lv_at hl 1 rfl) ?_
  refine lv_if_ne (tgt := 2030) hx hb dL_law_2015 (by decide) (fun _ => ?_) (fun h0 => ?_)
  · refine lv_goto (tgt := 3148) hx hb dL_law_2030 (by decide) ?_
    exact kk ls H locs f9 (lv_sub hl [2, 3, 4, 5, 6] rfl) hB
  · refine lv_aload_n hx hb dL_law_2018 rfl (lv_at hl 3 rfl) ?_
    refine lv_iconst (v := 0) hx hb dL_law_2019 (by decide) ?_
    refine u_out X hB dL_law_2020 ?_
    refine lv_iload hx hb dL_law_2021 (lv_at hl 0 rfl) ?_
    refine lv_i2l (v := q.toInt64) hx hb dL_law_2023 rfl ?_
    refine W.lcmp hx hb dL_law_2024 ?_
    rw [hy9 _ (hy h0), lg_self]
    refine lv_if_eq (tgt := 2030) hx hb dL_law_2025 (by decide) (fun _ => ?_) (fun h => absurd rfl h)
    refine lv_goto (tgt := 3148) hx hb dL_law_2030 (by decide) ?_
    exact kk ls H locs f9 (lv_sub hl [2, 3, 4, 5, 6] rfl) hB
theorem cL_41 {p : Program} {l : Launch} {e : Env} {s : State} {m : MethodId} {args : Array Value} {below : List Frame} {meth : Method} {c : Code} {H : Heap} {locs : List Loc} {cells slots : Nat} {Q : State → Prop} {ls : Array Slot} {D : va_G} {E : bE} {a : Nat} {v u : bM} {f : Nat → Int64} {b L : Nat} {xs : Nat → Int32} {i : Nat} {w u' : bM} {r q : Int32} {y9 : Option Int64} (X : bCx p s m args meth c RL cL_law 9 D E) (hB : uB D E a v u f b L xs s H locs) (hl : lv_has ls 9 [(4, .int (nI i)), (3, .ref (a + 876)), (2, .ref (a + 866)), (1, .ref a), (0, .ref b)]) (hL : L ≤ 3072) (hi : i + 5 < L) (hM : hMet l yL_lossIfBaked cL_lossIfBaked 5 [(0, 10, 13, 13), (0, 10, 17, 49), (0, 10, 21, 91)] 9 1 6 [.int (xs (i + 1)), .int (xs (i + 2))] v r w y9) (hf9 : fX9_lossIfBaked (xs (i + 1)) (xs (i + 2)) u = some (q, u')) (ht : u' 3 = r) (hy : r = 0 → y9 = some q.toInt64) (hc : cells + 20 ≤ 601024 ∧ slots + 3830 ≤ 7293034) (kk : ∀ (ls : Array Slot) (H : Heap) (locs : List Loc) (f9 : Nat → Int64), lv_has ls 9 [(4, .int (nI i)), (3, .ref (a + 876)), (2, .ref (a + 866)), (1, .ref a), (0, .ref b)] → uB D E a w u' f9 b L xs s H locs → W p l e room_1 s m args below meth c H locs (cells + 1) (slots + 6) Q (F0 m 3148 ls [])) : W p l e room_1 s m args below meth c H locs cells slots Q (F0 m 2033 ls []) := by
  have hx := X.1
  have hb := X.2.1
  refine lv_aload_n hx hb dL_law_2033 rfl (lv_at hl 3 rfl) ?_
  refine u_scr X hB (i := i) 1 hL (by omega) (lv_at hl 4 rfl) (lv_at hl 0 rfl) (by decide) dL_law_2034 dL_law_2035 dL_law_2037 dL_law_2038 dL_law_2039 ?_
  refine u_scr X hB (i := i) 2 hL (by omega) (lv_at hl 4 rfl) (lv_at hl 0 rfl) (by decide) dL_law_2040 dL_law_2041 dL_law_2043 dL_law_2044 dL_law_2045 ?_
  refine lv_aload_n hx hb dL_law_2046 rfl (lv_at hl 1 rfl) ?_
  refine u_goH X hB (Av := [.int (xs (i + 1)), .int (xs (i + 2))]) (rest := []) hM ⟨rfl, by decide, by decide, rfl⟩ wm_1204 wm_1205 wm_0 wm_1206 ⟨Nat.le_of_ble_eq_true rfl, Nat.le_of_ble_eq_true rfl⟩ (n := 4) rfl hl.1 (Nat.le_of_ble_eq_true rfl) ⟨by show cells + 1 ≤ 601024; omega, by show slots + 6 ≤ 7293034; omega⟩ dL_law_2047 (fun H locs f9 hy9 hB => ?_)
  refine lv_istore (lv' := [(5, .int r), (4, .int (nI i)), (3, .ref (a + 876)), (2, .ref (a + 866)), (1, .ref a), (0, .ref b)]) hx hb dL_law_2050 hl (by decide) rfl (fun ls hl => ?_)
  refine lv_aload_n hx hb dL_law_2052 rfl (lv_at hl 3 rfl) ?_
  refine u_scr X hB (i := i) 1 hL (by omega) (lv_at hl 5 rfl) (lv_at hl 1 rfl) (by decide) dL_law_2053 dL_law_2054 dL_law_2056 dL_law_2057 dL_law_2058 ?_
  refine u_scr X hB (i := i) 2 hL (by omega) (lv_at hl 5 rfl) (lv_at hl 1 rfl) (by decide) dL_law_2059 dL_law_2060 dL_law_2062 dL_law_2063 dL_law_2064 ?_
  refine u_goM hB (bk_runV X (Av := [.int (xs (i + 1)), .int (xs (i + 2))]) (rest := []) (mX9_lossIfBaked hf9) yv_X9_lossIfBaked wm_2140 ⟨Nat.le_of_ble_eq_true rfl, Nat.le_of_ble_eq_true rfl⟩ rfl rfl hl.1 kl_X9.1 (hB.2.1.obj lc_Mo_0) hB.2.1 hB.lenM hB.hM (Nat.le_of_ble_eq_true rfl) ⟨by show cells + 1 + 0 ≤ 601024; omega, by show slots + 6 + 0 ≤ 7293034; omega⟩ dL_law_2065) (fun H locs hB => ?_)
  refine W.eq (g2 := F0 m 2068 ls [.int q]) rfl ?_
  refine lv_istore (lv' := [(6, .int q), (5, .int r), (4, .int (nI i)), (3, .ref (a + 876)), (2, .ref (a + 866)), (1, .ref a), (0, .ref b)]) hx hb dL_law_2068 hl (by decide) rfl (fun ls hl => ?_)
  refine lv_aload_n hx hb dL_law_2070 rfl (lv_at hl 4 rfl) ?_
  refine u_goM hB (bk_runV X (Av := []) (rest := []) (mX9_thrown (show fX9_thrown u' = some (u' 3) from rfl)) yv_X9_thrown wm_1921 ⟨Nat.le_of_ble_eq_true rfl, Nat.le_of_ble_eq_true rfl⟩ rfl rfl hl.1 kl_X9.1 (hB.2.1.obj lc_Mo_0) hB.2.1 hB.lenM hB.hM (Nat.le_of_ble_eq_true rfl) ⟨by show cells + 1 + 0 + 0 ≤ 601024; omega, by show slots + 6 + 0 + 0 ≤ 7293034; omega⟩ dL_law_2071) (fun H locs hB => ?_)
  refine W.eq (g2 := F0 m 2074 ls [.int (u' 3)]) rfl ?_
  refine lv_iload hx hb dL_law_2074 (lv_at hl 1 rfl) ?_
  refine lv_icmp_eq (tgt := 2081) hx hb dL_law_2076 (by decide) (fun _ => ?_) (fun h => absurd ht h)
  refine lv_iload hx hb dL_law_2081 (lv_at hl 1 rfl) ?_
  refine lv_if_ne (tgt := 2098) hx hb dL_law_2083 (by decide) (fun _ => ?_) (fun h0 => ?_)
  · refine lv_goto (tgt := 3148) hx hb dL_law_2098 (by decide) ?_
    exact kk ls H locs f9 (lv_sub hl [2, 3, 4, 5, 6] rfl) hB
  · refine lv_aload_n hx hb dL_law_2086 rfl (lv_at hl 3 rfl) ?_
    refine lv_iconst (v := 0) hx hb dL_law_2087 (by decide) ?_
    refine u_out X hB dL_law_2088 ?_
    refine lv_iload hx hb dL_law_2089 (lv_at hl 0 rfl) ?_
    refine lv_i2l (v := q.toInt64) hx hb dL_law_2091 rfl ?_
    refine W.lcmp hx hb dL_law_2092 ?_
    rw [hy9 _ (hy h0), lg_self]
    refine lv_if_eq (tgt := 2098) hx hb dL_law_2093 (by decide) (fun _ => ?_) (fun h => absurd rfl h)
    refine lv_goto (tgt := 3148) hx hb dL_law_2098 (by decide) ?_
    exact kk ls H locs f9 (lv_sub hl [2, 3, 4, 5, 6] rfl) hB
theorem cL_42 {p : Program} {l : Launch} {e : Env} {s : State} {m : MethodId} {args : Array Value} {below : List Frame} {meth : Method} {c : Code} {H : Heap} {locs : List Loc} {cells slots : Nat} {Q : State → Prop} {ls : Array Slot} {D : va_G} {E : bE} {a : Nat} {v u : bM} {f : Nat → Int64} {b L : Nat} {xs : Nat → Int32} {i : Nat} {w u' : bM} {r q : Int32} {y9 : Option Int64} (X : bCx p s m args meth c RL cL_law 9 D E) (hB : uB D E a v u f b L xs s H locs) (hl : lv_has ls 9 [(4, .int (nI i)), (3, .ref (a + 876)), (2, .ref (a + 866)), (1, .ref a), (0, .ref b)]) (hL : L ≤ 3072) (hi : i + 5 < L) (hM : hMet l yL_possibleLoaves cL_possibleLoaves 4 [(0, 9, 12, 13)] 9 1 6 [.int (xs (i + 1))] v r w y9) (hf9 : fX9_possibleLoaves (xs (i + 1)) u = some (q, u')) (ht : u' 3 = r) (hy : r = 0 → y9 = some q.toInt64) (hc : cells + 20 ≤ 601024 ∧ slots + 3830 ≤ 7293034) (kk : ∀ (ls : Array Slot) (H : Heap) (locs : List Loc) (f9 : Nat → Int64), lv_has ls 9 [(4, .int (nI i)), (3, .ref (a + 876)), (2, .ref (a + 866)), (1, .ref a), (0, .ref b)] → uB D E a w u' f9 b L xs s H locs → W p l e room_1 s m args below meth c H locs (cells + 1) (slots + 6) Q (F0 m 3148 ls [])) : W p l e room_1 s m args below meth c H locs cells slots Q (F0 m 2101 ls []) := by
  have hx := X.1
  have hb := X.2.1
  refine lv_aload_n hx hb dL_law_2101 rfl (lv_at hl 3 rfl) ?_
  refine u_scr X hB (i := i) 1 hL (by omega) (lv_at hl 4 rfl) (lv_at hl 0 rfl) (by decide) dL_law_2102 dL_law_2103 dL_law_2105 dL_law_2106 dL_law_2107 ?_
  refine lv_aload_n hx hb dL_law_2108 rfl (lv_at hl 1 rfl) ?_
  refine u_goH X hB (Av := [.int (xs (i + 1))]) (rest := []) hM ⟨rfl, by decide, by decide, rfl⟩ wm_1239 wm_1240 wm_0 wm_1241 ⟨Nat.le_of_ble_eq_true rfl, Nat.le_of_ble_eq_true rfl⟩ (n := 3) rfl hl.1 (Nat.le_of_ble_eq_true rfl) ⟨by show cells + 1 ≤ 601024; omega, by show slots + 6 ≤ 7293034; omega⟩ dL_law_2109 (fun H locs f9 hy9 hB => ?_)
  refine lv_istore (lv' := [(5, .int r), (4, .int (nI i)), (3, .ref (a + 876)), (2, .ref (a + 866)), (1, .ref a), (0, .ref b)]) hx hb dL_law_2112 hl (by decide) rfl (fun ls hl => ?_)
  refine lv_aload_n hx hb dL_law_2114 rfl (lv_at hl 3 rfl) ?_
  refine u_scr X hB (i := i) 1 hL (by omega) (lv_at hl 5 rfl) (lv_at hl 1 rfl) (by decide) dL_law_2115 dL_law_2116 dL_law_2118 dL_law_2119 dL_law_2120 ?_
  refine u_goM hB (bk_runV X (Av := [.int (xs (i + 1))]) (rest := []) (mX9_possibleLoaves hf9) yv_X9_possibleLoaves wm_2148 ⟨Nat.le_of_ble_eq_true rfl, Nat.le_of_ble_eq_true rfl⟩ rfl rfl hl.1 kl_X9.1 (hB.2.1.obj lc_Mo_0) hB.2.1 hB.lenM hB.hM (Nat.le_of_ble_eq_true rfl) ⟨by show cells + 1 + 0 ≤ 601024; omega, by show slots + 6 + 0 ≤ 7293034; omega⟩ dL_law_2121) (fun H locs hB => ?_)
  refine W.eq (g2 := F0 m 2124 ls [.int q]) rfl ?_
  refine lv_istore (lv' := [(6, .int q), (5, .int r), (4, .int (nI i)), (3, .ref (a + 876)), (2, .ref (a + 866)), (1, .ref a), (0, .ref b)]) hx hb dL_law_2124 hl (by decide) rfl (fun ls hl => ?_)
  refine lv_aload_n hx hb dL_law_2126 rfl (lv_at hl 4 rfl) ?_
  refine u_goM hB (bk_runV X (Av := []) (rest := []) (mX9_thrown (show fX9_thrown u' = some (u' 3) from rfl)) yv_X9_thrown wm_1921 ⟨Nat.le_of_ble_eq_true rfl, Nat.le_of_ble_eq_true rfl⟩ rfl rfl hl.1 kl_X9.1 (hB.2.1.obj lc_Mo_0) hB.2.1 hB.lenM hB.hM (Nat.le_of_ble_eq_true rfl) ⟨by show cells + 1 + 0 + 0 ≤ 601024; omega, by show slots + 6 + 0 + 0 ≤ 7293034; omega⟩ dL_law_2127) (fun H locs hB => ?_)
  refine W.eq (g2 := F0 m 2130 ls [.int (u' 3)]) rfl ?_
  refine lv_iload hx hb dL_law_2130 (lv_at hl 1 rfl) ?_
  refine lv_icmp_eq (tgt := 2137) hx hb dL_law_2132 (by decide) (fun _ => ?_) (fun h => absurd ht h)
  refine lv_iload hx hb dL_law_2137 (lv_at hl 1 rfl) ?_
  refine lv_if_ne (tgt := 2154) hx hb dL_law_2139 (by decide) (fun _ => ?_) (fun h0 => ?_)
  · refine lv_goto (tgt := 3148) hx hb dL_law_2154 (by decide) ?_
    exact kk ls H locs f9 (lv_sub hl [2, 3, 4, 5, 6] rfl) hB
  · refine lv_aload_n hx hb dL_law_2142 rfl (lv_at hl 3 rfl) ?_
    refine lv_iconst (v := 0) hx hb dL_law_2143 (by decide) ?_
    refine u_out X hB dL_law_2144 ?_
    refine lv_iload hx hb dL_law_2145 (lv_at hl 0 rfl) ?_
    refine lv_i2l (v := q.toInt64) hx hb dL_law_2147 rfl ?_
    refine W.lcmp hx hb dL_law_2148 ?_
    rw [hy9 _ (hy h0), lg_self]
    refine lv_if_eq (tgt := 2154) hx hb dL_law_2149 (by decide) (fun _ => ?_) (fun h => absurd rfl h)
    refine lv_goto (tgt := 3148) hx hb dL_law_2154 (by decide) ?_
    exact kk ls H locs f9 (lv_sub hl [2, 3, 4, 5, 6] rfl) hB
theorem cL_43 {p : Program} {l : Launch} {e : Env} {s : State} {m : MethodId} {args : Array Value} {below : List Frame} {meth : Method} {c : Code} {H : Heap} {locs : List Loc} {cells slots : Nat} {Q : State → Prop} {ls : Array Slot} {D : va_G} {E : bE} {a : Nat} {v u : bM} {f : Nat → Int64} {b L : Nat} {xs : Nat → Int32} {i : Nat} {w u' : bM} {r q : Int32} {y9 : Option Int64} (X : bCx p s m args meth c RL cL_law 9 D E) (hB : uB D E a v u f b L xs s H locs) (hl : lv_has ls 9 [(4, .int (nI i)), (3, .ref (a + 876)), (2, .ref (a + 866)), (1, .ref a), (0, .ref b)]) (hL : L ≤ 3072) (hi : i + 5 < L) (hM : hMet l yL_bestWait cL_bestWait 5 [(0, 10, 13, 13), (0, 10, 17, 49)] 9 1 6 [.int (xs (i + 1)), .int (xs (i + 2))] v r w y9) (hf9 : fX9_bestWait (xs (i + 1)) (xs (i + 2)) u = some (q, u')) (ht : u' 3 = r) (hy : r = 0 → y9 = some q.toInt64) (hc : cells + 20 ≤ 601024 ∧ slots + 3830 ≤ 7293034) (kk : ∀ (ls : Array Slot) (H : Heap) (locs : List Loc) (f9 : Nat → Int64), lv_has ls 9 [(4, .int (nI i)), (3, .ref (a + 876)), (2, .ref (a + 866)), (1, .ref a), (0, .ref b)] → uB D E a w u' f9 b L xs s H locs → W p l e room_1 s m args below meth c H locs (cells + 1) (slots + 6) Q (F0 m 3148 ls [])) : W p l e room_1 s m args below meth c H locs cells slots Q (F0 m 2157 ls []) := by
  have hx := X.1
  have hb := X.2.1
  refine lv_aload_n hx hb dL_law_2157 rfl (lv_at hl 3 rfl) ?_
  refine u_scr X hB (i := i) 1 hL (by omega) (lv_at hl 4 rfl) (lv_at hl 0 rfl) (by decide) dL_law_2158 dL_law_2159 dL_law_2161 dL_law_2162 dL_law_2163 ?_
  refine u_scr X hB (i := i) 2 hL (by omega) (lv_at hl 4 rfl) (lv_at hl 0 rfl) (by decide) dL_law_2164 dL_law_2165 dL_law_2167 dL_law_2168 dL_law_2169 ?_
  refine lv_aload_n hx hb dL_law_2170 rfl (lv_at hl 1 rfl) ?_
  refine u_goH X hB (Av := [.int (xs (i + 1)), .int (xs (i + 2))]) (rest := []) hM ⟨rfl, by decide, by decide, rfl⟩ wm_1250 wm_1251 wm_0 wm_1252 ⟨Nat.le_of_ble_eq_true rfl, Nat.le_of_ble_eq_true rfl⟩ (n := 4) rfl hl.1 (Nat.le_of_ble_eq_true rfl) ⟨by show cells + 1 ≤ 601024; omega, by show slots + 6 ≤ 7293034; omega⟩ dL_law_2171 (fun H locs f9 hy9 hB => ?_)
  refine lv_istore (lv' := [(5, .int r), (4, .int (nI i)), (3, .ref (a + 876)), (2, .ref (a + 866)), (1, .ref a), (0, .ref b)]) hx hb dL_law_2174 hl (by decide) rfl (fun ls hl => ?_)
  refine lv_aload_n hx hb dL_law_2176 rfl (lv_at hl 3 rfl) ?_
  refine u_scr X hB (i := i) 1 hL (by omega) (lv_at hl 5 rfl) (lv_at hl 1 rfl) (by decide) dL_law_2177 dL_law_2178 dL_law_2180 dL_law_2181 dL_law_2182 ?_
  refine u_scr X hB (i := i) 2 hL (by omega) (lv_at hl 5 rfl) (lv_at hl 1 rfl) (by decide) dL_law_2183 dL_law_2184 dL_law_2186 dL_law_2187 dL_law_2188 ?_
  refine u_goM hB (bk_runV X (Av := [.int (xs (i + 1)), .int (xs (i + 2))]) (rest := []) (mX9_bestWait hf9) yv_X9_bestWait wm_2152 ⟨Nat.le_of_ble_eq_true rfl, Nat.le_of_ble_eq_true rfl⟩ rfl rfl hl.1 kl_X9.1 (hB.2.1.obj lc_Mo_0) hB.2.1 hB.lenM hB.hM (Nat.le_of_ble_eq_true rfl) ⟨by show cells + 1 + 0 ≤ 601024; omega, by show slots + 6 + 0 ≤ 7293034; omega⟩ dL_law_2189) (fun H locs hB => ?_)
  refine W.eq (g2 := F0 m 2192 ls [.int q]) rfl ?_
  refine lv_istore (lv' := [(6, .int q), (5, .int r), (4, .int (nI i)), (3, .ref (a + 876)), (2, .ref (a + 866)), (1, .ref a), (0, .ref b)]) hx hb dL_law_2192 hl (by decide) rfl (fun ls hl => ?_)
  refine lv_aload_n hx hb dL_law_2194 rfl (lv_at hl 4 rfl) ?_
  refine u_goM hB (bk_runV X (Av := []) (rest := []) (mX9_thrown (show fX9_thrown u' = some (u' 3) from rfl)) yv_X9_thrown wm_1921 ⟨Nat.le_of_ble_eq_true rfl, Nat.le_of_ble_eq_true rfl⟩ rfl rfl hl.1 kl_X9.1 (hB.2.1.obj lc_Mo_0) hB.2.1 hB.lenM hB.hM (Nat.le_of_ble_eq_true rfl) ⟨by show cells + 1 + 0 + 0 ≤ 601024; omega, by show slots + 6 + 0 + 0 ≤ 7293034; omega⟩ dL_law_2195) (fun H locs hB => ?_)
  refine W.eq (g2 := F0 m 2198 ls [.int (u' 3)]) rfl ?_
  refine lv_iload hx hb dL_law_2198 (lv_at hl 1 rfl) ?_
  refine lv_icmp_eq (tgt := 2205) hx hb dL_law_2200 (by decide) (fun _ => ?_) (fun h => absurd ht h)
  refine lv_iload hx hb dL_law_2205 (lv_at hl 1 rfl) ?_
  refine lv_if_ne (tgt := 2222) hx hb dL_law_2207 (by decide) (fun _ => ?_) (fun h0 => ?_)
  · refine lv_goto (tgt := 3148) hx hb dL_law_2222 (by decide) ?_
    exact kk ls H locs f9 (lv_sub hl [2, 3, 4, 5, 6] rfl) hB
  · refine lv_aload_n hx hb dL_law_2210 rfl (lv_at hl 3 rfl) ?_
    refine lv_iconst (v := 0) hx hb dL_law_2211 (by decide) ?_
    refine u_out X hB dL_law_2212 ?_
    refine lv_iload hx hb dL_law_2213 (lv_at hl 0 rfl) ?_
    refine lv_i2l (v := q.toInt64) hx hb dL_law_2215 rfl ?_
    refine W.lcmp hx hb dL_law_2216 ?_
    rw [hy9 _ (hy h0), lg_self]
    refine lv_if_eq (tgt := 2222) hx hb dL_law_2217 (by decide) (fun _ => ?_) (fun h => absurd rfl h)
    refine lv_goto (tgt := 3148) hx hb dL_law_2222 (by decide) ?_
    exact kk ls H locs f9 (lv_sub hl [2, 3, 4, 5, 6] rfl) hB
theorem cL_44 {p : Program} {l : Launch} {e : Env} {s : State} {m : MethodId} {args : Array Value} {below : List Frame} {meth : Method} {c : Code} {H : Heap} {locs : List Loc} {cells slots : Nat} {Q : State → Prop} {ls : Array Slot} {D : va_G} {E : bE} {a : Nat} {v u : bM} {f : Nat → Int64} {b L : Nat} {xs : Nat → Int32} {i : Nat} {v' u' : bM} {r : Int32} (X : bCx p s m args meth c RL cL_law 9 D E) (hB : uB D E a v u f b L xs s H locs) (hl : lv_has ls 9 [(4, .int (nI i)), (3, .ref (a + 876)), (2, .ref (a + 866)), (1, .ref a), (0, .ref b)]) (hL : L ≤ 3072) (hi : i + 5 < L) (hf8 : fX8_income  v = some r) (hf9 : fX9_income  u = some (r, u')) (hc : cells + 20 ≤ 601024 ∧ slots + 3830 ≤ 7293034) (kk : ∀ (ls : Array Slot) (H : Heap) (locs : List Loc), lv_has ls 9 [(4, .int (nI i)), (3, .ref (a + 876)), (2, .ref (a + 866)), (1, .ref a), (0, .ref b)] → uB D E a v u' f b L xs s H locs → W p l e room_1 s m args below meth c H locs cells slots Q (F0 m 3148 ls [])) : W p l e room_1 s m args below meth c H locs cells slots Q (F0 m 2225 ls []) := by
  have hx := X.1
  have hb := X.2.1
  refine lv_aload_n hx hb dL_law_2225 rfl (lv_at hl 3 rfl) ?_
  refine u_goX hB (bk_runV X (Av := []) (rest := []) (mX8_income hf8) yv_X8_income wm_816 ⟨Nat.le_of_ble_eq_true rfl, Nat.le_of_ble_eq_true rfl⟩ rfl rfl hl.1 kl_X8.1 (hB.1.obj lcq_X_0) hB.1 hB.lenX hB.hX (Nat.le_of_ble_eq_true rfl) ⟨by show cells + 0 ≤ 601024; omega, by show slots + 0 ≤ 7293034; omega⟩ dL_law_2226) (fun H locs hB => ?_)
  refine W.eq (g2 := F0 m 2229 ls [.int r]) rfl ?_
  refine lv_aload_n hx hb dL_law_2229 rfl (lv_at hl 2 rfl) ?_
  refine u_goM hB (bk_runV X (Av := []) (rest := [.int r]) (mX9_income hf9) yv_X9_income wm_2156 ⟨Nat.le_of_ble_eq_true rfl, Nat.le_of_ble_eq_true rfl⟩ rfl rfl hl.1 kl_X9.1 (hB.2.1.obj lc_Mo_0) hB.2.1 hB.lenM hB.hM (Nat.le_of_ble_eq_true rfl) ⟨by show cells + 0 + 0 ≤ 601024; omega, by show slots + 0 + 0 ≤ 7293034; omega⟩ dL_law_2230) (fun H locs hB => ?_)
  refine W.eq (g2 := F0 m 2233 ls [.int r, .int r]) rfl ?_
  exact lv_icmp_eq (tgt := 3148) hx hb dL_law_2233 (by decide) (fun _ => kk ls H locs hl hB) (fun h => absurd rfl h)
theorem cL_45 {p : Program} {l : Launch} {e : Env} {s : State} {m : MethodId} {args : Array Value} {below : List Frame} {meth : Method} {c : Code} {H : Heap} {locs : List Loc} {cells slots : Nat} {Q : State → Prop} {ls : Array Slot} {D : va_G} {E : bE} {a : Nat} {v u : bM} {f : Nat → Int64} {b L : Nat} {xs : Nat → Int32} {i : Nat} {v' u' : bM} {r : Int32} (X : bCx p s m args meth c RL cL_law 9 D E) (hB : uB D E a v u f b L xs s H locs) (hl : lv_has ls 9 [(4, .int (nI i)), (3, .ref (a + 876)), (2, .ref (a + 866)), (1, .ref a), (0, .ref b)]) (hL : L ≤ 3072) (hi : i + 5 < L) (hf8 : fX8_spentOnFlour  v = some r) (hf9 : fX9_spentOnFlour  u = some (r, u')) (hc : cells + 20 ≤ 601024 ∧ slots + 3830 ≤ 7293034) (kk : ∀ (ls : Array Slot) (H : Heap) (locs : List Loc), lv_has ls 9 [(4, .int (nI i)), (3, .ref (a + 876)), (2, .ref (a + 866)), (1, .ref a), (0, .ref b)] → uB D E a v u' f b L xs s H locs → W p l e room_1 s m args below meth c H locs cells slots Q (F0 m 3148 ls [])) : W p l e room_1 s m args below meth c H locs cells slots Q (F0 m 2238 ls []) := by
  have hx := X.1
  have hb := X.2.1
  refine lv_aload_n hx hb dL_law_2238 rfl (lv_at hl 3 rfl) ?_
  refine u_goX hB (bk_runV X (Av := []) (rest := []) (mX8_spentOnFlour hf8) yv_X8_spentOnFlour wm_820 ⟨Nat.le_of_ble_eq_true rfl, Nat.le_of_ble_eq_true rfl⟩ rfl rfl hl.1 kl_X8.1 (hB.1.obj lcq_X_0) hB.1 hB.lenX hB.hX (Nat.le_of_ble_eq_true rfl) ⟨by show cells + 0 ≤ 601024; omega, by show slots + 0 ≤ 7293034; omega⟩ dL_law_2239) (fun H locs hB => ?_)
  refine W.eq (g2 := F0 m 2242 ls [.int r]) rfl ?_
  refine lv_aload_n hx hb dL_law_2242 rfl (lv_at hl 2 rfl) ?_
  refine u_goM hB (bk_runV X (Av := []) (rest := [.int r]) (mX9_spentOnFlour hf9) yv_X9_spentOnFlour wm_2160 ⟨Nat.le_of_ble_eq_true rfl, Nat.le_of_ble_eq_true rfl⟩ rfl rfl hl.1 kl_X9.1 (hB.2.1.obj lc_Mo_0) hB.2.1 hB.lenM hB.hM (Nat.le_of_ble_eq_true rfl) ⟨by show cells + 0 + 0 ≤ 601024; omega, by show slots + 0 + 0 ≤ 7293034; omega⟩ dL_law_2243) (fun H locs hB => ?_)
  refine W.eq (g2 := F0 m 2246 ls [.int r, .int r]) rfl ?_
  exact lv_icmp_eq (tgt := 3148) hx hb dL_law_2246 (by decide) (fun _ => kk ls H locs hl hB) (fun h => absurd rfl h)
theorem cL_46 {p : Program} {l : Launch} {e : Env} {s : State} {m : MethodId} {args : Array Value} {below : List Frame} {meth : Method} {c : Code} {H : Heap} {locs : List Loc} {cells slots : Nat} {Q : State → Prop} {ls : Array Slot} {D : va_G} {E : bE} {a : Nat} {v u : bM} {f : Nat → Int64} {b L : Nat} {xs : Nat → Int32} {i : Nat} {v' u' : bM} {r : Int32} (X : bCx p s m args meth c RL cL_law 9 D E) (hB : uB D E a v u f b L xs s H locs) (hl : lv_has ls 9 [(4, .int (nI i)), (3, .ref (a + 876)), (2, .ref (a + 866)), (1, .ref a), (0, .ref b)]) (hL : L ≤ 3072) (hi : i + 5 < L) (hf8 : fX8_spentOnOvens  v = some r) (hf9 : fX9_spentOnOvens  u = some (r, u')) (hc : cells + 20 ≤ 601024 ∧ slots + 3830 ≤ 7293034) (kk : ∀ (ls : Array Slot) (H : Heap) (locs : List Loc), lv_has ls 9 [(4, .int (nI i)), (3, .ref (a + 876)), (2, .ref (a + 866)), (1, .ref a), (0, .ref b)] → uB D E a v u' f b L xs s H locs → W p l e room_1 s m args below meth c H locs cells slots Q (F0 m 3148 ls [])) : W p l e room_1 s m args below meth c H locs cells slots Q (F0 m 2251 ls []) := by
  have hx := X.1
  have hb := X.2.1
  refine lv_aload_n hx hb dL_law_2251 rfl (lv_at hl 3 rfl) ?_
  refine u_goX hB (bk_runV X (Av := []) (rest := []) (mX8_spentOnOvens hf8) yv_X8_spentOnOvens wm_824 ⟨Nat.le_of_ble_eq_true rfl, Nat.le_of_ble_eq_true rfl⟩ rfl rfl hl.1 kl_X8.1 (hB.1.obj lcq_X_0) hB.1 hB.lenX hB.hX (Nat.le_of_ble_eq_true rfl) ⟨by show cells + 0 ≤ 601024; omega, by show slots + 0 ≤ 7293034; omega⟩ dL_law_2252) (fun H locs hB => ?_)
  refine W.eq (g2 := F0 m 2255 ls [.int r]) rfl ?_
  refine lv_aload_n hx hb dL_law_2255 rfl (lv_at hl 2 rfl) ?_
  refine u_goM hB (bk_runV X (Av := []) (rest := [.int r]) (mX9_spentOnOvens hf9) yv_X9_spentOnOvens wm_2164 ⟨Nat.le_of_ble_eq_true rfl, Nat.le_of_ble_eq_true rfl⟩ rfl rfl hl.1 kl_X9.1 (hB.2.1.obj lc_Mo_0) hB.2.1 hB.lenM hB.hM (Nat.le_of_ble_eq_true rfl) ⟨by show cells + 0 + 0 ≤ 601024; omega, by show slots + 0 + 0 ≤ 7293034; omega⟩ dL_law_2256) (fun H locs hB => ?_)
  refine W.eq (g2 := F0 m 2259 ls [.int r, .int r]) rfl ?_
  exact lv_icmp_eq (tgt := 3148) hx hb dL_law_2259 (by decide) (fun _ => kk ls H locs hl hB) (fun h => absurd rfl h)
theorem cL_47 {p : Program} {l : Launch} {e : Env} {s : State} {m : MethodId} {args : Array Value} {below : List Frame} {meth : Method} {c : Code} {H : Heap} {locs : List Loc} {cells slots : Nat} {Q : State → Prop} {ls : Array Slot} {D : va_G} {E : bE} {a : Nat} {v u : bM} {f : Nat → Int64} {b L : Nat} {xs : Nat → Int32} {i : Nat} {v' u' : bM} {r : Int32} (X : bCx p s m args meth c RL cL_law 9 D E) (hB : uB D E a v u f b L xs s H locs) (hl : lv_has ls 9 [(4, .int (nI i)), (3, .ref (a + 876)), (2, .ref (a + 866)), (1, .ref a), (0, .ref b)]) (hL : L ≤ 3072) (hi : i + 5 < L) (hf8 : fX8_flourValue  v = some r) (hf9 : fX9_flourValue  u = some (r, u')) (hc : cells + 20 ≤ 601024 ∧ slots + 3830 ≤ 7293034) (kk : ∀ (ls : Array Slot) (H : Heap) (locs : List Loc), lv_has ls 9 [(4, .int (nI i)), (3, .ref (a + 876)), (2, .ref (a + 866)), (1, .ref a), (0, .ref b)] → uB D E a v u' f b L xs s H locs → W p l e room_1 s m args below meth c H locs cells slots Q (F0 m 3148 ls [])) : W p l e room_1 s m args below meth c H locs cells slots Q (F0 m 2264 ls []) := by
  have hx := X.1
  have hb := X.2.1
  refine lv_aload_n hx hb dL_law_2264 rfl (lv_at hl 3 rfl) ?_
  refine u_goX hB (bk_runV X (Av := []) (rest := []) (mX8_flourValue hf8) yv_X8_flourValue wm_833 ⟨Nat.le_of_ble_eq_true rfl, Nat.le_of_ble_eq_true rfl⟩ rfl rfl hl.1 kl_X8.1 (hB.1.obj lcq_X_0) hB.1 hB.lenX hB.hX (Nat.le_of_ble_eq_true rfl) ⟨by show cells + 0 ≤ 601024; omega, by show slots + 0 ≤ 7293034; omega⟩ dL_law_2265) (fun H locs hB => ?_)
  refine W.eq (g2 := F0 m 2268 ls [.int r]) rfl ?_
  refine lv_aload_n hx hb dL_law_2268 rfl (lv_at hl 2 rfl) ?_
  refine u_goM hB (bk_runV X (Av := []) (rest := [.int r]) (mX9_flourValue hf9) yv_X9_flourValue wm_2168 ⟨Nat.le_of_ble_eq_true rfl, Nat.le_of_ble_eq_true rfl⟩ rfl rfl hl.1 kl_X9.1 (hB.2.1.obj lc_Mo_0) hB.2.1 hB.lenM hB.hM (Nat.le_of_ble_eq_true rfl) ⟨by show cells + 0 + 0 ≤ 601024; omega, by show slots + 0 + 0 ≤ 7293034; omega⟩ dL_law_2269) (fun H locs hB => ?_)
  refine W.eq (g2 := F0 m 2272 ls [.int r, .int r]) rfl ?_
  exact lv_icmp_eq (tgt := 3148) hx hb dL_law_2272 (by decide) (fun _ => kk ls H locs hl hB) (fun h => absurd rfl h)
theorem cL_48 {p : Program} {l : Launch} {e : Env} {s : State} {m : MethodId} {args : Array Value} {below : List Frame} {meth : Method} {c : Code} {H : Heap} {locs : List Loc} {cells slots : Nat} {Q : State → Prop} {ls : Array Slot} {D : va_G} {E : bE} {a : Nat} {v u : bM} {f : Nat → Int64} {b L : Nat} {xs : Nat → Int32} {i : Nat} {v' u' : bM} {r : Int32} (X : bCx p s m args meth c RL cL_law 9 D E) (hB : uB D E a v u f b L xs s H locs) (hl : lv_has ls 9 [(4, .int (nI i)), (3, .ref (a + 876)), (2, .ref (a + 866)), (1, .ref a), (0, .ref b)]) (hL : L ≤ 3072) (hi : i + 5 < L) (hf8 : fX8_loafValue  v = some r) (hf9 : fX9_loafValue  u = some (r, u')) (hc : cells + 20 ≤ 601024 ∧ slots + 3830 ≤ 7293034) (kk : ∀ (ls : Array Slot) (H : Heap) (locs : List Loc), lv_has ls 9 [(4, .int (nI i)), (3, .ref (a + 876)), (2, .ref (a + 866)), (1, .ref a), (0, .ref b)] → uB D E a v u' f b L xs s H locs → W p l e room_1 s m args below meth c H locs cells slots Q (F0 m 3148 ls [])) : W p l e room_1 s m args below meth c H locs cells slots Q (F0 m 2277 ls []) := by
  have hx := X.1
  have hb := X.2.1
  refine lv_aload_n hx hb dL_law_2277 rfl (lv_at hl 3 rfl) ?_
  refine u_goX hB (bk_runV X (Av := []) (rest := []) (mX8_loafValue hf8) yv_X8_loafValue wm_841 ⟨Nat.le_of_ble_eq_true rfl, Nat.le_of_ble_eq_true rfl⟩ rfl rfl hl.1 kl_X8.1 (hB.1.obj lcq_X_0) hB.1 hB.lenX hB.hX (Nat.le_of_ble_eq_true rfl) ⟨by show cells + 0 ≤ 601024; omega, by show slots + 0 ≤ 7293034; omega⟩ dL_law_2278) (fun H locs hB => ?_)
  refine W.eq (g2 := F0 m 2281 ls [.int r]) rfl ?_
  refine lv_aload_n hx hb dL_law_2281 rfl (lv_at hl 2 rfl) ?_
  refine u_goM hB (bk_runV X (Av := []) (rest := [.int r]) (mX9_loafValue hf9) yv_X9_loafValue wm_2176 ⟨Nat.le_of_ble_eq_true rfl, Nat.le_of_ble_eq_true rfl⟩ rfl rfl hl.1 kl_X9.1 (hB.2.1.obj lc_Mo_0) hB.2.1 hB.lenM hB.hM (Nat.le_of_ble_eq_true rfl) ⟨by show cells + 0 + 0 ≤ 601024; omega, by show slots + 0 + 0 ≤ 7293034; omega⟩ dL_law_2282) (fun H locs hB => ?_)
  refine W.eq (g2 := F0 m 2285 ls [.int r, .int r]) rfl ?_
  exact lv_icmp_eq (tgt := 3148) hx hb dL_law_2285 (by decide) (fun _ => kk ls H locs hl hB) (fun h => absurd rfl h)
theorem cL_49 {p : Program} {l : Launch} {e : Env} {s : State} {m : MethodId} {args : Array Value} {below : List Frame} {meth : Method} {c : Code} {H : Heap} {locs : List Loc} {cells slots : Nat} {Q : State → Prop} {ls : Array Slot} {D : va_G} {E : bE} {a : Nat} {v u : bM} {f : Nat → Int64} {b L : Nat} {xs : Nat → Int32} {i : Nat} {v' u' : bM} {r : Int32} (X : bCx p s m args meth c RL cL_law 9 D E) (hB : uB D E a v u f b L xs s H locs) (hl : lv_has ls 9 [(4, .int (nI i)), (3, .ref (a + 876)), (2, .ref (a + 866)), (1, .ref a), (0, .ref b)]) (hL : L ≤ 3072) (hi : i + 5 < L) (hf8 : fX8_consistencyError  v = some r) (hf9 : fX9_consistencyError  u = some (r, u')) (hc : cells + 20 ≤ 601024 ∧ slots + 3830 ≤ 7293034) (kk : ∀ (ls : Array Slot) (H : Heap) (locs : List Loc), lv_has ls 9 [(4, .int (nI i)), (3, .ref (a + 876)), (2, .ref (a + 866)), (1, .ref a), (0, .ref b)] → uB D E a v u' f b L xs s H locs → W p l e room_1 s m args below meth c H locs cells slots Q (F0 m 3148 ls [])) : W p l e room_1 s m args below meth c H locs cells slots Q (F0 m 2290 ls []) := by
  have hx := X.1
  have hb := X.2.1
  refine lv_aload_n hx hb dL_law_2290 rfl (lv_at hl 3 rfl) ?_
  refine u_goX hB (bk_runV X (Av := []) (rest := []) (mX8_consistencyError hf8) yv_X8_consistencyError wm_849 ⟨Nat.le_of_ble_eq_true rfl, Nat.le_of_ble_eq_true rfl⟩ rfl rfl hl.1 kl_X8.1 (hB.1.obj lcq_X_0) hB.1 hB.lenX hB.hX (Nat.le_of_ble_eq_true rfl) ⟨by show cells + 0 ≤ 601024; omega, by show slots + 0 ≤ 7293034; omega⟩ dL_law_2291) (fun H locs hB => ?_)
  refine W.eq (g2 := F0 m 2294 ls [.int r]) rfl ?_
  refine lv_aload_n hx hb dL_law_2294 rfl (lv_at hl 2 rfl) ?_
  refine u_goM hB (bk_runV X (Av := []) (rest := [.int r]) (mX9_consistencyError hf9) yv_X9_consistencyError wm_2184 ⟨Nat.le_of_ble_eq_true rfl, Nat.le_of_ble_eq_true rfl⟩ rfl rfl hl.1 kl_X9.1 (hB.2.1.obj lc_Mo_0) hB.2.1 hB.lenM hB.hM (Nat.le_of_ble_eq_true rfl) ⟨by show cells + 0 + 0 ≤ 601024; omega, by show slots + 0 + 0 ≤ 7293034; omega⟩ dL_law_2295) (fun H locs hB => ?_)
  refine W.eq (g2 := F0 m 2298 ls [.int r, .int r]) rfl ?_
  exact lv_icmp_eq (tgt := 3148) hx hb dL_law_2298 (by decide) (fun _ => kk ls H locs hl hB) (fun h => absurd rfl h)
theorem cL_52 {p : Program} {l : Launch} {e : Env} {s : State} {m : MethodId} {args : Array Value} {below : List Frame} {meth : Method} {c : Code} {H : Heap} {locs : List Loc} {cells slots : Nat} {Q : State → Prop} {ls : Array Slot} {D : va_G} {E : bE} {a : Nat} {v u : bM} {f : Nat → Int64} {b L : Nat} {xs : Nat → Int32} {i : Nat} {w u' : bM} {r q : Int32} {y9 : Option Int64} (X : bCx p s m args meth c RL cL_law 9 D E) (hB : uB D E a v u f b L xs s H locs) (hl : lv_has ls 9 [(4, .int (nI i)), (3, .ref (a + 876)), (2, .ref (a + 866)), (1, .ref a), (0, .ref b)]) (hL : L ≤ 3072) (hi : i + 5 < L) (hM : hMet l yL_addFlour cL_addFlour 4 [(0, 9, 12, 49), (0, 9, 15, 91)] 8 1 6 [.int (xs (i + 1))] v r w y9) (hf9 : fX9_addFlour (xs (i + 1)) u = some (q, u')) (ht : u' 3 = r) (hy : r = 0 → y9 = some q.toInt64) (hc : cells + 20 ≤ 601024 ∧ slots + 3830 ≤ 7293034) (kk : ∀ (ls : Array Slot) (H : Heap) (locs : List Loc) (f9 : Nat → Int64), lv_has ls 9 [(4, .int (nI i)), (3, .ref (a + 876)), (2, .ref (a + 866)), (1, .ref a), (0, .ref b)] → uB D E a w u' f9 b L xs s H locs → W p l e room_1 s m args below meth c H locs (cells + 1) (slots + 6) Q (F0 m 3148 ls [])) : W p l e room_1 s m args below meth c H locs cells slots Q (F0 m 2387 ls []) := by
  have hx := X.1
  have hb := X.2.1
  refine lv_aload_n hx hb dL_law_2387 rfl (lv_at hl 3 rfl) ?_
  refine u_scr X hB (i := i) 1 hL (by omega) (lv_at hl 4 rfl) (lv_at hl 0 rfl) (by decide) dL_law_2388 dL_law_2389 dL_law_2391 dL_law_2392 dL_law_2393 ?_
  refine lv_aload_n hx hb dL_law_2394 rfl (lv_at hl 1 rfl) ?_
  refine u_goH X hB (Av := [.int (xs (i + 1))]) (rest := []) hM ⟨rfl, by decide, by decide, rfl⟩ wm_1261 wm_1262 wm_0 wm_1263 ⟨Nat.le_of_ble_eq_true rfl, Nat.le_of_ble_eq_true rfl⟩ (n := 3) rfl hl.1 (Nat.le_of_ble_eq_true rfl) ⟨by show cells + 1 ≤ 601024; omega, by show slots + 6 ≤ 7293034; omega⟩ dL_law_2395 (fun H locs f9 hy9 hB => ?_)
  refine lv_istore (lv' := [(5, .int r), (4, .int (nI i)), (3, .ref (a + 876)), (2, .ref (a + 866)), (1, .ref a), (0, .ref b)]) hx hb dL_law_2398 hl (by decide) rfl (fun ls hl => ?_)
  refine lv_aload_n hx hb dL_law_2400 rfl (lv_at hl 3 rfl) ?_
  refine u_scr X hB (i := i) 1 hL (by omega) (lv_at hl 5 rfl) (lv_at hl 1 rfl) (by decide) dL_law_2401 dL_law_2402 dL_law_2404 dL_law_2405 dL_law_2406 ?_
  refine u_goM hB (bk_runV X (Av := [.int (xs (i + 1))]) (rest := []) (mX9_addFlour hf9) yv_X9_addFlour wm_2201 ⟨Nat.le_of_ble_eq_true rfl, Nat.le_of_ble_eq_true rfl⟩ rfl rfl hl.1 kl_X9.1 (hB.2.1.obj lc_Mo_0) hB.2.1 hB.lenM hB.hM (Nat.le_of_ble_eq_true rfl) ⟨by show cells + 1 + 0 ≤ 601024; omega, by show slots + 6 + 0 ≤ 7293034; omega⟩ dL_law_2407) (fun H locs hB => ?_)
  refine W.eq (g2 := F0 m 2410 ls [.int q]) rfl ?_
  refine lv_istore (lv' := [(6, .int q), (5, .int r), (4, .int (nI i)), (3, .ref (a + 876)), (2, .ref (a + 866)), (1, .ref a), (0, .ref b)]) hx hb dL_law_2410 hl (by decide) rfl (fun ls hl => ?_)
  refine lv_aload_n hx hb dL_law_2412 rfl (lv_at hl 4 rfl) ?_
  refine u_goM hB (bk_runV X (Av := []) (rest := []) (mX9_thrown (show fX9_thrown u' = some (u' 3) from rfl)) yv_X9_thrown wm_1921 ⟨Nat.le_of_ble_eq_true rfl, Nat.le_of_ble_eq_true rfl⟩ rfl rfl hl.1 kl_X9.1 (hB.2.1.obj lc_Mo_0) hB.2.1 hB.lenM hB.hM (Nat.le_of_ble_eq_true rfl) ⟨by show cells + 1 + 0 + 0 ≤ 601024; omega, by show slots + 6 + 0 + 0 ≤ 7293034; omega⟩ dL_law_2413) (fun H locs hB => ?_)
  refine W.eq (g2 := F0 m 2416 ls [.int (u' 3)]) rfl ?_
  refine lv_iload hx hb dL_law_2416 (lv_at hl 1 rfl) ?_
  refine lv_icmp_eq (tgt := 2423) hx hb dL_law_2418 (by decide) (fun _ => ?_) (fun h => absurd ht h)
  refine lv_iload hx hb dL_law_2423 (lv_at hl 1 rfl) ?_
  refine lv_if_ne (tgt := 2440) hx hb dL_law_2425 (by decide) (fun _ => ?_) (fun h0 => ?_)
  · refine lv_goto (tgt := 3148) hx hb dL_law_2440 (by decide) ?_
    exact kk ls H locs f9 (lv_sub hl [2, 3, 4, 5, 6] rfl) hB
  · refine lv_aload_n hx hb dL_law_2428 rfl (lv_at hl 3 rfl) ?_
    refine lv_iconst (v := 0) hx hb dL_law_2429 (by decide) ?_
    refine u_out X hB dL_law_2430 ?_
    refine lv_iload hx hb dL_law_2431 (lv_at hl 0 rfl) ?_
    refine lv_i2l (v := q.toInt64) hx hb dL_law_2433 rfl ?_
    refine W.lcmp hx hb dL_law_2434 ?_
    rw [hy9 _ (hy h0), lg_self]
    refine lv_if_eq (tgt := 2440) hx hb dL_law_2435 (by decide) (fun _ => ?_) (fun h => absurd rfl h)
    refine lv_goto (tgt := 3148) hx hb dL_law_2440 (by decide) ?_
    exact kk ls H locs f9 (lv_sub hl [2, 3, 4, 5, 6] rfl) hB
theorem cL_53 {p : Program} {l : Launch} {e : Env} {s : State} {m : MethodId} {args : Array Value} {below : List Frame} {meth : Method} {c : Code} {H : Heap} {locs : List Loc} {cells slots : Nat} {Q : State → Prop} {ls : Array Slot} {D : va_G} {E : bE} {a : Nat} {v u : bM} {f : Nat → Int64} {b L : Nat} {xs : Nat → Int32} {i : Nat} {w u' : bM} {r q : Int32} {y9 : Option Int64} (X : bCx p s m args meth c RL cL_law 9 D E) (hB : uB D E a v u f b L xs s H locs) (hl : lv_has ls 9 [(4, .int (nI i)), (3, .ref (a + 876)), (2, .ref (a + 866)), (1, .ref a), (0, .ref b)]) (hL : L ≤ 3072) (hi : i + 5 < L) (hM : hMet l yL_addBread cL_addBread 6 [(0, 12, 15, 49), (0, 12, 19, 91)] 8 1 6 [.int (xs (i + 1)), .int (xs (i + 2)), .int (xs (i + 3))] v r w y9) (hf9 : fX9_addBread (xs (i + 1)) (xs (i + 2)) (xs (i + 3)) u = some (q, u')) (ht : u' 3 = r) (hy : r = 0 → y9 = some q.toInt64) (hc : cells + 20 ≤ 601024 ∧ slots + 3830 ≤ 7293034) (kk : ∀ (ls : Array Slot) (H : Heap) (locs : List Loc) (f9 : Nat → Int64), lv_has ls 9 [(4, .int (nI i)), (3, .ref (a + 876)), (2, .ref (a + 866)), (1, .ref a), (0, .ref b)] → uB D E a w u' f9 b L xs s H locs → W p l e room_1 s m args below meth c H locs (cells + 1) (slots + 6) Q (F0 m 3148 ls [])) : W p l e room_1 s m args below meth c H locs cells slots Q (F0 m 2443 ls []) := by
  have hx := X.1
  have hb := X.2.1
  refine lv_aload_n hx hb dL_law_2443 rfl (lv_at hl 3 rfl) ?_
  refine u_scr X hB (i := i) 1 hL (by omega) (lv_at hl 4 rfl) (lv_at hl 0 rfl) (by decide) dL_law_2444 dL_law_2445 dL_law_2447 dL_law_2448 dL_law_2449 ?_
  refine u_scr X hB (i := i) 2 hL (by omega) (lv_at hl 4 rfl) (lv_at hl 0 rfl) (by decide) dL_law_2450 dL_law_2451 dL_law_2453 dL_law_2454 dL_law_2455 ?_
  refine u_scr X hB (i := i) 3 hL (by omega) (lv_at hl 4 rfl) (lv_at hl 0 rfl) (by decide) dL_law_2456 dL_law_2457 dL_law_2459 dL_law_2460 dL_law_2461 ?_
  refine lv_aload_n hx hb dL_law_2462 rfl (lv_at hl 1 rfl) ?_
  refine u_goH X hB (Av := [.int (xs (i + 1)), .int (xs (i + 2)), .int (xs (i + 3))]) (rest := []) hM ⟨rfl, by decide, by decide, rfl⟩ wm_1269 wm_1270 wm_0 wm_1271 ⟨Nat.le_of_ble_eq_true rfl, Nat.le_of_ble_eq_true rfl⟩ (n := 5) rfl hl.1 (Nat.le_of_ble_eq_true rfl) ⟨by show cells + 1 ≤ 601024; omega, by show slots + 6 ≤ 7293034; omega⟩ dL_law_2463 (fun H locs f9 hy9 hB => ?_)
  refine lv_istore (lv' := [(5, .int r), (4, .int (nI i)), (3, .ref (a + 876)), (2, .ref (a + 866)), (1, .ref a), (0, .ref b)]) hx hb dL_law_2466 hl (by decide) rfl (fun ls hl => ?_)
  refine lv_aload_n hx hb dL_law_2468 rfl (lv_at hl 3 rfl) ?_
  refine u_scr X hB (i := i) 1 hL (by omega) (lv_at hl 5 rfl) (lv_at hl 1 rfl) (by decide) dL_law_2469 dL_law_2470 dL_law_2472 dL_law_2473 dL_law_2474 ?_
  refine u_scr X hB (i := i) 2 hL (by omega) (lv_at hl 5 rfl) (lv_at hl 1 rfl) (by decide) dL_law_2475 dL_law_2476 dL_law_2478 dL_law_2479 dL_law_2480 ?_
  refine u_scr X hB (i := i) 3 hL (by omega) (lv_at hl 5 rfl) (lv_at hl 1 rfl) (by decide) dL_law_2481 dL_law_2482 dL_law_2484 dL_law_2485 dL_law_2486 ?_
  refine u_goM hB (bk_runV X (Av := [.int (xs (i + 1)), .int (xs (i + 2)), .int (xs (i + 3))]) (rest := []) (mX9_addBread hf9) yv_X9_addBread wm_2209 ⟨Nat.le_of_ble_eq_true rfl, Nat.le_of_ble_eq_true rfl⟩ rfl rfl hl.1 kl_X9.1 (hB.2.1.obj lc_Mo_0) hB.2.1 hB.lenM hB.hM (Nat.le_of_ble_eq_true rfl) ⟨by show cells + 1 + 0 ≤ 601024; omega, by show slots + 6 + 0 ≤ 7293034; omega⟩ dL_law_2487) (fun H locs hB => ?_)
  refine W.eq (g2 := F0 m 2490 ls [.int q]) rfl ?_
  refine lv_istore (lv' := [(6, .int q), (5, .int r), (4, .int (nI i)), (3, .ref (a + 876)), (2, .ref (a + 866)), (1, .ref a), (0, .ref b)]) hx hb dL_law_2490 hl (by decide) rfl (fun ls hl => ?_)
  refine lv_aload_n hx hb dL_law_2492 rfl (lv_at hl 4 rfl) ?_
  refine u_goM hB (bk_runV X (Av := []) (rest := []) (mX9_thrown (show fX9_thrown u' = some (u' 3) from rfl)) yv_X9_thrown wm_1921 ⟨Nat.le_of_ble_eq_true rfl, Nat.le_of_ble_eq_true rfl⟩ rfl rfl hl.1 kl_X9.1 (hB.2.1.obj lc_Mo_0) hB.2.1 hB.lenM hB.hM (Nat.le_of_ble_eq_true rfl) ⟨by show cells + 1 + 0 + 0 ≤ 601024; omega, by show slots + 6 + 0 + 0 ≤ 7293034; omega⟩ dL_law_2493) (fun H locs hB => ?_)
  refine W.eq (g2 := F0 m 2496 ls [.int (u' 3)]) rfl ?_
  refine lv_iload hx hb dL_law_2496 (lv_at hl 1 rfl) ?_
  refine lv_icmp_eq (tgt := 2503) hx hb dL_law_2498 (by decide) (fun _ => ?_) (fun h => absurd ht h)
  refine lv_iload hx hb dL_law_2503 (lv_at hl 1 rfl) ?_
  refine lv_if_ne (tgt := 2520) hx hb dL_law_2505 (by decide) (fun _ => ?_) (fun h0 => ?_)
  · refine lv_goto (tgt := 3148) hx hb dL_law_2520 (by decide) ?_
    exact kk ls H locs f9 (lv_sub hl [2, 3, 4, 5, 6] rfl) hB
  · refine lv_aload_n hx hb dL_law_2508 rfl (lv_at hl 3 rfl) ?_
    refine lv_iconst (v := 0) hx hb dL_law_2509 (by decide) ?_
    refine u_out X hB dL_law_2510 ?_
    refine lv_iload hx hb dL_law_2511 (lv_at hl 0 rfl) ?_
    refine lv_i2l (v := q.toInt64) hx hb dL_law_2513 rfl ?_
    refine W.lcmp hx hb dL_law_2514 ?_
    rw [hy9 _ (hy h0), lg_self]
    refine lv_if_eq (tgt := 2520) hx hb dL_law_2515 (by decide) (fun _ => ?_) (fun h => absurd rfl h)
    refine lv_goto (tgt := 3148) hx hb dL_law_2520 (by decide) ?_
    exact kk ls H locs f9 (lv_sub hl [2, 3, 4, 5, 6] rfl) hB
theorem cL_54 {p : Program} {l : Launch} {e : Env} {s : State} {m : MethodId} {args : Array Value} {below : List Frame} {meth : Method} {c : Code} {H : Heap} {locs : List Loc} {cells slots : Nat} {Q : State → Prop} {ls : Array Slot} {D : va_G} {E : bE} {a : Nat} {v u : bM} {f : Nat → Int64} {b L : Nat} {xs : Nat → Int32} {i : Nat} {w u' : bM} {r q : Int32} {y9 : Option Int64} (X : bCx p s m args meth c RL cL_law 9 D E) (hB : uB D E a v u f b L xs s H locs) (hl : lv_has ls 9 [(4, .int (nI i)), (3, .ref (a + 876)), (2, .ref (a + 866)), (1, .ref a), (0, .ref b)]) (hL : L ≤ 3072) (hi : i + 5 < L) (hM : hMet l yL_buy cL_buy 6 [(0, 12, 15, 13), (0, 12, 19, 49), (0, 12, 23, 91)] 9 1 6 [.int (xs (i + 1)), .int (xs (i + 2)), .int (xs (i + 3))] v r w y9) (hf9 : fX9_buy (xs (i + 1)) (xs (i + 2)) (xs (i + 3)) u = some (q, u')) (ht : u' 3 = r) (hy : r = 0 → y9 = some q.toInt64) (hc : cells + 20 ≤ 601024 ∧ slots + 3830 ≤ 7293034) (kk : ∀ (ls : Array Slot) (H : Heap) (locs : List Loc) (f9 : Nat → Int64), lv_has ls 9 [(4, .int (nI i)), (3, .ref (a + 876)), (2, .ref (a + 866)), (1, .ref a), (0, .ref b)] → uB D E a w u' f9 b L xs s H locs → W p l e room_1 s m args below meth c H locs (cells + 1) (slots + 6) Q (F0 m 3148 ls [])) : W p l e room_1 s m args below meth c H locs cells slots Q (F0 m 2523 ls []) := by
  have hx := X.1
  have hb := X.2.1
  refine lv_aload_n hx hb dL_law_2523 rfl (lv_at hl 3 rfl) ?_
  refine u_scr X hB (i := i) 1 hL (by omega) (lv_at hl 4 rfl) (lv_at hl 0 rfl) (by decide) dL_law_2524 dL_law_2525 dL_law_2527 dL_law_2528 dL_law_2529 ?_
  refine u_scr X hB (i := i) 2 hL (by omega) (lv_at hl 4 rfl) (lv_at hl 0 rfl) (by decide) dL_law_2530 dL_law_2531 dL_law_2533 dL_law_2534 dL_law_2535 ?_
  refine u_scr X hB (i := i) 3 hL (by omega) (lv_at hl 4 rfl) (lv_at hl 0 rfl) (by decide) dL_law_2536 dL_law_2537 dL_law_2539 dL_law_2540 dL_law_2541 ?_
  refine lv_aload_n hx hb dL_law_2542 rfl (lv_at hl 1 rfl) ?_
  refine u_goH X hB (Av := [.int (xs (i + 1)), .int (xs (i + 2)), .int (xs (i + 3))]) (rest := []) hM ⟨rfl, by decide, by decide, rfl⟩ wm_1278 wm_1279 wm_0 wm_1280 ⟨Nat.le_of_ble_eq_true rfl, Nat.le_of_ble_eq_true rfl⟩ (n := 5) rfl hl.1 (Nat.le_of_ble_eq_true rfl) ⟨by show cells + 1 ≤ 601024; omega, by show slots + 6 ≤ 7293034; omega⟩ dL_law_2543 (fun H locs f9 hy9 hB => ?_)
  refine lv_istore (lv' := [(5, .int r), (4, .int (nI i)), (3, .ref (a + 876)), (2, .ref (a + 866)), (1, .ref a), (0, .ref b)]) hx hb dL_law_2546 hl (by decide) rfl (fun ls hl => ?_)
  refine lv_aload_n hx hb dL_law_2548 rfl (lv_at hl 3 rfl) ?_
  refine u_scr X hB (i := i) 1 hL (by omega) (lv_at hl 5 rfl) (lv_at hl 1 rfl) (by decide) dL_law_2549 dL_law_2550 dL_law_2552 dL_law_2553 dL_law_2554 ?_
  refine u_scr X hB (i := i) 2 hL (by omega) (lv_at hl 5 rfl) (lv_at hl 1 rfl) (by decide) dL_law_2555 dL_law_2556 dL_law_2558 dL_law_2559 dL_law_2560 ?_
  refine u_scr X hB (i := i) 3 hL (by omega) (lv_at hl 5 rfl) (lv_at hl 1 rfl) (by decide) dL_law_2561 dL_law_2562 dL_law_2564 dL_law_2565 dL_law_2566 ?_
  refine u_goM hB (bk_runV X (Av := [.int (xs (i + 1)), .int (xs (i + 2)), .int (xs (i + 3))]) (rest := []) (mX9_buy hf9) yv_X9_buy wm_2213 ⟨Nat.le_of_ble_eq_true rfl, Nat.le_of_ble_eq_true rfl⟩ rfl rfl hl.1 kl_X9.1 (hB.2.1.obj lc_Mo_0) hB.2.1 hB.lenM hB.hM (Nat.le_of_ble_eq_true rfl) ⟨by show cells + 1 + 0 ≤ 601024; omega, by show slots + 6 + 0 ≤ 7293034; omega⟩ dL_law_2567) (fun H locs hB => ?_)
  refine W.eq (g2 := F0 m 2570 ls [.int q]) rfl ?_
  refine lv_istore (lv' := [(6, .int q), (5, .int r), (4, .int (nI i)), (3, .ref (a + 876)), (2, .ref (a + 866)), (1, .ref a), (0, .ref b)]) hx hb dL_law_2570 hl (by decide) rfl (fun ls hl => ?_)
  refine lv_aload_n hx hb dL_law_2572 rfl (lv_at hl 4 rfl) ?_
  refine u_goM hB (bk_runV X (Av := []) (rest := []) (mX9_thrown (show fX9_thrown u' = some (u' 3) from rfl)) yv_X9_thrown wm_1921 ⟨Nat.le_of_ble_eq_true rfl, Nat.le_of_ble_eq_true rfl⟩ rfl rfl hl.1 kl_X9.1 (hB.2.1.obj lc_Mo_0) hB.2.1 hB.lenM hB.hM (Nat.le_of_ble_eq_true rfl) ⟨by show cells + 1 + 0 + 0 ≤ 601024; omega, by show slots + 6 + 0 + 0 ≤ 7293034; omega⟩ dL_law_2573) (fun H locs hB => ?_)
  refine W.eq (g2 := F0 m 2576 ls [.int (u' 3)]) rfl ?_
  refine lv_iload hx hb dL_law_2576 (lv_at hl 1 rfl) ?_
  refine lv_icmp_eq (tgt := 2583) hx hb dL_law_2578 (by decide) (fun _ => ?_) (fun h => absurd ht h)
  refine lv_iload hx hb dL_law_2583 (lv_at hl 1 rfl) ?_
  refine lv_if_ne (tgt := 2600) hx hb dL_law_2585 (by decide) (fun _ => ?_) (fun h0 => ?_)
  · refine lv_goto (tgt := 3148) hx hb dL_law_2600 (by decide) ?_
    exact kk ls H locs f9 (lv_sub hl [2, 3, 4, 5, 6] rfl) hB
  · refine lv_aload_n hx hb dL_law_2588 rfl (lv_at hl 3 rfl) ?_
    refine lv_iconst (v := 0) hx hb dL_law_2589 (by decide) ?_
    refine u_out X hB dL_law_2590 ?_
    refine lv_iload hx hb dL_law_2591 (lv_at hl 0 rfl) ?_
    refine lv_i2l (v := q.toInt64) hx hb dL_law_2593 rfl ?_
    refine W.lcmp hx hb dL_law_2594 ?_
    rw [hy9 _ (hy h0), lg_self]
    refine lv_if_eq (tgt := 2600) hx hb dL_law_2595 (by decide) (fun _ => ?_) (fun h => absurd rfl h)
    refine lv_goto (tgt := 3148) hx hb dL_law_2600 (by decide) ?_
    exact kk ls H locs f9 (lv_sub hl [2, 3, 4, 5, 6] rfl) hB
theorem cL_55 {p : Program} {l : Launch} {e : Env} {s : State} {m : MethodId} {args : Array Value} {below : List Frame} {meth : Method} {c : Code} {H : Heap} {locs : List Loc} {cells slots : Nat} {Q : State → Prop} {ls : Array Slot} {D : va_G} {E : bE} {a : Nat} {v u : bM} {f : Nat → Int64} {b L : Nat} {xs : Nat → Int32} {i : Nat} {w u' : bM} {r q : Int32} {y9 : Option Int64} (X : bCx p s m args meth c RL cL_law 9 D E) (hB : uB D E a v u f b L xs s H locs) (hl : lv_has ls 9 [(4, .int (nI i)), (3, .ref (a + 876)), (2, .ref (a + 866)), (1, .ref a), (0, .ref b)]) (hL : L ≤ 3072) (hi : i + 5 < L) (hM : hMet l yL_setRate cL_setRate 5 [(0, 10, 13, 49)] 8 1 6 [.int (xs (i + 1)), .int (xs (i + 2))] v r w y9) (hf9 : fX9_setRate (xs (i + 1)) (xs (i + 2)) u = some (q, u')) (ht : u' 3 = r) (hy : r = 0 → y9 = some q.toInt64) (hc : cells + 20 ≤ 601024 ∧ slots + 3830 ≤ 7293034) (kk : ∀ (ls : Array Slot) (H : Heap) (locs : List Loc) (f9 : Nat → Int64), lv_has ls 9 [(4, .int (nI i)), (3, .ref (a + 876)), (2, .ref (a + 866)), (1, .ref a), (0, .ref b)] → uB D E a w u' f9 b L xs s H locs → W p l e room_1 s m args below meth c H locs (cells + 1) (slots + 6) Q (F0 m 3148 ls [])) : W p l e room_1 s m args below meth c H locs cells slots Q (F0 m 2603 ls []) := by
  have hx := X.1
  have hb := X.2.1
  refine lv_aload_n hx hb dL_law_2603 rfl (lv_at hl 3 rfl) ?_
  refine u_scr X hB (i := i) 1 hL (by omega) (lv_at hl 4 rfl) (lv_at hl 0 rfl) (by decide) dL_law_2604 dL_law_2605 dL_law_2607 dL_law_2608 dL_law_2609 ?_
  refine u_scr X hB (i := i) 2 hL (by omega) (lv_at hl 4 rfl) (lv_at hl 0 rfl) (by decide) dL_law_2610 dL_law_2611 dL_law_2613 dL_law_2614 dL_law_2615 ?_
  refine lv_aload_n hx hb dL_law_2616 rfl (lv_at hl 1 rfl) ?_
  refine u_goH X hB (Av := [.int (xs (i + 1)), .int (xs (i + 2))]) (rest := []) hM ⟨rfl, by decide, by decide, rfl⟩ wm_1287 wm_1288 wm_0 wm_1289 ⟨Nat.le_of_ble_eq_true rfl, Nat.le_of_ble_eq_true rfl⟩ (n := 4) rfl hl.1 (Nat.le_of_ble_eq_true rfl) ⟨by show cells + 1 ≤ 601024; omega, by show slots + 6 ≤ 7293034; omega⟩ dL_law_2617 (fun H locs f9 hy9 hB => ?_)
  refine lv_istore (lv' := [(5, .int r), (4, .int (nI i)), (3, .ref (a + 876)), (2, .ref (a + 866)), (1, .ref a), (0, .ref b)]) hx hb dL_law_2620 hl (by decide) rfl (fun ls hl => ?_)
  refine lv_aload_n hx hb dL_law_2622 rfl (lv_at hl 3 rfl) ?_
  refine u_scr X hB (i := i) 1 hL (by omega) (lv_at hl 5 rfl) (lv_at hl 1 rfl) (by decide) dL_law_2623 dL_law_2624 dL_law_2626 dL_law_2627 dL_law_2628 ?_
  refine u_scr X hB (i := i) 2 hL (by omega) (lv_at hl 5 rfl) (lv_at hl 1 rfl) (by decide) dL_law_2629 dL_law_2630 dL_law_2632 dL_law_2633 dL_law_2634 ?_
  refine u_goM hB (bk_runV X (Av := [.int (xs (i + 1)), .int (xs (i + 2))]) (rest := []) (mX9_setRate hf9) yv_X9_setRate wm_2217 ⟨Nat.le_of_ble_eq_true rfl, Nat.le_of_ble_eq_true rfl⟩ rfl rfl hl.1 kl_X9.1 (hB.2.1.obj lc_Mo_0) hB.2.1 hB.lenM hB.hM (Nat.le_of_ble_eq_true rfl) ⟨by show cells + 1 + 0 ≤ 601024; omega, by show slots + 6 + 0 ≤ 7293034; omega⟩ dL_law_2635) (fun H locs hB => ?_)
  refine W.eq (g2 := F0 m 2638 ls [.int q]) rfl ?_
  refine lv_istore (lv' := [(6, .int q), (5, .int r), (4, .int (nI i)), (3, .ref (a + 876)), (2, .ref (a + 866)), (1, .ref a), (0, .ref b)]) hx hb dL_law_2638 hl (by decide) rfl (fun ls hl => ?_)
  refine lv_aload_n hx hb dL_law_2640 rfl (lv_at hl 4 rfl) ?_
  refine u_goM hB (bk_runV X (Av := []) (rest := []) (mX9_thrown (show fX9_thrown u' = some (u' 3) from rfl)) yv_X9_thrown wm_1921 ⟨Nat.le_of_ble_eq_true rfl, Nat.le_of_ble_eq_true rfl⟩ rfl rfl hl.1 kl_X9.1 (hB.2.1.obj lc_Mo_0) hB.2.1 hB.lenM hB.hM (Nat.le_of_ble_eq_true rfl) ⟨by show cells + 1 + 0 + 0 ≤ 601024; omega, by show slots + 6 + 0 + 0 ≤ 7293034; omega⟩ dL_law_2641) (fun H locs hB => ?_)
  refine W.eq (g2 := F0 m 2644 ls [.int (u' 3)]) rfl ?_
  refine lv_iload hx hb dL_law_2644 (lv_at hl 1 rfl) ?_
  refine lv_icmp_eq (tgt := 2651) hx hb dL_law_2646 (by decide) (fun _ => ?_) (fun h => absurd ht h)
  refine lv_iload hx hb dL_law_2651 (lv_at hl 1 rfl) ?_
  refine lv_if_ne (tgt := 2668) hx hb dL_law_2653 (by decide) (fun _ => ?_) (fun h0 => ?_)
  · refine lv_goto (tgt := 3148) hx hb dL_law_2668 (by decide) ?_
    exact kk ls H locs f9 (lv_sub hl [2, 3, 4, 5, 6] rfl) hB
  · refine lv_aload_n hx hb dL_law_2656 rfl (lv_at hl 3 rfl) ?_
    refine lv_iconst (v := 0) hx hb dL_law_2657 (by decide) ?_
    refine u_out X hB dL_law_2658 ?_
    refine lv_iload hx hb dL_law_2659 (lv_at hl 0 rfl) ?_
    refine lv_i2l (v := q.toInt64) hx hb dL_law_2661 rfl ?_
    refine W.lcmp hx hb dL_law_2662 ?_
    rw [hy9 _ (hy h0), lg_self]
    refine lv_if_eq (tgt := 2668) hx hb dL_law_2663 (by decide) (fun _ => ?_) (fun h => absurd rfl h)
    refine lv_goto (tgt := 3148) hx hb dL_law_2668 (by decide) ?_
    exact kk ls H locs f9 (lv_sub hl [2, 3, 4, 5, 6] rfl) hB
theorem cL_56 {p : Program} {l : Launch} {e : Env} {s : State} {m : MethodId} {args : Array Value} {below : List Frame} {meth : Method} {c : Code} {H : Heap} {locs : List Loc} {cells slots : Nat} {Q : State → Prop} {ls : Array Slot} {D : va_G} {E : bE} {a : Nat} {v u : bM} {f : Nat → Int64} {b L : Nat} {xs : Nat → Int32} {i : Nat} {w u' : bM} {r q : Int32} {y9 : Option Int64} (X : bCx p s m args meth c RL cL_law 9 D E) (hB : uB D E a v u f b L xs s H locs) (hl : lv_has ls 9 [(4, .int (nI i)), (3, .ref (a + 876)), (2, .ref (a + 866)), (1, .ref a), (0, .ref b)]) (hL : L ≤ 3072) (hi : i + 5 < L) (hM : hMet l yL_bake cL_bake 8 [(0, 16, 19, 13), (0, 16, 23, 49), (0, 16, 27, 91)] 9 1 6 [.int (xs (i + 1)), .int (xs (i + 2)), .int (xs (i + 3)), .int (xs (i + 4)), .int (xs (i + 5))] v r w y9) (hf9 : fX9_bake (xs (i + 1)) (xs (i + 2)) (xs (i + 3)) (xs (i + 4)) (xs (i + 5)) u = some (q, u')) (ht : u' 3 = r) (hy : r = 0 → y9 = some q.toInt64) (hc : cells + 20 ≤ 601024 ∧ slots + 3830 ≤ 7293034) (kk : ∀ (ls : Array Slot) (H : Heap) (locs : List Loc) (f9 : Nat → Int64), lv_has ls 9 [(4, .int (nI i)), (3, .ref (a + 876)), (2, .ref (a + 866)), (1, .ref a), (0, .ref b)] → uB D E a w u' f9 b L xs s H locs → W p l e room_1 s m args below meth c H locs (cells + 1) (slots + 6) Q (F0 m 3148 ls [])) : W p l e room_1 s m args below meth c H locs cells slots Q (F0 m 2671 ls []) := by
  have hx := X.1
  have hb := X.2.1
  refine lv_aload_n hx hb dL_law_2671 rfl (lv_at hl 3 rfl) ?_
  refine u_scr X hB (i := i) 1 hL (by omega) (lv_at hl 4 rfl) (lv_at hl 0 rfl) (by decide) dL_law_2672 dL_law_2673 dL_law_2675 dL_law_2676 dL_law_2677 ?_
  refine u_scr X hB (i := i) 2 hL (by omega) (lv_at hl 4 rfl) (lv_at hl 0 rfl) (by decide) dL_law_2678 dL_law_2679 dL_law_2681 dL_law_2682 dL_law_2683 ?_
  refine u_scr X hB (i := i) 3 hL (by omega) (lv_at hl 4 rfl) (lv_at hl 0 rfl) (by decide) dL_law_2684 dL_law_2685 dL_law_2687 dL_law_2688 dL_law_2689 ?_
  refine u_scr X hB (i := i) 4 hL (by omega) (lv_at hl 4 rfl) (lv_at hl 0 rfl) (by decide) dL_law_2690 dL_law_2691 dL_law_2693 dL_law_2694 dL_law_2695 ?_
  refine u_scr X hB (i := i) 5 hL (by omega) (lv_at hl 4 rfl) (lv_at hl 0 rfl) (by decide) dL_law_2696 dL_law_2697 dL_law_2699 dL_law_2700 dL_law_2701 ?_
  refine lv_aload_n hx hb dL_law_2702 rfl (lv_at hl 1 rfl) ?_
  refine u_goH X hB (Av := [.int (xs (i + 1)), .int (xs (i + 2)), .int (xs (i + 3)), .int (xs (i + 4)), .int (xs (i + 5))]) (rest := []) hM ⟨rfl, by decide, by decide, rfl⟩ wm_1294 wm_1295 wm_0 wm_1296 ⟨Nat.le_of_ble_eq_true rfl, Nat.le_of_ble_eq_true rfl⟩ (n := 7) rfl hl.1 (Nat.le_of_ble_eq_true rfl) ⟨by show cells + 1 ≤ 601024; omega, by show slots + 6 ≤ 7293034; omega⟩ dL_law_2703 (fun H locs f9 hy9 hB => ?_)
  refine lv_istore (lv' := [(5, .int r), (4, .int (nI i)), (3, .ref (a + 876)), (2, .ref (a + 866)), (1, .ref a), (0, .ref b)]) hx hb dL_law_2706 hl (by decide) rfl (fun ls hl => ?_)
  refine lv_aload_n hx hb dL_law_2708 rfl (lv_at hl 3 rfl) ?_
  refine u_scr X hB (i := i) 1 hL (by omega) (lv_at hl 5 rfl) (lv_at hl 1 rfl) (by decide) dL_law_2709 dL_law_2710 dL_law_2712 dL_law_2713 dL_law_2714 ?_
  refine u_scr X hB (i := i) 2 hL (by omega) (lv_at hl 5 rfl) (lv_at hl 1 rfl) (by decide) dL_law_2715 dL_law_2716 dL_law_2718 dL_law_2719 dL_law_2720 ?_
  refine u_scr X hB (i := i) 3 hL (by omega) (lv_at hl 5 rfl) (lv_at hl 1 rfl) (by decide) dL_law_2721 dL_law_2722 dL_law_2724 dL_law_2725 dL_law_2726 ?_
  refine u_scr X hB (i := i) 4 hL (by omega) (lv_at hl 5 rfl) (lv_at hl 1 rfl) (by decide) dL_law_2727 dL_law_2728 dL_law_2730 dL_law_2731 dL_law_2732 ?_
  refine u_scr X hB (i := i) 5 hL (by omega) (lv_at hl 5 rfl) (lv_at hl 1 rfl) (by decide) dL_law_2733 dL_law_2734 dL_law_2736 dL_law_2737 dL_law_2738 ?_
  refine u_goM hB (bk_runV X (Av := [.int (xs (i + 1)), .int (xs (i + 2)), .int (xs (i + 3)), .int (xs (i + 4)), .int (xs (i + 5))]) (rest := []) (mX9_bake hf9) yv_X9_bake wm_2221 ⟨Nat.le_of_ble_eq_true rfl, Nat.le_of_ble_eq_true rfl⟩ rfl rfl hl.1 kl_X9.1 (hB.2.1.obj lc_Mo_0) hB.2.1 hB.lenM hB.hM (Nat.le_of_ble_eq_true rfl) ⟨by show cells + 1 + 0 ≤ 601024; omega, by show slots + 6 + 0 ≤ 7293034; omega⟩ dL_law_2739) (fun H locs hB => ?_)
  refine W.eq (g2 := F0 m 2742 ls [.int q]) rfl ?_
  refine lv_istore (lv' := [(6, .int q), (5, .int r), (4, .int (nI i)), (3, .ref (a + 876)), (2, .ref (a + 866)), (1, .ref a), (0, .ref b)]) hx hb dL_law_2742 hl (by decide) rfl (fun ls hl => ?_)
  refine lv_aload_n hx hb dL_law_2744 rfl (lv_at hl 4 rfl) ?_
  refine u_goM hB (bk_runV X (Av := []) (rest := []) (mX9_thrown (show fX9_thrown u' = some (u' 3) from rfl)) yv_X9_thrown wm_1921 ⟨Nat.le_of_ble_eq_true rfl, Nat.le_of_ble_eq_true rfl⟩ rfl rfl hl.1 kl_X9.1 (hB.2.1.obj lc_Mo_0) hB.2.1 hB.lenM hB.hM (Nat.le_of_ble_eq_true rfl) ⟨by show cells + 1 + 0 + 0 ≤ 601024; omega, by show slots + 6 + 0 + 0 ≤ 7293034; omega⟩ dL_law_2745) (fun H locs hB => ?_)
  refine W.eq (g2 := F0 m 2748 ls [.int (u' 3)]) rfl ?_
  refine lv_iload hx hb dL_law_2748 (lv_at hl 1 rfl) ?_
  refine lv_icmp_eq (tgt := 2755) hx hb dL_law_2750 (by decide) (fun _ => ?_) (fun h => absurd ht h)
  refine lv_iload hx hb dL_law_2755 (lv_at hl 1 rfl) ?_
  refine lv_if_ne (tgt := 2772) hx hb dL_law_2757 (by decide) (fun _ => ?_) (fun h0 => ?_)
  · refine lv_goto (tgt := 3148) hx hb dL_law_2772 (by decide) ?_
    exact kk ls H locs f9 (lv_sub hl [2, 3, 4, 5, 6] rfl) hB
  · refine lv_aload_n hx hb dL_law_2760 rfl (lv_at hl 3 rfl) ?_
    refine lv_iconst (v := 0) hx hb dL_law_2761 (by decide) ?_
    refine u_out X hB dL_law_2762 ?_
    refine lv_iload hx hb dL_law_2763 (lv_at hl 0 rfl) ?_
    refine lv_i2l (v := q.toInt64) hx hb dL_law_2765 rfl ?_
    refine W.lcmp hx hb dL_law_2766 ?_
    rw [hy9 _ (hy h0), lg_self]
    refine lv_if_eq (tgt := 2772) hx hb dL_law_2767 (by decide) (fun _ => ?_) (fun h => absurd rfl h)
    refine lv_goto (tgt := 3148) hx hb dL_law_2772 (by decide) ?_
    exact kk ls H locs f9 (lv_sub hl [2, 3, 4, 5, 6] rfl) hB
theorem cL_57 {p : Program} {l : Launch} {e : Env} {s : State} {m : MethodId} {args : Array Value} {below : List Frame} {meth : Method} {c : Code} {H : Heap} {locs : List Loc} {cells slots : Nat} {Q : State → Prop} {ls : Array Slot} {D : va_G} {E : bE} {a : Nat} {v u : bM} {f : Nat → Int64} {b L : Nat} {xs : Nat → Int32} {i : Nat} {w u' : bM} {r q : Int32} {y9 : Option Int64} (X : bCx p s m args meth c RL cL_law 9 D E) (hB : uB D E a v u f b L xs s H locs) (hl : lv_has ls 9 [(4, .int (nI i)), (3, .ref (a + 876)), (2, .ref (a + 866)), (1, .ref a), (0, .ref b)]) (hL : L ≤ 3072) (hi : i + 5 < L) (hM : hMet l yL_sell cL_sell 6 [(0, 12, 15, 13), (0, 12, 19, 49), (0, 12, 23, 91)] 9 1 6 [.int (xs (i + 1)), .int (xs (i + 2)), .int (xs (i + 3))] v r w y9) (hf9 : fX9_sell (xs (i + 1)) (xs (i + 2)) (xs (i + 3)) u = some (q, u')) (ht : u' 3 = r) (hy : r = 0 → y9 = some q.toInt64) (hc : cells + 20 ≤ 601024 ∧ slots + 3830 ≤ 7293034) (kk : ∀ (ls : Array Slot) (H : Heap) (locs : List Loc) (f9 : Nat → Int64), lv_has ls 9 [(4, .int (nI i)), (3, .ref (a + 876)), (2, .ref (a + 866)), (1, .ref a), (0, .ref b)] → uB D E a w u' f9 b L xs s H locs → W p l e room_1 s m args below meth c H locs (cells + 1) (slots + 6) Q (F0 m 3148 ls [])) : W p l e room_1 s m args below meth c H locs cells slots Q (F0 m 2775 ls []) := by
  have hx := X.1
  have hb := X.2.1
  refine lv_aload_n hx hb dL_law_2775 rfl (lv_at hl 3 rfl) ?_
  refine u_scr X hB (i := i) 1 hL (by omega) (lv_at hl 4 rfl) (lv_at hl 0 rfl) (by decide) dL_law_2776 dL_law_2777 dL_law_2779 dL_law_2780 dL_law_2781 ?_
  refine u_scr X hB (i := i) 2 hL (by omega) (lv_at hl 4 rfl) (lv_at hl 0 rfl) (by decide) dL_law_2782 dL_law_2783 dL_law_2785 dL_law_2786 dL_law_2787 ?_
  refine u_scr X hB (i := i) 3 hL (by omega) (lv_at hl 4 rfl) (lv_at hl 0 rfl) (by decide) dL_law_2788 dL_law_2789 dL_law_2791 dL_law_2792 dL_law_2793 ?_
  refine lv_aload_n hx hb dL_law_2794 rfl (lv_at hl 1 rfl) ?_
  refine u_goH X hB (Av := [.int (xs (i + 1)), .int (xs (i + 2)), .int (xs (i + 3))]) (rest := []) hM ⟨rfl, by decide, by decide, rfl⟩ wm_1302 wm_1303 wm_0 wm_1304 ⟨Nat.le_of_ble_eq_true rfl, Nat.le_of_ble_eq_true rfl⟩ (n := 5) rfl hl.1 (Nat.le_of_ble_eq_true rfl) ⟨by show cells + 1 ≤ 601024; omega, by show slots + 6 ≤ 7293034; omega⟩ dL_law_2795 (fun H locs f9 hy9 hB => ?_)
  refine lv_istore (lv' := [(5, .int r), (4, .int (nI i)), (3, .ref (a + 876)), (2, .ref (a + 866)), (1, .ref a), (0, .ref b)]) hx hb dL_law_2798 hl (by decide) rfl (fun ls hl => ?_)
  refine lv_aload_n hx hb dL_law_2800 rfl (lv_at hl 3 rfl) ?_
  refine u_scr X hB (i := i) 1 hL (by omega) (lv_at hl 5 rfl) (lv_at hl 1 rfl) (by decide) dL_law_2801 dL_law_2802 dL_law_2804 dL_law_2805 dL_law_2806 ?_
  refine u_scr X hB (i := i) 2 hL (by omega) (lv_at hl 5 rfl) (lv_at hl 1 rfl) (by decide) dL_law_2807 dL_law_2808 dL_law_2810 dL_law_2811 dL_law_2812 ?_
  refine u_scr X hB (i := i) 3 hL (by omega) (lv_at hl 5 rfl) (lv_at hl 1 rfl) (by decide) dL_law_2813 dL_law_2814 dL_law_2816 dL_law_2817 dL_law_2818 ?_
  refine u_goM hB (bk_runV X (Av := [.int (xs (i + 1)), .int (xs (i + 2)), .int (xs (i + 3))]) (rest := []) (mX9_sell hf9) yv_X9_sell wm_2225 ⟨Nat.le_of_ble_eq_true rfl, Nat.le_of_ble_eq_true rfl⟩ rfl rfl hl.1 kl_X9.1 (hB.2.1.obj lc_Mo_0) hB.2.1 hB.lenM hB.hM (Nat.le_of_ble_eq_true rfl) ⟨by show cells + 1 + 0 ≤ 601024; omega, by show slots + 6 + 0 ≤ 7293034; omega⟩ dL_law_2819) (fun H locs hB => ?_)
  refine W.eq (g2 := F0 m 2822 ls [.int q]) rfl ?_
  refine lv_istore (lv' := [(6, .int q), (5, .int r), (4, .int (nI i)), (3, .ref (a + 876)), (2, .ref (a + 866)), (1, .ref a), (0, .ref b)]) hx hb dL_law_2822 hl (by decide) rfl (fun ls hl => ?_)
  refine lv_aload_n hx hb dL_law_2824 rfl (lv_at hl 4 rfl) ?_
  refine u_goM hB (bk_runV X (Av := []) (rest := []) (mX9_thrown (show fX9_thrown u' = some (u' 3) from rfl)) yv_X9_thrown wm_1921 ⟨Nat.le_of_ble_eq_true rfl, Nat.le_of_ble_eq_true rfl⟩ rfl rfl hl.1 kl_X9.1 (hB.2.1.obj lc_Mo_0) hB.2.1 hB.lenM hB.hM (Nat.le_of_ble_eq_true rfl) ⟨by show cells + 1 + 0 + 0 ≤ 601024; omega, by show slots + 6 + 0 + 0 ≤ 7293034; omega⟩ dL_law_2825) (fun H locs hB => ?_)
  refine W.eq (g2 := F0 m 2828 ls [.int (u' 3)]) rfl ?_
  refine lv_iload hx hb dL_law_2828 (lv_at hl 1 rfl) ?_
  refine lv_icmp_eq (tgt := 2835) hx hb dL_law_2830 (by decide) (fun _ => ?_) (fun h => absurd ht h)
  refine lv_iload hx hb dL_law_2835 (lv_at hl 1 rfl) ?_
  refine lv_if_ne (tgt := 2852) hx hb dL_law_2837 (by decide) (fun _ => ?_) (fun h0 => ?_)
  · refine lv_goto (tgt := 3148) hx hb dL_law_2852 (by decide) ?_
    exact kk ls H locs f9 (lv_sub hl [2, 3, 4, 5, 6] rfl) hB
  · refine lv_aload_n hx hb dL_law_2840 rfl (lv_at hl 3 rfl) ?_
    refine lv_iconst (v := 0) hx hb dL_law_2841 (by decide) ?_
    refine u_out X hB dL_law_2842 ?_
    refine lv_iload hx hb dL_law_2843 (lv_at hl 0 rfl) ?_
    refine lv_i2l (v := q.toInt64) hx hb dL_law_2845 rfl ?_
    refine W.lcmp hx hb dL_law_2846 ?_
    rw [hy9 _ (hy h0), lg_self]
    refine lv_if_eq (tgt := 2852) hx hb dL_law_2847 (by decide) (fun _ => ?_) (fun h => absurd rfl h)
    refine lv_goto (tgt := 3148) hx hb dL_law_2852 (by decide) ?_
    exact kk ls H locs f9 (lv_sub hl [2, 3, 4, 5, 6] rfl) hB
theorem cL_58 {p : Program} {l : Launch} {e : Env} {s : State} {m : MethodId} {args : Array Value} {below : List Frame} {meth : Method} {c : Code} {H : Heap} {locs : List Loc} {cells slots : Nat} {Q : State → Prop} {ls : Array Slot} {D : va_G} {E : bE} {a : Nat} {v u : bM} {f : Nat → Int64} {b L : Nat} {xs : Nat → Int32} {i : Nat} {w u' : bM} {r q : Int32} {y9 : Option Int64} (X : bCx p s m args meth c RL cL_law 9 D E) (hB : uB D E a v u f b L xs s H locs) (hl : lv_has ls 9 [(4, .int (nI i)), (3, .ref (a + 876)), (2, .ref (a + 866)), (1, .ref a), (0, .ref b)]) (hL : L ≤ 3072) (hi : i + 5 < L) (hM : hMet l yL_waitMinutes cL_waitMinutes 4 [(0, 9, 12, 49)] 8 1 6 [.int (xs (i + 1))] v r w y9) (hf9 : fX9_waitMinutes (xs (i + 1)) u = some (q, u')) (ht : u' 3 = r) (hy : r = 0 → y9 = some q.toInt64) (hc : cells + 20 ≤ 601024 ∧ slots + 3830 ≤ 7293034) (kk : ∀ (ls : Array Slot) (H : Heap) (locs : List Loc) (f9 : Nat → Int64), lv_has ls 9 [(4, .int (nI i)), (3, .ref (a + 876)), (2, .ref (a + 866)), (1, .ref a), (0, .ref b)] → uB D E a w u' f9 b L xs s H locs → W p l e room_1 s m args below meth c H locs (cells + 1) (slots + 6) Q (F0 m 3148 ls [])) : W p l e room_1 s m args below meth c H locs cells slots Q (F0 m 2855 ls []) := by
  have hx := X.1
  have hb := X.2.1
  refine lv_aload_n hx hb dL_law_2855 rfl (lv_at hl 3 rfl) ?_
  refine u_scr X hB (i := i) 1 hL (by omega) (lv_at hl 4 rfl) (lv_at hl 0 rfl) (by decide) dL_law_2856 dL_law_2857 dL_law_2859 dL_law_2860 dL_law_2861 ?_
  refine lv_aload_n hx hb dL_law_2862 rfl (lv_at hl 1 rfl) ?_
  refine u_goH X hB (Av := [.int (xs (i + 1))]) (rest := []) hM ⟨rfl, by decide, by decide, rfl⟩ wm_1310 wm_1311 wm_0 wm_1312 ⟨Nat.le_of_ble_eq_true rfl, Nat.le_of_ble_eq_true rfl⟩ (n := 3) rfl hl.1 (Nat.le_of_ble_eq_true rfl) ⟨by show cells + 1 ≤ 601024; omega, by show slots + 6 ≤ 7293034; omega⟩ dL_law_2863 (fun H locs f9 hy9 hB => ?_)
  refine lv_istore (lv' := [(5, .int r), (4, .int (nI i)), (3, .ref (a + 876)), (2, .ref (a + 866)), (1, .ref a), (0, .ref b)]) hx hb dL_law_2866 hl (by decide) rfl (fun ls hl => ?_)
  refine lv_aload_n hx hb dL_law_2868 rfl (lv_at hl 3 rfl) ?_
  refine u_scr X hB (i := i) 1 hL (by omega) (lv_at hl 5 rfl) (lv_at hl 1 rfl) (by decide) dL_law_2869 dL_law_2870 dL_law_2872 dL_law_2873 dL_law_2874 ?_
  refine u_goM hB (bk_runV X (Av := [.int (xs (i + 1))]) (rest := []) (mX9_waitMinutes hf9) yv_X9_waitMinutes wm_2229 ⟨Nat.le_of_ble_eq_true rfl, Nat.le_of_ble_eq_true rfl⟩ rfl rfl hl.1 kl_X9.1 (hB.2.1.obj lc_Mo_0) hB.2.1 hB.lenM hB.hM (Nat.le_of_ble_eq_true rfl) ⟨by show cells + 1 + 0 ≤ 601024; omega, by show slots + 6 + 0 ≤ 7293034; omega⟩ dL_law_2875) (fun H locs hB => ?_)
  refine W.eq (g2 := F0 m 2878 ls [.int q]) rfl ?_
  refine lv_istore (lv' := [(6, .int q), (5, .int r), (4, .int (nI i)), (3, .ref (a + 876)), (2, .ref (a + 866)), (1, .ref a), (0, .ref b)]) hx hb dL_law_2878 hl (by decide) rfl (fun ls hl => ?_)
  refine lv_aload_n hx hb dL_law_2880 rfl (lv_at hl 4 rfl) ?_
  refine u_goM hB (bk_runV X (Av := []) (rest := []) (mX9_thrown (show fX9_thrown u' = some (u' 3) from rfl)) yv_X9_thrown wm_1921 ⟨Nat.le_of_ble_eq_true rfl, Nat.le_of_ble_eq_true rfl⟩ rfl rfl hl.1 kl_X9.1 (hB.2.1.obj lc_Mo_0) hB.2.1 hB.lenM hB.hM (Nat.le_of_ble_eq_true rfl) ⟨by show cells + 1 + 0 + 0 ≤ 601024; omega, by show slots + 6 + 0 + 0 ≤ 7293034; omega⟩ dL_law_2881) (fun H locs hB => ?_)
  refine W.eq (g2 := F0 m 2884 ls [.int (u' 3)]) rfl ?_
  refine lv_iload hx hb dL_law_2884 (lv_at hl 1 rfl) ?_
  refine lv_icmp_eq (tgt := 2891) hx hb dL_law_2886 (by decide) (fun _ => ?_) (fun h => absurd ht h)
  refine lv_iload hx hb dL_law_2891 (lv_at hl 1 rfl) ?_
  refine lv_if_ne (tgt := 2908) hx hb dL_law_2893 (by decide) (fun _ => ?_) (fun h0 => ?_)
  · refine lv_goto (tgt := 3148) hx hb dL_law_2908 (by decide) ?_
    exact kk ls H locs f9 (lv_sub hl [2, 3, 4, 5, 6] rfl) hB
  · refine lv_aload_n hx hb dL_law_2896 rfl (lv_at hl 3 rfl) ?_
    refine lv_iconst (v := 0) hx hb dL_law_2897 (by decide) ?_
    refine u_out X hB dL_law_2898 ?_
    refine lv_iload hx hb dL_law_2899 (lv_at hl 0 rfl) ?_
    refine lv_i2l (v := q.toInt64) hx hb dL_law_2901 rfl ?_
    refine W.lcmp hx hb dL_law_2902 ?_
    rw [hy9 _ (hy h0), lg_self]
    refine lv_if_eq (tgt := 2908) hx hb dL_law_2903 (by decide) (fun _ => ?_) (fun h => absurd rfl h)
    refine lv_goto (tgt := 3148) hx hb dL_law_2908 (by decide) ?_
    exact kk ls H locs f9 (lv_sub hl [2, 3, 4, 5, 6] rfl) hB
theorem cL_59 {p : Program} {l : Launch} {e : Env} {s : State} {m : MethodId} {args : Array Value} {below : List Frame} {meth : Method} {c : Code} {H : Heap} {locs : List Loc} {cells slots : Nat} {Q : State → Prop} {ls : Array Slot} {D : va_G} {E : bE} {a : Nat} {v u : bM} {f : Nat → Int64} {b L : Nat} {xs : Nat → Int32} {i : Nat} {w u' : bM} {r q : Int32} {y9 : Option Int64} (X : bCx p s m args meth c RL cL_law 9 D E) (hB : uB D E a v u f b L xs s H locs) (hl : lv_has ls 9 [(4, .int (nI i)), (3, .ref (a + 876)), (2, .ref (a + 866)), (1, .ref a), (0, .ref b)]) (hL : L ≤ 3072) (hi : i + 5 < L) (hM : hMet l yL_undo cL_undo 3 [(0, 8, 11, 91)] 8 1 6 [] v r w y9) (hf9 : fX9_undo  u = some (q, u')) (ht : u' 3 = r) (hy : r = 0 → y9 = some q.toInt64) (hc : cells + 20 ≤ 601024 ∧ slots + 3830 ≤ 7293034) (kk : ∀ (ls : Array Slot) (H : Heap) (locs : List Loc) (f9 : Nat → Int64), lv_has ls 9 [(4, .int (nI i)), (3, .ref (a + 876)), (2, .ref (a + 866)), (1, .ref a), (0, .ref b)] → uB D E a w u' f9 b L xs s H locs → W p l e room_1 s m args below meth c H locs (cells + 1) (slots + 6) Q (F0 m 3148 ls [])) : W p l e room_1 s m args below meth c H locs cells slots Q (F0 m 2911 ls []) := by
  have hx := X.1
  have hb := X.2.1
  refine lv_aload_n hx hb dL_law_2911 rfl (lv_at hl 3 rfl) ?_
  refine lv_aload_n hx hb dL_law_2912 rfl (lv_at hl 1 rfl) ?_
  refine u_goH X hB (Av := []) (rest := []) hM ⟨rfl, by decide, by decide, rfl⟩ wm_1317 wm_1318 wm_0 wm_1319 ⟨Nat.le_of_ble_eq_true rfl, Nat.le_of_ble_eq_true rfl⟩ (n := 2) rfl hl.1 (Nat.le_of_ble_eq_true rfl) ⟨by show cells + 1 ≤ 601024; omega, by show slots + 6 ≤ 7293034; omega⟩ dL_law_2913 (fun H locs f9 hy9 hB => ?_)
  refine lv_istore (lv' := [(5, .int r), (4, .int (nI i)), (3, .ref (a + 876)), (2, .ref (a + 866)), (1, .ref a), (0, .ref b)]) hx hb dL_law_2916 hl (by decide) rfl (fun ls hl => ?_)
  refine lv_aload_n hx hb dL_law_2918 rfl (lv_at hl 3 rfl) ?_
  refine u_goM hB (bk_runV X (Av := []) (rest := []) (mX9_undo hf9) yv_X9_undo wm_2233 ⟨Nat.le_of_ble_eq_true rfl, Nat.le_of_ble_eq_true rfl⟩ rfl rfl hl.1 kl_X9.1 (hB.2.1.obj lc_Mo_0) hB.2.1 hB.lenM hB.hM (Nat.le_of_ble_eq_true rfl) ⟨by show cells + 1 + 0 ≤ 601024; omega, by show slots + 6 + 0 ≤ 7293034; omega⟩ dL_law_2919) (fun H locs hB => ?_)
  refine W.eq (g2 := F0 m 2922 ls [.int q]) rfl ?_
  refine lv_istore (lv' := [(6, .int q), (5, .int r), (4, .int (nI i)), (3, .ref (a + 876)), (2, .ref (a + 866)), (1, .ref a), (0, .ref b)]) hx hb dL_law_2922 hl (by decide) rfl (fun ls hl => ?_)
  refine lv_aload_n hx hb dL_law_2924 rfl (lv_at hl 4 rfl) ?_
  refine u_goM hB (bk_runV X (Av := []) (rest := []) (mX9_thrown (show fX9_thrown u' = some (u' 3) from rfl)) yv_X9_thrown wm_1921 ⟨Nat.le_of_ble_eq_true rfl, Nat.le_of_ble_eq_true rfl⟩ rfl rfl hl.1 kl_X9.1 (hB.2.1.obj lc_Mo_0) hB.2.1 hB.lenM hB.hM (Nat.le_of_ble_eq_true rfl) ⟨by show cells + 1 + 0 + 0 ≤ 601024; omega, by show slots + 6 + 0 + 0 ≤ 7293034; omega⟩ dL_law_2925) (fun H locs hB => ?_)
  refine W.eq (g2 := F0 m 2928 ls [.int (u' 3)]) rfl ?_
  refine lv_iload hx hb dL_law_2928 (lv_at hl 1 rfl) ?_
  refine lv_icmp_eq (tgt := 2935) hx hb dL_law_2930 (by decide) (fun _ => ?_) (fun h => absurd ht h)
  refine lv_iload hx hb dL_law_2935 (lv_at hl 1 rfl) ?_
  refine lv_if_ne (tgt := 2952) hx hb dL_law_2937 (by decide) (fun _ => ?_) (fun h0 => ?_)
  · refine lv_goto (tgt := 3148) hx hb dL_law_2952 (by decide) ?_
    exact kk ls H locs f9 (lv_sub hl [2, 3, 4, 5, 6] rfl) hB
  · refine lv_aload_n hx hb dL_law_2940 rfl (lv_at hl 3 rfl) ?_
    refine lv_iconst (v := 0) hx hb dL_law_2941 (by decide) ?_
    refine u_out X hB dL_law_2942 ?_
    refine lv_iload hx hb dL_law_2943 (lv_at hl 0 rfl) ?_
    refine lv_i2l (v := q.toInt64) hx hb dL_law_2945 rfl ?_
    refine W.lcmp hx hb dL_law_2946 ?_
    rw [hy9 _ (hy h0), lg_self]
    refine lv_if_eq (tgt := 2952) hx hb dL_law_2947 (by decide) (fun _ => ?_) (fun h => absurd rfl h)
    refine lv_goto (tgt := 3148) hx hb dL_law_2952 (by decide) ?_
    exact kk ls H locs f9 (lv_sub hl [2, 3, 4, 5, 6] rfl) hB
theorem cL_60 {p : Program} {l : Launch} {e : Env} {s : State} {m : MethodId} {args : Array Value} {below : List Frame} {meth : Method} {c : Code} {H : Heap} {locs : List Loc} {cells slots : Nat} {Q : State → Prop} {ls : Array Slot} {D : va_G} {E : bE} {a : Nat} {v u : bM} {f : Nat → Int64} {b L : Nat} {xs : Nat → Int32} {i : Nat} {w u' : bM} {r q : Int32} {y9 : Option Int64} (X : bCx p s m args meth c RL cL_law 9 D E) (hB : uB D E a v u f b L xs s H locs) (hl : lv_has ls 9 [(4, .int (nI i)), (3, .ref (a + 876)), (2, .ref (a + 866)), (1, .ref a), (0, .ref b)]) (hL : L ≤ 3072) (hi : i + 5 < L) (hM : hMet l yL_save cL_save 4 [(0, 9, 12, 49)] 8 1 6 [.int (xs (i + 1))] v r w y9) (hf9 : fX9_save (xs (i + 1)) u = some (q, u')) (ht : u' 3 = r) (hy : r = 0 → y9 = some q.toInt64) (hc : cells + 20 ≤ 601024 ∧ slots + 3830 ≤ 7293034) (kk : ∀ (ls : Array Slot) (H : Heap) (locs : List Loc) (f9 : Nat → Int64), lv_has ls 9 [(4, .int (nI i)), (3, .ref (a + 876)), (2, .ref (a + 866)), (1, .ref a), (0, .ref b)] → uB D E a w u' f9 b L xs s H locs → W p l e room_1 s m args below meth c H locs (cells + 1) (slots + 6) Q (F0 m 3148 ls [])) : W p l e room_1 s m args below meth c H locs cells slots Q (F0 m 2955 ls []) := by
  have hx := X.1
  have hb := X.2.1
  refine lv_aload_n hx hb dL_law_2955 rfl (lv_at hl 3 rfl) ?_
  refine u_scr X hB (i := i) 1 hL (by omega) (lv_at hl 4 rfl) (lv_at hl 0 rfl) (by decide) dL_law_2956 dL_law_2957 dL_law_2959 dL_law_2960 dL_law_2961 ?_
  refine lv_aload_n hx hb dL_law_2962 rfl (lv_at hl 1 rfl) ?_
  refine u_goH X hB (Av := [.int (xs (i + 1))]) (rest := []) hM ⟨rfl, by decide, by decide, rfl⟩ wm_1328 wm_1329 wm_0 wm_1330 ⟨Nat.le_of_ble_eq_true rfl, Nat.le_of_ble_eq_true rfl⟩ (n := 3) rfl hl.1 (Nat.le_of_ble_eq_true rfl) ⟨by show cells + 1 ≤ 601024; omega, by show slots + 6 ≤ 7293034; omega⟩ dL_law_2963 (fun H locs f9 hy9 hB => ?_)
  refine lv_istore (lv' := [(5, .int r), (4, .int (nI i)), (3, .ref (a + 876)), (2, .ref (a + 866)), (1, .ref a), (0, .ref b)]) hx hb dL_law_2966 hl (by decide) rfl (fun ls hl => ?_)
  refine lv_aload_n hx hb dL_law_2968 rfl (lv_at hl 3 rfl) ?_
  refine u_scr X hB (i := i) 1 hL (by omega) (lv_at hl 5 rfl) (lv_at hl 1 rfl) (by decide) dL_law_2969 dL_law_2970 dL_law_2972 dL_law_2973 dL_law_2974 ?_
  refine u_goM hB (bk_runV X (Av := [.int (xs (i + 1))]) (rest := []) (mX9_save hf9) yv_X9_save wm_2237 ⟨Nat.le_of_ble_eq_true rfl, Nat.le_of_ble_eq_true rfl⟩ rfl rfl hl.1 kl_X9.1 (hB.2.1.obj lc_Mo_0) hB.2.1 hB.lenM hB.hM (Nat.le_of_ble_eq_true rfl) ⟨by show cells + 1 + 0 ≤ 601024; omega, by show slots + 6 + 0 ≤ 7293034; omega⟩ dL_law_2975) (fun H locs hB => ?_)
  refine W.eq (g2 := F0 m 2978 ls [.int q]) rfl ?_
  refine lv_istore (lv' := [(6, .int q), (5, .int r), (4, .int (nI i)), (3, .ref (a + 876)), (2, .ref (a + 866)), (1, .ref a), (0, .ref b)]) hx hb dL_law_2978 hl (by decide) rfl (fun ls hl => ?_)
  refine lv_aload_n hx hb dL_law_2980 rfl (lv_at hl 4 rfl) ?_
  refine u_goM hB (bk_runV X (Av := []) (rest := []) (mX9_thrown (show fX9_thrown u' = some (u' 3) from rfl)) yv_X9_thrown wm_1921 ⟨Nat.le_of_ble_eq_true rfl, Nat.le_of_ble_eq_true rfl⟩ rfl rfl hl.1 kl_X9.1 (hB.2.1.obj lc_Mo_0) hB.2.1 hB.lenM hB.hM (Nat.le_of_ble_eq_true rfl) ⟨by show cells + 1 + 0 + 0 ≤ 601024; omega, by show slots + 6 + 0 + 0 ≤ 7293034; omega⟩ dL_law_2981) (fun H locs hB => ?_)
  refine W.eq (g2 := F0 m 2984 ls [.int (u' 3)]) rfl ?_
  refine lv_iload hx hb dL_law_2984 (lv_at hl 1 rfl) ?_
  refine lv_icmp_eq (tgt := 2991) hx hb dL_law_2986 (by decide) (fun _ => ?_) (fun h => absurd ht h)
  refine lv_iload hx hb dL_law_2991 (lv_at hl 1 rfl) ?_
  refine lv_if_ne (tgt := 3008) hx hb dL_law_2993 (by decide) (fun _ => ?_) (fun h0 => ?_)
  · refine lv_goto (tgt := 3148) hx hb dL_law_3008 (by decide) ?_
    exact kk ls H locs f9 (lv_sub hl [2, 3, 4, 5, 6] rfl) hB
  · refine lv_aload_n hx hb dL_law_2996 rfl (lv_at hl 3 rfl) ?_
    refine lv_iconst (v := 0) hx hb dL_law_2997 (by decide) ?_
    refine u_out X hB dL_law_2998 ?_
    refine lv_iload hx hb dL_law_2999 (lv_at hl 0 rfl) ?_
    refine lv_i2l (v := q.toInt64) hx hb dL_law_3001 rfl ?_
    refine W.lcmp hx hb dL_law_3002 ?_
    rw [hy9 _ (hy h0), lg_self]
    refine lv_if_eq (tgt := 3008) hx hb dL_law_3003 (by decide) (fun _ => ?_) (fun h => absurd rfl h)
    refine lv_goto (tgt := 3148) hx hb dL_law_3008 (by decide) ?_
    exact kk ls H locs f9 (lv_sub hl [2, 3, 4, 5, 6] rfl) hB
theorem cL_61 {p : Program} {l : Launch} {e : Env} {s : State} {m : MethodId} {args : Array Value} {below : List Frame} {meth : Method} {c : Code} {H : Heap} {locs : List Loc} {cells slots : Nat} {Q : State → Prop} {ls : Array Slot} {D : va_G} {E : bE} {a : Nat} {v u : bM} {f : Nat → Int64} {b L : Nat} {xs : Nat → Int32} {i : Nat} {w u' : bM} {r q : Int32} {y9 : Option Int64} (X : bCx p s m args meth c RL cL_law 9 D E) (hB : uB D E a v u f b L xs s H locs) (hl : lv_has ls 9 [(4, .int (nI i)), (3, .ref (a + 876)), (2, .ref (a + 866)), (1, .ref a), (0, .ref b)]) (hL : L ≤ 3072) (hi : i + 5 < L) (hM : hMet l yL_restore cL_restore 4 [(0, 9, 12, 49), (0, 9, 15, 132)] 8 1 6 [.int (xs (i + 1))] v r w y9) (hf9 : fX9_restore (xs (i + 1)) u = some (q, u')) (ht : u' 3 = r) (hy : r = 0 → y9 = some q.toInt64) (hc : cells + 20 ≤ 601024 ∧ slots + 3830 ≤ 7293034) (kk : ∀ (ls : Array Slot) (H : Heap) (locs : List Loc) (f9 : Nat → Int64), lv_has ls 9 [(4, .int (nI i)), (3, .ref (a + 876)), (2, .ref (a + 866)), (1, .ref a), (0, .ref b)] → uB D E a w u' f9 b L xs s H locs → W p l e room_1 s m args below meth c H locs (cells + 1) (slots + 6) Q (F0 m 3148 ls [])) : W p l e room_1 s m args below meth c H locs cells slots Q (F0 m 3011 ls []) := by
  have hx := X.1
  have hb := X.2.1
  refine lv_aload_n hx hb dL_law_3011 rfl (lv_at hl 3 rfl) ?_
  refine u_scr X hB (i := i) 1 hL (by omega) (lv_at hl 4 rfl) (lv_at hl 0 rfl) (by decide) dL_law_3012 dL_law_3013 dL_law_3015 dL_law_3016 dL_law_3017 ?_
  refine lv_aload_n hx hb dL_law_3018 rfl (lv_at hl 1 rfl) ?_
  refine u_goH X hB (Av := [.int (xs (i + 1))]) (rest := []) hM ⟨rfl, by decide, by decide, rfl⟩ wm_1335 wm_1336 wm_0 wm_1337 ⟨Nat.le_of_ble_eq_true rfl, Nat.le_of_ble_eq_true rfl⟩ (n := 3) rfl hl.1 (Nat.le_of_ble_eq_true rfl) ⟨by show cells + 1 ≤ 601024; omega, by show slots + 6 ≤ 7293034; omega⟩ dL_law_3019 (fun H locs f9 hy9 hB => ?_)
  refine lv_istore (lv' := [(5, .int r), (4, .int (nI i)), (3, .ref (a + 876)), (2, .ref (a + 866)), (1, .ref a), (0, .ref b)]) hx hb dL_law_3022 hl (by decide) rfl (fun ls hl => ?_)
  refine lv_aload_n hx hb dL_law_3024 rfl (lv_at hl 3 rfl) ?_
  refine u_scr X hB (i := i) 1 hL (by omega) (lv_at hl 5 rfl) (lv_at hl 1 rfl) (by decide) dL_law_3025 dL_law_3026 dL_law_3028 dL_law_3029 dL_law_3030 ?_
  refine u_goM hB (bk_runV X (Av := [.int (xs (i + 1))]) (rest := []) (mX9_restore hf9) yv_X9_restore wm_2241 ⟨Nat.le_of_ble_eq_true rfl, Nat.le_of_ble_eq_true rfl⟩ rfl rfl hl.1 kl_X9.1 (hB.2.1.obj lc_Mo_0) hB.2.1 hB.lenM hB.hM (Nat.le_of_ble_eq_true rfl) ⟨by show cells + 1 + 0 ≤ 601024; omega, by show slots + 6 + 0 ≤ 7293034; omega⟩ dL_law_3031) (fun H locs hB => ?_)
  refine W.eq (g2 := F0 m 3034 ls [.int q]) rfl ?_
  refine lv_istore (lv' := [(6, .int q), (5, .int r), (4, .int (nI i)), (3, .ref (a + 876)), (2, .ref (a + 866)), (1, .ref a), (0, .ref b)]) hx hb dL_law_3034 hl (by decide) rfl (fun ls hl => ?_)
  refine lv_aload_n hx hb dL_law_3036 rfl (lv_at hl 4 rfl) ?_
  refine u_goM hB (bk_runV X (Av := []) (rest := []) (mX9_thrown (show fX9_thrown u' = some (u' 3) from rfl)) yv_X9_thrown wm_1921 ⟨Nat.le_of_ble_eq_true rfl, Nat.le_of_ble_eq_true rfl⟩ rfl rfl hl.1 kl_X9.1 (hB.2.1.obj lc_Mo_0) hB.2.1 hB.lenM hB.hM (Nat.le_of_ble_eq_true rfl) ⟨by show cells + 1 + 0 + 0 ≤ 601024; omega, by show slots + 6 + 0 + 0 ≤ 7293034; omega⟩ dL_law_3037) (fun H locs hB => ?_)
  refine W.eq (g2 := F0 m 3040 ls [.int (u' 3)]) rfl ?_
  refine lv_iload hx hb dL_law_3040 (lv_at hl 1 rfl) ?_
  refine lv_icmp_eq (tgt := 3047) hx hb dL_law_3042 (by decide) (fun _ => ?_) (fun h => absurd ht h)
  refine lv_iload hx hb dL_law_3047 (lv_at hl 1 rfl) ?_
  refine lv_if_ne (tgt := 3064) hx hb dL_law_3049 (by decide) (fun _ => ?_) (fun h0 => ?_)
  · refine lv_goto (tgt := 3148) hx hb dL_law_3064 (by decide) ?_
    exact kk ls H locs f9 (lv_sub hl [2, 3, 4, 5, 6] rfl) hB
  · refine lv_aload_n hx hb dL_law_3052 rfl (lv_at hl 3 rfl) ?_
    refine lv_iconst (v := 0) hx hb dL_law_3053 (by decide) ?_
    refine u_out X hB dL_law_3054 ?_
    refine lv_iload hx hb dL_law_3055 (lv_at hl 0 rfl) ?_
    refine lv_i2l (v := q.toInt64) hx hb dL_law_3057 rfl ?_
    refine W.lcmp hx hb dL_law_3058 ?_
    rw [hy9 _ (hy h0), lg_self]
    refine lv_if_eq (tgt := 3064) hx hb dL_law_3059 (by decide) (fun _ => ?_) (fun h => absurd rfl h)
    refine lv_goto (tgt := 3148) hx hb dL_law_3064 (by decide) ?_
    exact kk ls H locs f9 (lv_sub hl [2, 3, 4, 5, 6] rfl) hB
theorem cL_62 {p : Program} {l : Launch} {e : Env} {s : State} {m : MethodId} {args : Array Value} {below : List Frame} {meth : Method} {c : Code} {H : Heap} {locs : List Loc} {cells slots : Nat} {Q : State → Prop} {ls : Array Slot} {D : va_G} {E : bE} {a : Nat} {v u : bM} {f : Nat → Int64} {b L : Nat} {xs : Nat → Int32} {i : Nat} {w u' : bM} {r q : Int32} {y9 : Option Int64} (X : bCx p s m args meth c RL cL_law 9 D E) (hB : uB D E a v u f b L xs s H locs) (hl : lv_has ls 9 [(4, .int (nI i)), (3, .ref (a + 876)), (2, .ref (a + 866)), (1, .ref a), (0, .ref b)]) (hL : L ≤ 3072) (hi : i + 5 < L) (hM : hMet l yL_writeBatch cL_writeBatch 4 [(0, 9, 12, 13)] 9 19 3819 [.int (xs (i + 1))] v r w y9) (hf9 : fX9_writeBatch (xs (i + 1)) u = some (q, u')) (ht : u' 3 = r) (hy : r = 0 → y9 = some q.toInt64) (hc : cells + 20 ≤ 601024 ∧ slots + 3830 ≤ 7293034) (kk : ∀ (ls : Array Slot) (H : Heap) (locs : List Loc) (f9 : Nat → Int64), lv_has ls 9 [(4, .int (nI i)), (3, .ref (a + 876)), (2, .ref (a + 866)), (1, .ref a), (0, .ref b)] → uB D E a w u' f9 b L xs s H locs → W p l e room_1 s m args below meth c H locs (cells + 19) (slots + 3819) Q (F0 m 3148 ls [])) : W p l e room_1 s m args below meth c H locs cells slots Q (F0 m 3067 ls []) := by
  have hx := X.1
  have hb := X.2.1
  refine lv_aload_n hx hb dL_law_3067 rfl (lv_at hl 3 rfl) ?_
  refine u_scr X hB (i := i) 1 hL (by omega) (lv_at hl 4 rfl) (lv_at hl 0 rfl) (by decide) dL_law_3068 dL_law_3069 dL_law_3071 dL_law_3072 dL_law_3073 ?_
  refine lv_aload_n hx hb dL_law_3074 rfl (lv_at hl 1 rfl) ?_
  refine u_goH X hB (Av := [.int (xs (i + 1))]) (rest := []) hM ⟨rfl, by decide, by decide, rfl⟩ wm_1359 wm_1360 wm_0 wm_1361 ⟨Nat.le_of_ble_eq_true rfl, Nat.le_of_ble_eq_true rfl⟩ (n := 3) rfl hl.1 (Nat.le_of_ble_eq_true rfl) ⟨by show cells + 19 ≤ 601024; omega, by show slots + 3819 ≤ 7293034; omega⟩ dL_law_3075 (fun H locs f9 hy9 hB => ?_)
  refine lv_istore (lv' := [(5, .int r), (4, .int (nI i)), (3, .ref (a + 876)), (2, .ref (a + 866)), (1, .ref a), (0, .ref b)]) hx hb dL_law_3078 hl (by decide) rfl (fun ls hl => ?_)
  refine lv_aload_n hx hb dL_law_3080 rfl (lv_at hl 3 rfl) ?_
  refine u_scr X hB (i := i) 1 hL (by omega) (lv_at hl 5 rfl) (lv_at hl 1 rfl) (by decide) dL_law_3081 dL_law_3082 dL_law_3084 dL_law_3085 dL_law_3086 ?_
  refine u_goM hB (bk_runV X (Av := [.int (xs (i + 1))]) (rest := []) (mX9_writeBatch hf9) yv_X9_writeBatch wm_2245 ⟨Nat.le_of_ble_eq_true rfl, Nat.le_of_ble_eq_true rfl⟩ rfl rfl hl.1 kl_X9.1 (hB.2.1.obj lc_Mo_0) hB.2.1 hB.lenM hB.hM (Nat.le_of_ble_eq_true rfl) ⟨by show cells + 19 + 0 ≤ 601024; omega, by show slots + 3819 + 0 ≤ 7293034; omega⟩ dL_law_3087) (fun H locs hB => ?_)
  refine W.eq (g2 := F0 m 3090 ls [.int q]) rfl ?_
  refine lv_istore (lv' := [(6, .int q), (5, .int r), (4, .int (nI i)), (3, .ref (a + 876)), (2, .ref (a + 866)), (1, .ref a), (0, .ref b)]) hx hb dL_law_3090 hl (by decide) rfl (fun ls hl => ?_)
  refine lv_aload_n hx hb dL_law_3092 rfl (lv_at hl 4 rfl) ?_
  refine u_goM hB (bk_runV X (Av := []) (rest := []) (mX9_thrown (show fX9_thrown u' = some (u' 3) from rfl)) yv_X9_thrown wm_1921 ⟨Nat.le_of_ble_eq_true rfl, Nat.le_of_ble_eq_true rfl⟩ rfl rfl hl.1 kl_X9.1 (hB.2.1.obj lc_Mo_0) hB.2.1 hB.lenM hB.hM (Nat.le_of_ble_eq_true rfl) ⟨by show cells + 19 + 0 + 0 ≤ 601024; omega, by show slots + 3819 + 0 + 0 ≤ 7293034; omega⟩ dL_law_3093) (fun H locs hB => ?_)
  refine W.eq (g2 := F0 m 3096 ls [.int (u' 3)]) rfl ?_
  refine lv_iload hx hb dL_law_3096 (lv_at hl 1 rfl) ?_
  refine lv_icmp_eq (tgt := 3103) hx hb dL_law_3098 (by decide) (fun _ => ?_) (fun h => absurd ht h)
  refine lv_iload hx hb dL_law_3103 (lv_at hl 1 rfl) ?_
  refine lv_if_ne (tgt := 3120) hx hb dL_law_3105 (by decide) (fun _ => ?_) (fun h0 => ?_)
  · refine lv_goto (tgt := 3148) hx hb dL_law_3120 (by decide) ?_
    exact kk ls H locs f9 (lv_sub hl [2, 3, 4, 5, 6] rfl) hB
  · refine lv_aload_n hx hb dL_law_3108 rfl (lv_at hl 3 rfl) ?_
    refine lv_iconst (v := 0) hx hb dL_law_3109 (by decide) ?_
    refine u_out X hB dL_law_3110 ?_
    refine lv_iload hx hb dL_law_3111 (lv_at hl 0 rfl) ?_
    refine lv_i2l (v := q.toInt64) hx hb dL_law_3113 rfl ?_
    refine W.lcmp hx hb dL_law_3114 ?_
    rw [hy9 _ (hy h0), lg_self]
    refine lv_if_eq (tgt := 3120) hx hb dL_law_3115 (by decide) (fun _ => ?_) (fun h => absurd rfl h)
    refine lv_goto (tgt := 3148) hx hb dL_law_3120 (by decide) ?_
    exact kk ls H locs f9 (lv_sub hl [2, 3, 4, 5, 6] rfl) hB
theorem cL_63 {p : Program} {l : Launch} {e : Env} {s : State} {m : MethodId} {args : Array Value} {below : List Frame} {meth : Method} {c : Code} {H : Heap} {locs : List Loc} {cells slots : Nat} {Q : State → Prop} {ls : Array Slot} {D : va_G} {E : bE} {a : Nat} {v u : bM} {f : Nat → Int64} {b L : Nat} {xs : Nat → Int32} {i : Nat} {v' u' : bM} {r : Int32} (X : bCx p s m args meth c RL cL_law 9 D E) (hB : uB D E a v u f b L xs s H locs) (hl : lv_has ls 9 [(4, .int (nI i)), (3, .ref (a + 876)), (2, .ref (a + 866)), (1, .ref a), (0, .ref b)]) (hL : L ≤ 3072) (hi : i + 5 < L) (hf8 : fX8_outputByte (xs (i + 1)) v = some r) (hf9 : fX9_outputByte (xs (i + 1)) u = some (r, u')) (hc : cells + 20 ≤ 601024 ∧ slots + 3830 ≤ 7293034) (kk : ∀ (ls : Array Slot) (H : Heap) (locs : List Loc), lv_has ls 9 [(4, .int (nI i)), (3, .ref (a + 876)), (2, .ref (a + 866)), (1, .ref a), (0, .ref b)] → uB D E a v u' f b L xs s H locs → W p l e room_1 s m args below meth c H locs cells slots Q (F0 m 3148 ls [])) : W p l e room_1 s m args below meth c H locs cells slots Q (F0 m 3123 ls []) := by
  have hx := X.1
  have hb := X.2.1
  refine lv_aload_n hx hb dL_law_3123 rfl (lv_at hl 3 rfl) ?_
  refine u_scr X hB (i := i) 1 hL (by omega) (lv_at hl 4 rfl) (lv_at hl 0 rfl) (by decide) dL_law_3124 dL_law_3125 dL_law_3127 dL_law_3128 dL_law_3129 ?_
  refine u_goz hB (z_run X (Av := [.int (xs (i + 1))]) (rest := []) (mX8_outputByte hf8) yv_X8_outputByte wm_891 ⟨Nat.le_of_ble_eq_true rfl, Nat.le_of_ble_eq_true rfl⟩ rfl rfl hl.1 kl_X8.1 (hB.1.obj lcq_X_0) hB.1 hB.lenX hB.hX (Nat.le_of_ble_eq_true rfl) ⟨by show cells + 0 ≤ 601024; omega, by show slots + 0 ≤ 7293034; omega⟩ dL_law_3130) (fun H locs hB => ?_)
  refine W.eq (g2 := F0 m 3133 ls [.int r]) rfl ?_
  refine lv_aload_n hx hb dL_law_3133 rfl (lv_at hl 2 rfl) ?_
  refine u_scr X hB (i := i) 1 hL (by omega) (lv_at hl 4 rfl) (lv_at hl 0 rfl) (by decide) dL_law_3134 dL_law_3135 dL_law_3137 dL_law_3138 dL_law_3139 ?_
  refine u_goM hB (bk_runV X (Av := [.int (xs (i + 1))]) (rest := [.int r]) (mX9_outputByte hf9) yv_X9_outputByte wm_2260 ⟨Nat.le_of_ble_eq_true rfl, Nat.le_of_ble_eq_true rfl⟩ rfl rfl hl.1 kl_X9.1 (hB.2.1.obj lc_Mo_0) hB.2.1 hB.lenM hB.hM (Nat.le_of_ble_eq_true rfl) ⟨by show cells + 0 + 0 ≤ 601024; omega, by show slots + 0 + 0 ≤ 7293034; omega⟩ dL_law_3140) (fun H locs hB => ?_)
  refine W.eq (g2 := F0 m 3143 ls [.int r, .int r]) rfl ?_
  exact lv_icmp_eq (tgt := 3148) hx hb dL_law_3143 (by decide) (fun _ => kk ls H locs hl hB) (fun h => absurd rfl h)
