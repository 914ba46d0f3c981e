theorem dL_begins_277 : decode cL_begins 277 = .ok (.invokevirtual 363, 3) := by decide +kernel
theorem dL_begins_280 : decode cL_begins 280 = .ok (.bipush 59, 2) := by decide +kernel
theorem dL_begins_282 : decode cL_begins 282 = .ok (.invokevirtual 366, 3) := by decide +kernel
theorem dL_begins_285 : decode cL_begins 285 = .ok (.pop, 1) := by decide +kernel
theorem dL_begins_286 : decode cL_begins 286 = .ok (.iinc 4 1, 3) := by decide +kernel
theorem dL_begins_289 : decode cL_begins 289 = .ok (.goto (-139), 3) := by decide +kernel
theorem dL_begins_292 : decode cL_begins 292 = .ok (.iconst 0, 1) := by decide +kernel
theorem dL_begins_293 : decode cL_begins 293 = .ok (.istore 4, 2) := by decide +kernel
theorem dL_begins_295 : decode cL_begins 295 = .ok (.iload 4, 2) := by decide +kernel
theorem dL_begins_297 : decode cL_begins 297 = .ok (.aload_n 1, 1) := by decide +kernel
theorem dL_begins_298 : decode cL_begins 298 = .ok (.getfield 139, 3) := by decide +kernel
theorem dL_begins_301 : decode cL_begins 301 = .ok (.if_icmp .ge 163, 3) := by decide +kernel
theorem dL_begins_304 : decode cL_begins 304 = .ok (.aload_n 1, 1) := by decide +kernel
theorem dL_begins_305 : decode cL_begins 305 = .ok (.getfield 154, 3) := by decide +kernel
theorem dL_begins_308 : decode cL_begins 308 = .ok (.iload 4, 2) := by decide +kernel
theorem dL_begins_310 : decode cL_begins 310 = .ok (.iconst 1, 1) := by decide +kernel
theorem dL_begins_311 : decode cL_begins 311 = .ok (.aload_n 2, 1) := by decide +kernel
theorem dL_begins_312 : decode cL_begins 312 = .ok (.bipush 16, 2) := by decide +kernel
theorem dL_begins_314 : decode cL_begins 314 = .ok (.iconst 3, 1) := by decide +kernel
theorem dL_begins_315 : decode cL_begins 315 = .ok (.iload 4, 2) := by decide +kernel
theorem dL_begins_317 : decode cL_begins 317 = .ok (.imul, 1) := by decide +kernel
theorem dL_begins_318 : decode cL_begins 318 = .ok (.iadd, 1) := by decide +kernel
theorem dL_begins_319 : decode cL_begins 319 = .ok (.iconst 5, 1) := by decide +kernel
theorem dL_begins_320 : decode cL_begins 320 = .ok (.invokestatic 327, 3) := by decide +kernel
theorem dL_begins_323 : decode cL_begins 323 = .ok (.iadd, 1) := by decide +kernel
theorem dL_begins_324 : decode cL_begins 324 = .ok (.iastore, 1) := by decide +kernel
theorem dL_begins_325 : decode cL_begins 325 = .ok (.aload_n 1, 1) := by decide +kernel
theorem dL_begins_326 : decode cL_begins 326 = .ok (.getfield 160, 3) := by decide +kernel
theorem dL_begins_329 : decode cL_begins 329 = .ok (.iconst 2, 1) := by decide +kernel
theorem dL_begins_330 : decode cL_begins 330 = .ok (.iload 4, 2) := by decide +kernel
theorem dL_begins_332 : decode cL_begins 332 = .ok (.imul, 1) := by decide +kernel
theorem dL_begins_333 : decode cL_begins 333 = .ok (.aload_n 2, 1) := by decide +kernel
theorem dL_begins_334 : decode cL_begins 334 = .ok (.bipush 17, 2) := by decide +kernel
theorem dL_begins_336 : decode cL_begins 336 = .ok (.iconst 3, 1) := by decide +kernel
theorem dL_begins_337 : decode cL_begins 337 = .ok (.iload 4, 2) := by decide +kernel
theorem dL_begins_339 : decode cL_begins 339 = .ok (.imul, 1) := by decide +kernel
theorem dL_begins_340 : decode cL_begins 340 = .ok (.iadd, 1) := by decide +kernel
theorem dL_begins_341 : decode cL_begins 341 = .ok (.iconst 3, 1) := by decide +kernel
theorem dL_begins_342 : decode cL_begins 342 = .ok (.invokestatic 327, 3) := by decide +kernel
theorem dL_begins_345 : decode cL_begins 345 = .ok (.iastore, 1) := by decide +kernel
theorem dL_begins_346 : decode cL_begins 346 = .ok (.aload_n 1, 1) := by decide +kernel
theorem dL_begins_347 : decode cL_begins 347 = .ok (.getfield 160, 3) := by decide +kernel
theorem dL_begins_350 : decode cL_begins 350 = .ok (.iconst 2, 1) := by decide +kernel
theorem dL_begins_351 : decode cL_begins 351 = .ok (.iload 4, 2) := by decide +kernel
theorem dL_begins_353 : decode cL_begins 353 = .ok (.imul, 1) := by decide +kernel
theorem dL_begins_354 : decode cL_begins 354 = .ok (.iconst 1, 1) := by decide +kernel
theorem dL_begins_355 : decode cL_begins 355 = .ok (.iadd, 1) := by decide +kernel
theorem dL_begins_356 : decode cL_begins 356 = .ok (.aload_n 2, 1) := by decide +kernel
theorem dL_begins_357 : decode cL_begins 357 = .ok (.bipush 18, 2) := by decide +kernel
theorem dL_begins_359 : decode cL_begins 359 = .ok (.iconst 3, 1) := by decide +kernel
theorem dL_begins_360 : decode cL_begins 360 = .ok (.iload 4, 2) := by decide +kernel
theorem dL_begins_362 : decode cL_begins 362 = .ok (.imul, 1) := by decide +kernel
theorem dL_begins_363 : decode cL_begins 363 = .ok (.iadd, 1) := by decide +kernel
theorem dL_begins_364 : decode cL_begins 364 = .ok (.iconst 3, 1) := by decide +kernel
theorem dL_begins_365 : decode cL_begins 365 = .ok (.invokestatic 327, 3) := by decide +kernel
theorem dL_begins_368 : decode cL_begins 368 = .ok (.iastore, 1) := by decide +kernel
theorem dL_begins_369 : decode cL_begins 369 = .ok (.aload_n 1, 1) := by decide +kernel
theorem dL_begins_370 : decode cL_begins 370 = .ok (.dup, 1) := by decide +kernel
theorem dL_begins_371 : decode cL_begins 371 = .ok (.getfield 344, 3) := by decide +kernel
theorem dL_begins_374 : decode cL_begins 374 = .ok (.aload_n 1, 1) := by decide +kernel
theorem dL_begins_375 : decode cL_begins 375 = .ok (.getfield 160, 3) := by decide +kernel
theorem dL_begins_378 : decode cL_begins 378 = .ok (.iconst 2, 1) := by decide +kernel
theorem dL_begins_379 : decode cL_begins 379 = .ok (.iload 4, 2) := by decide +kernel
theorem dL_begins_381 : decode cL_begins 381 = .ok (.imul, 1) := by decide +kernel
theorem dL_begins_382 : decode cL_begins 382 = .ok (.iaload, 1) := by decide +kernel
theorem dL_begins_383 : decode cL_begins 383 = .ok (.aload_n 1, 1) := by decide +kernel
theorem dL_begins_384 : decode cL_begins 384 = .ok (.getfield 160, 3) := by decide +kernel
theorem dL_begins_387 : decode cL_begins 387 = .ok (.iconst 2, 1) := by decide +kernel
theorem dL_begins_388 : decode cL_begins 388 = .ok (.iload 4, 2) := by decide +kernel
theorem dL_begins_390 : decode cL_begins 390 = .ok (.imul, 1) := by decide +kernel
theorem dL_begins_391 : decode cL_begins 391 = .ok (.iconst 1, 1) := by decide +kernel
theorem dL_begins_392 : decode cL_begins 392 = .ok (.iadd, 1) := by decide +kernel
theorem dL_begins_393 : decode cL_begins 393 = .ok (.iaload, 1) := by decide +kernel
theorem dL_begins_394 : decode cL_begins 394 = .ok (.iadd, 1) := by decide +kernel
theorem dL_begins_395 : decode cL_begins 395 = .ok (.iadd, 1) := by decide +kernel
theorem dL_begins_396 : decode cL_begins 396 = .ok (.putfield 344, 3) := by decide +kernel
theorem dL_begins_399 : decode cL_begins 399 = .ok (.aload_n 3, 1) := by decide +kernel
theorem dL_begins_400 : decode cL_begins 400 = .ok (.ldc_w 376, 3) := by decide +kernel
theorem dL_begins_403 : decode cL_begins 403 = .ok (.invokevirtual 373, 3) := by decide +kernel
theorem dL_begins_406 : decode cL_begins 406 = .ok (.aload_n 1, 1) := by decide +kernel
theorem dL_begins_407 : decode cL_begins 407 = .ok (.getfield 154, 3) := by decide +kernel
theorem dL_begins_410 : decode cL_begins 410 = .ok (.iload 4, 2) := by decide +kernel
theorem dL_begins_412 : decode cL_begins 412 = .ok (.iaload, 1) := by decide +kernel
theorem dL_begins_413 : decode cL_begins 413 = .ok (.invokevirtual 363, 3) := by decide +kernel
theorem dL_begins_416 : decode cL_begins 416 = .ok (.bipush 32, 2) := by decide +kernel
theorem dL_begins_418 : decode cL_begins 418 = .ok (.invokevirtual 366, 3) := by decide +kernel
theorem dL_begins_421 : decode cL_begins 421 = .ok (.aload_n 1, 1) := by decide +kernel
theorem dL_begins_422 : decode cL_begins 422 = .ok (.getfield 160, 3) := by decide +kernel
theorem dL_begins_425 : decode cL_begins 425 = .ok (.iconst 2, 1) := by decide +kernel
theorem dL_begins_426 : decode cL_begins 426 = .ok (.iload 4, 2) := by decide +kernel
theorem dL_begins_428 : decode cL_begins 428 = .ok (.imul, 1) := by decide +kernel
theorem dL_begins_429 : decode cL_begins 429 = .ok (.iaload, 1) := by decide +kernel
theorem dL_begins_430 : decode cL_begins 430 = .ok (.invokevirtual 363, 3) := by decide +kernel
theorem dL_begins_433 : decode cL_begins 433 = .ok (.bipush 32, 2) := by decide +kernel
theorem dL_begins_435 : decode cL_begins 435 = .ok (.invokevirtual 366, 3) := by decide +kernel
theorem dL_begins_438 : decode cL_begins 438 = .ok (.aload_n 1, 1) := by decide +kernel
theorem dL_begins_439 : decode cL_begins 439 = .ok (.getfield 160, 3) := by decide +kernel
theorem dL_begins_442 : decode cL_begins 442 = .ok (.iconst 2, 1) := by decide +kernel
theorem dL_begins_443 : decode cL_begins 443 = .ok (.iload 4, 2) := by decide +kernel
theorem dL_begins_445 : decode cL_begins 445 = .ok (.imul, 1) := by decide +kernel
theorem dL_begins_446 : decode cL_begins 446 = .ok (.iconst 1, 1) := by decide +kernel
theorem dL_begins_447 : decode cL_begins 447 = .ok (.iadd, 1) := by decide +kernel
theorem dL_begins_448 : decode cL_begins 448 = .ok (.iaload, 1) := by decide +kernel
theorem dL_begins_449 : decode cL_begins 449 = .ok (.invokevirtual 363, 3) := by decide +kernel
theorem dL_begins_452 : decode cL_begins 452 = .ok (.bipush 59, 2) := by decide +kernel
theorem dL_begins_454 : decode cL_begins 454 = .ok (.invokevirtual 366, 3) := by decide +kernel
theorem dL_begins_457 : decode cL_begins 457 = .ok (.pop, 1) := by decide +kernel
theorem dL_begins_458 : decode cL_begins 458 = .ok (.iinc 4 1, 3) := by decide +kernel
theorem dL_begins_461 : decode cL_begins 461 = .ok (.goto (-166), 3) := by decide +kernel
theorem dL_begins_464 : decode cL_begins 464 = .ok (.aload_n 2, 1) := by decide +kernel
theorem dL_begins_465 : decode cL_begins 465 = .ok (.bipush 29, 2) := by decide +kernel
theorem dL_begins_467 : decode cL_begins 467 = .ok (.bipush 8, 2) := by decide +kernel
theorem dL_begins_469 : decode cL_begins 469 = .ok (.invokestatic 327, 3) := by decide +kernel
theorem dL_begins_472 : decode cL_begins 472 = .ok (.istore 4, 2) := by decide +kernel
theorem dL_begins_474 : decode cL_begins 474 = .ok (.iload 4, 2) := by decide +kernel
theorem dL_begins_476 : decode cL_begins 476 = .ok (.ifCond .le 115, 3) := by decide +kernel
theorem dL_begins_479 : decode cL_begins 479 = .ok (.aload_n 2, 1) := by decide +kernel
theorem dL_begins_480 : decode cL_begins 480 = .ok (.bipush 30, 2) := by decide +kernel
theorem dL_begins_482 : decode cL_begins 482 = .ok (.iconst 2, 1) := by decide +kernel
theorem dL_begins_483 : decode cL_begins 483 = .ok (.iload 4, 2) := by decide +kernel
theorem dL_begins_485 : decode cL_begins 485 = .ok (.imul, 1) := by decide +kernel
theorem dL_begins_486 : decode cL_begins 486 = .ok (.iadd, 1) := by decide +kernel
theorem dL_begins_487 : decode cL_begins 487 = .ok (.aload_n 1, 1) := by decide +kernel
theorem dL_begins_488 : decode cL_begins 488 = .ok (.getfield 139, 3) := by decide +kernel
theorem dL_begins_491 : decode cL_begins 491 = .ok (.invokestatic 327, 3) := by decide +kernel
theorem dL_begins_494 : decode cL_begins 494 = .ok (.istore 5, 2) := by decide +kernel
theorem dL_begins_496 : decode cL_begins 496 = .ok (.aload_n 2, 1) := by decide +kernel
theorem dL_begins_497 : decode cL_begins 497 = .ok (.bipush 31, 2) := by decide +kernel
theorem dL_begins_499 : decode cL_begins 499 = .ok (.iconst 2, 1) := by decide +kernel
theorem dL_begins_500 : decode cL_begins 500 = .ok (.iload 4, 2) := by decide +kernel
theorem dL_begins_502 : decode cL_begins 502 = .ok (.imul, 1) := by decide +kernel
theorem dL_begins_503 : decode cL_begins 503 = .ok (.iadd, 1) := by decide +kernel
theorem dL_begins_504 : decode cL_begins 504 = .ok (.iconst 5, 1) := by decide +kernel
theorem dL_begins_505 : decode cL_begins 505 = .ok (.invokestatic 327, 3) := by decide +kernel
theorem dL_begins_508 : decode cL_begins 508 = .ok (.istore 6, 2) := by decide +kernel
theorem dL_begins_510 : decode cL_begins 510 = .ok (.aload_n 1, 1) := by decide +kernel
theorem dL_begins_511 : decode cL_begins 511 = .ok (.getfield 145, 3) := by decide +kernel
theorem dL_begins_514 : decode cL_begins 514 = .ok (.bipush 12, 2) := by decide +kernel
theorem dL_begins_516 : decode cL_begins 516 = .ok (.iload 5, 2) := by decide +kernel
theorem dL_begins_518 : decode cL_begins 518 = .ok (.imul, 1) := by decide +kernel
theorem dL_begins_519 : decode cL_begins 519 = .ok (.iload 6, 2) := by decide +kernel
theorem dL_begins_521 : decode cL_begins 521 = .ok (.iadd, 1) := by decide +kernel
theorem dL_begins_522 : decode cL_begins 522 = .ok (.aload_n 2, 1) := by decide +kernel
theorem dL_begins_523 : decode cL_begins 523 = .ok (.bipush 31, 2) := by decide +kernel
theorem dL_begins_525 : decode cL_begins 525 = .ok (.iconst 2, 1) := by decide +kernel
theorem dL_begins_526 : decode cL_begins 526 = .ok (.iload 4, 2) := by decide +kernel
theorem dL_begins_528 : decode cL_begins 528 = .ok (.imul, 1) := by decide +kernel
theorem dL_begins_529 : decode cL_begins 529 = .ok (.iadd, 1) := by decide +kernel
theorem dL_begins_530 : decode cL_begins 530 = .ok (.bipush 10, 2) := by decide +kernel
theorem dL_begins_532 : decode cL_begins 532 = .ok (.invokestatic 327, 3) := by decide +kernel
theorem dL_begins_535 : decode cL_begins 535 = .ok (.iastore, 1) := by decide +kernel
theorem dL_begins_536 : decode cL_begins 536 = .ok (.aload_n 3, 1) := by decide +kernel
theorem dL_begins_537 : decode cL_begins 537 = .ok (.ldc_w 378, 3) := by decide +kernel
theorem dL_begins_540 : decode cL_begins 540 = .ok (.invokevirtual 373, 3) := by decide +kernel
theorem dL_begins_543 : decode cL_begins 543 = .ok (.iload 5, 2) := by decide +kernel
theorem dL_begins_545 : decode cL_begins 545 = .ok (.invokevirtual 363, 3) := by decide +kernel
theorem dL_begins_548 : decode cL_begins 548 = .ok (.bipush 32, 2) := by decide +kernel
theorem dL_begins_550 : decode cL_begins 550 = .ok (.invokevirtual 366, 3) := by decide +kernel
theorem dL_begins_553 : decode cL_begins 553 = .ok (.iload 6, 2) := by decide +kernel
theorem dL_begins_555 : decode cL_begins 555 = .ok (.invokevirtual 363, 3) := by decide +kernel
theorem dL_begins_558 : decode cL_begins 558 = .ok (.bipush 32, 2) := by decide +kernel
theorem dL_begins_560 : decode cL_begins 560 = .ok (.invokevirtual 366, 3) := by decide +kernel
theorem dL_begins_563 : decode cL_begins 563 = .ok (.aload_n 1, 1) := by decide +kernel
theorem dL_begins_564 : decode cL_begins 564 = .ok (.getfield 145, 3) := by decide +kernel
theorem dL_begins_567 : decode cL_begins 567 = .ok (.bipush 12, 2) := by decide +kernel
theorem dL_begins_569 : decode cL_begins 569 = .ok (.iload 5, 2) := by decide +kernel
theorem dL_begins_571 : decode cL_begins 571 = .ok (.imul, 1) := by decide +kernel
theorem dL_begins_572 : decode cL_begins 572 = .ok (.iload 6, 2) := by decide +kernel
theorem dL_begins_574 : decode cL_begins 574 = .ok (.iadd, 1) := by decide +kernel
theorem dL_begins_575 : decode cL_begins 575 = .ok (.iaload, 1) := by decide +kernel
theorem dL_begins_576 : decode cL_begins 576 = .ok (.invokevirtual 363, 3) := by decide +kernel
theorem dL_begins_579 : decode cL_begins 579 = .ok (.bipush 59, 2) := by decide +kernel
theorem dL_begins_581 : decode cL_begins 581 = .ok (.invokevirtual 366, 3) := by decide +kernel
theorem dL_begins_584 : decode cL_begins 584 = .ok (.pop, 1) := by decide +kernel
theorem dL_begins_585 : decode cL_begins 585 = .ok (.iinc 4 (-1), 3) := by decide +kernel
theorem dL_begins_588 : decode cL_begins 588 = .ok (.goto (-114), 3) := by decide +kernel
theorem dL_begins_591 : decode cL_begins 591 = .ok (.aload_n 0, 1) := by decide +kernel
theorem dL_begins_592 : decode cL_begins 592 = .ok (.aload_n 3, 1) := by decide +kernel
theorem dL_begins_593 : decode cL_begins 593 = .ok (.invokevirtual 380, 3) := by decide +kernel
theorem dL_begins_596 : decode cL_begins 596 = .ok (.invokestatic 384, 3) := by decide +kernel
theorem dL_begins_599 : decode cL_begins 599 = .ok (.ifCond .eq 22, 3) := by decide +kernel
theorem dL_begins_602 : decode cL_begins 602 = .ok (.aload_n 0, 1) := by decide +kernel
theorem dL_begins_603 : decode cL_begins 603 = .ok (.invokevirtual 388, 3) := by decide +kernel
theorem dL_begins_606 : decode cL_begins 606 = .ok (.ifCond .ne 15, 3) := by decide +kernel
theorem dL_begins_609 : decode cL_begins 609 = .ok (.aload_n 0, 1) := by decide +kernel
theorem dL_begins_610 : decode cL_begins 610 = .ok (.invokevirtual 391, 3) := by decide +kernel
theorem dL_begins_613 : decode cL_begins 613 = .ok (.iconst (-1), 1) := by decide +kernel
theorem dL_begins_614 : decode cL_begins 614 = .ok (.if_icmp .ne 7, 3) := by decide +kernel
theorem dL_begins_617 : decode cL_begins 617 = .ok (.iconst 1, 1) := by decide +kernel
theorem dL_begins_618 : decode cL_begins 618 = .ok (.goto 4, 3) := by decide +kernel
theorem dL_begins_621 : decode cL_begins 621 = .ok (.iconst 0, 1) := by decide +kernel
theorem dL_begins_622 : decode cL_begins 622 = .ok (.ireturn, 1) := by decide +kernel
theorem dL_law_0 : decode cL_law 0 = .ok (.new 30, 3) := by decide +kernel
theorem dL_law_3 : decode cL_law 3 = .ok (.dup, 1) := by decide +kernel
theorem dL_law_4 : decode cL_law 4 = .ok (.invokespecial 394, 3) := by decide +kernel
theorem dL_law_7 : decode cL_law 7 = .ok (.astore_n 1, 1) := by decide +kernel
theorem dL_law_8 : decode cL_law 8 = .ok (.new 36, 3) := by decide +kernel
theorem dL_law_11 : decode cL_law 11 = .ok (.dup, 1) := by decide +kernel
theorem dL_law_12 : decode cL_law 12 = .ok (.invokespecial 395, 3) := by decide +kernel
theorem dL_law_15 : decode cL_law 15 = .ok (.astore_n 2, 1) := by decide +kernel
theorem dL_law_16 : decode cL_law 16 = .ok (.aload_n 1, 1) := by decide +kernel
theorem dL_law_17 : decode cL_law 17 = .ok (.aload_n 2, 1) := by decide +kernel
theorem dL_law_18 : decode cL_law 18 = .ok (.aload_n 0, 1) := by decide +kernel
theorem dL_law_19 : decode cL_law 19 = .ok (.invokestatic 396, 3) := by decide +kernel
theorem dL_law_22 : decode cL_law 22 = .ok (.ifCond .ne 5, 3) := by decide +kernel
theorem dL_law_25 : decode cL_law 25 = .ok (.iconst 0, 1) := by decide +kernel
theorem dL_law_26 : decode cL_law 26 = .ok (.ireturn, 1) := by decide +kernel
theorem dL_law_27 : decode cL_law 27 = .ok (.bipush 44, 2) := by decide +kernel
theorem dL_law_29 : decode cL_law 29 = .ok (.anewarray 36, 3) := by decide +kernel
theorem dL_law_32 : decode cL_law 32 = .ok (.astore_n 3, 1) := by decide +kernel
theorem dL_law_33 : decode cL_law 33 = .ok (.iconst 0, 1) := by decide +kernel
theorem dL_law_34 : decode cL_law 34 = .ok (.istore 4, 2) := by decide +kernel
theorem dL_law_36 : decode cL_law 36 = .ok (.iconst 0, 1) := by decide +kernel
theorem dL_law_37 : decode cL_law 37 = .ok (.istore 5, 2) := by decide +kernel
theorem dL_law_39 : decode cL_law 39 = .ok (.iload 5, 2) := by decide +kernel
theorem dL_law_41 : decode cL_law 41 = .ok (.bipush 42, 2) := by decide +kernel
theorem dL_law_43 : decode cL_law 43 = .ok (.if_icmp .ge 127, 3) := by decide +kernel
theorem dL_law_46 : decode cL_law 46 = .ok (.aload_n 1, 1) := by decide +kernel
theorem dL_law_47 : decode cL_law 47 = .ok (.aload_n 2, 1) := by decide +kernel
theorem dL_law_48 : decode cL_law 48 = .ok (.invokestatic 400, 3) := by decide +kernel
theorem dL_law_51 : decode cL_law 51 = .ok (.ifCond .eq 48, 3) := by decide +kernel
theorem dL_law_54 : decode cL_law 54 = .ok (.iload 5, 2) := by decide +kernel
theorem dL_law_56 : decode cL_law 56 = .ok (.bipush 14, 2) := by decide +kernel
theorem dL_law_58 : decode cL_law 58 = .ok (.irem, 1) := by decide +kernel
theorem dL_law_59 : decode cL_law 59 = .ok (.bipush 9, 2) := by decide +kernel
theorem dL_law_61 : decode cL_law 61 = .ok (.if_icmp .ne 40, 3) := by decide +kernel
theorem dL_law_64 : decode cL_law 64 = .ok (.aload_n 1, 1) := by decide +kernel
theorem dL_law_65 : decode cL_law 65 = .ok (.aload_n 2, 1) := by decide +kernel
theorem dL_law_66 : decode cL_law 66 = .ok (.iload 5, 2) := by decide +kernel
theorem dL_law_68 : decode cL_law 68 = .ok (.iconst 2, 1) := by decide +kernel
theorem dL_law_69 : decode cL_law 69 = .ok (.irem, 1) := by decide +kernel
theorem dL_law_70 : decode cL_law 70 = .ok (.invokestatic 404, 3) := by decide +kernel
theorem dL_law_73 : decode cL_law 73 = .ok (.ifCond .eq 26, 3) := by decide +kernel
theorem dL_law_76 : decode cL_law 76 = .ok (.aload_n 1, 1) := by decide +kernel
theorem dL_law_77 : decode cL_law 77 = .ok (.aload_n 2, 1) := by decide +kernel
theorem dL_law_78 : decode cL_law 78 = .ok (.aload_n 0, 1) := by decide +kernel
theorem dL_law_79 : decode cL_law 79 = .ok (.bipush 47, 2) := by decide +kernel
theorem dL_law_81 : decode cL_law 81 = .ok (.iload 5, 2) := by decide +kernel
theorem dL_law_83 : decode cL_law 83 = .ok (.iadd, 1) := by decide +kernel
theorem dL_law_84 : decode cL_law 84 = .ok (.aload_n 2, 1) := by decide +kernel
theorem dL_law_85 : decode cL_law 85 = .ok (.getfield 169, 3) := by decide +kernel
theorem dL_law_88 : decode cL_law 88 = .ok (.iconst 1, 1) := by decide +kernel
theorem dL_law_89 : decode cL_law 89 = .ok (.iadd, 1) := by decide +kernel
theorem dL_law_90 : decode cL_law 90 = .ok (.invokestatic 327, 3) := by decide +kernel
theorem dL_law_93 : decode cL_law 93 = .ok (.invokestatic 407, 3) := by decide +kernel
theorem dL_law_96 : decode cL_law 96 = .ok (.ifCond .ne 5, 3) := by decide +kernel
theorem dL_law_99 : decode cL_law 99 = .ok (.iconst 0, 1) := by decide +kernel
theorem dL_law_100 : decode cL_law 100 = .ok (.ireturn, 1) := by decide +kernel
theorem dL_law_101 : decode cL_law 101 = .ok (.aload_n 2, 1) := by decide +kernel
theorem dL_law_102 : decode cL_law 102 = .ok (.invokevirtual 256, 3) := by decide +kernel
theorem dL_law_105 : decode cL_law 105 = .ok (.astore 6, 2) := by decide +kernel
theorem dL_law_107 : decode cL_law 107 = .ok (.aload_n 1, 1) := by decide +kernel
theorem dL_law_108 : decode cL_law 108 = .ok (.aload 6, 2) := by decide +kernel
theorem dL_law_110 : decode cL_law 110 = .ok (.aload_n 0, 1) := by decide +kernel
theorem dL_law_111 : decode cL_law 111 = .ok (.bipush 90, 2) := by decide +kernel
theorem dL_law_113 : decode cL_law 113 = .ok (.iconst 4, 1) := by decide +kernel
theorem dL_law_114 : decode cL_law 114 = .ok (.iload 5, 2) := by decide +kernel
theorem dL_law_116 : decode cL_law 116 = .ok (.imul, 1) := by decide +kernel
theorem dL_law_117 : decode cL_law 117 = .ok (.iadd, 1) := by decide +kernel
theorem dL_law_118 : decode cL_law 118 = .ok (.invokestatic 410, 3) := by decide +kernel
theorem dL_law_121 : decode cL_law 121 = .ok (.ifCond .ne 5, 3) := by decide +kernel
theorem dL_law_124 : decode cL_law 124 = .ok (.iconst 0, 1) := by decide +kernel
theorem dL_law_125 : decode cL_law 125 = .ok (.ireturn, 1) := by decide +kernel
theorem dL_law_126 : decode cL_law 126 = .ok (.aload 6, 2) := by decide +kernel
theorem dL_law_128 : decode cL_law 128 = .ok (.getfield 414, 3) := by decide +kernel
theorem dL_law_131 : decode cL_law 131 = .ok (.ifCond .eq 6, 3) := by decide +kernel
theorem dL_law_134 : decode cL_law 134 = .ok (.goto 30, 3) := by decide +kernel
theorem dL_law_137 : decode cL_law 137 = .ok (.aload_n 3, 1) := by decide +kernel
theorem dL_law_138 : decode cL_law 138 = .ok (.iload 4, 2) := by decide +kernel
theorem dL_law_140 : decode cL_law 140 = .ok (.aload_n 2, 1) := by decide +kernel
theorem dL_law_141 : decode cL_law 141 = .ok (.aastore, 1) := by decide +kernel
theorem dL_law_142 : decode cL_law 142 = .ok (.iinc 4 1, 3) := by decide +kernel
theorem dL_law_145 : decode cL_law 145 = .ok (.aload 6, 2) := by decide +kernel
theorem dL_law_147 : decode cL_law 147 = .ok (.astore_n 2, 1) := by decide +kernel
theorem dL_law_148 : decode cL_law 148 = .ok (.aload_n 1, 1) := by decide +kernel
theorem dL_law_149 : decode cL_law 149 = .ok (.invokevirtual 418, 3) := by decide +kernel
theorem dL_law_152 : decode cL_law 152 = .ok (.bipush 8, 2) := by decide +kernel
theorem dL_law_154 : decode cL_law 154 = .ok (.iload 4, 2) := by decide +kernel
theorem dL_law_156 : decode cL_law 156 = .ok (.invokestatic 421, 3) := by decide +kernel
theorem dL_law_159 : decode cL_law 159 = .ok (.if_icmp .eq 5, 3) := by decide +kernel
theorem dL_law_162 : decode cL_law 162 = .ok (.iconst 0, 1) := by decide +kernel
theorem dL_law_163 : decode cL_law 163 = .ok (.ireturn, 1) := by decide +kernel
theorem dL_law_164 : decode cL_law 164 = .ok (.iinc 5 1, 3) := by decide +kernel
theorem dL_law_167 : decode cL_law 167 = .ok (.goto (-128), 3) := by decide +kernel
theorem dL_law_170 : decode cL_law 170 = .ok (.aload_n 1, 1) := by decide +kernel
theorem dL_law_171 : decode cL_law 171 = .ok (.aload_n 2, 1) := by decide +kernel
theorem dL_law_172 : decode cL_law 172 = .ok (.invokestatic 400, 3) := by decide +kernel
theorem dL_law_175 : decode cL_law 175 = .ok (.ifCond .ne 5, 3) := by decide +kernel
theorem dL_law_178 : decode cL_law 178 = .ok (.iconst 0, 1) := by decide +kernel
theorem dL_law_179 : decode cL_law 179 = .ok (.ireturn, 1) := by decide +kernel
theorem dL_law_180 : decode cL_law 180 = .ok (.bipush 8, 2) := by decide +kernel
theorem dL_law_182 : decode cL_law 182 = .ok (.iload 4, 2) := by decide +kernel
theorem dL_law_184 : decode cL_law 184 = .ok (.invokestatic 421, 3) := by decide +kernel
theorem dL_law_187 : decode cL_law 187 = .ok (.istore 5, 2) := by decide +kernel
theorem dL_law_189 : decode cL_law 189 = .ok (.iload 4, 2) := by decide +kernel
theorem dL_law_191 : decode cL_law 191 = .ok (.iconst 1, 1) := by decide +kernel
theorem dL_law_192 : decode cL_law 192 = .ok (.isub, 1) := by decide +kernel
theorem dL_law_193 : decode cL_law 193 = .ok (.istore 6, 2) := by decide +kernel
theorem dL_law_195 : decode cL_law 195 = .ok (.iload 5, 2) := by decide +kernel
theorem dL_law_197 : decode cL_law 197 = .ok (.ifCond .le 34, 3) := by decide +kernel
theorem dL_law_200 : decode cL_law 200 = .ok (.iinc 5 (-1), 3) := by decide +kernel
theorem dL_law_203 : decode cL_law 203 = .ok (.aload_n 1, 1) := by decide +kernel
theorem dL_law_204 : decode cL_law 204 = .ok (.invokevirtual 426, 3) := by decide +kernel
theorem dL_law_207 : decode cL_law 207 = .ok (.iload 5, 2) := by decide +kernel
theorem dL_law_209 : decode cL_law 209 = .ok (.if_icmp .ne 14, 3) := by decide +kernel
theorem dL_law_212 : decode cL_law 212 = .ok (.aload_n 1, 1) := by decide +kernel
theorem dL_law_213 : decode cL_law 213 = .ok (.aload_n 3, 1) := by decide +kernel
theorem dL_law_214 : decode cL_law 214 = .ok (.iload 6, 2) := by decide +kernel
theorem dL_law_216 : decode cL_law 216 = .ok (.aaload, 1) := by decide +kernel
theorem dL_law_217 : decode cL_law 217 = .ok (.invokestatic 400, 3) := by decide +kernel
theorem dL_law_220 : decode cL_law 220 = .ok (.ifCond .ne 5, 3) := by decide +kernel
theorem dL_law_223 : decode cL_law 223 = .ok (.iconst 0, 1) := by decide +kernel
theorem dL_law_224 : decode cL_law 224 = .ok (.ireturn, 1) := by decide +kernel
theorem dL_law_225 : decode cL_law 225 = .ok (.iinc 6 (-1), 3) := by decide +kernel
theorem dL_law_228 : decode cL_law 228 = .ok (.goto (-33), 3) := by decide +kernel
theorem dL_law_231 : decode cL_law 231 = .ok (.aload_n 1, 1) := by decide +kernel
theorem dL_law_232 : decode cL_law 232 = .ok (.invokevirtual 418, 3) := by decide +kernel
theorem dL_law_235 : decode cL_law 235 = .ok (.ifCond .ne 7, 3) := by decide +kernel
theorem dL_law_238 : decode cL_law 238 = .ok (.iconst 1, 1) := by decide +kernel
theorem dL_law_239 : decode cL_law 239 = .ok (.goto 4, 3) := by decide +kernel
theorem dL_law_242 : decode cL_law 242 = .ok (.iconst 0, 1) := by decide +kernel
theorem dL_law_243 : decode cL_law 243 = .ok (.ireturn, 1) := by decide +kernel
