/-! ===== lawcase 0: printed by wip/whole/lawcase.py ===== -/
theorem dL_law_0 : decode cL_law 0 = .ok (.new 8, 3) := by decide +kernel
theorem dL_law_3 : decode cL_law 3 = .ok (.dup, 1) := by decide +kernel
theorem dL_law_4 : decode cL_law 4 = .ok (.invokespecial 138, 3) := by decide +kernel
theorem dL_law_7 : decode cL_law 7 = .ok (.astore_n 1, 1) := by decide +kernel
theorem dL_law_8 : decode cL_law 8 = .ok (.new 139, 3) := by decide +kernel
theorem dL_law_11 : decode cL_law 11 = .ok (.dup, 1) := by decide +kernel
theorem dL_law_12 : decode cL_law 12 = .ok (.invokespecial 141, 3) := by decide +kernel
theorem dL_law_15 : decode cL_law 15 = .ok (.astore_n 2, 1) := by decide +kernel
theorem dL_law_16 : decode cL_law 16 = .ok (.iconst 1, 1) := by decide +kernel
theorem dL_law_17 : decode cL_law 17 = .ok (.newarray .long, 2) := by decide +kernel
theorem dL_law_19 : decode cL_law 19 = .ok (.astore_n 3, 1) := by decide +kernel
theorem dL_law_20 : decode cL_law 20 = .ok (.iconst 0, 1) := by decide +kernel
theorem dL_law_21 : decode cL_law 21 = .ok (.istore 4, 2) := by decide +kernel
theorem dL_law_23 : decode cL_law 23 = .ok (.iload 4, 2) := by decide +kernel
theorem dL_law_25 : decode cL_law 25 = .ok (.aload_n 0, 1) := by decide +kernel
theorem dL_law_26 : decode cL_law 26 = .ok (.arraylength, 1) := by decide +kernel
theorem dL_law_27 : decode cL_law 27 = .ok (.bipush 6, 2) := by decide +kernel
theorem dL_law_29 : decode cL_law 29 = .ok (.isub, 1) := by decide +kernel
theorem dL_law_30 : decode cL_law 30 = .ok (.if_icmp .gt 2984, 3) := by decide +kernel
theorem dL_law_33 : decode cL_law 33 = .ok (.aload_n 0, 1) := by decide +kernel
theorem dL_law_34 : decode cL_law 34 = .ok (.iload 4, 2) := by decide +kernel
theorem dL_law_36 : decode cL_law 36 = .ok (.iaload, 1) := by decide +kernel
theorem dL_law_37 : decode cL_law 37 = .ok (.bipush 63, 2) := by decide +kernel
theorem dL_law_39 : decode cL_law 39 = .ok (.iand, 1) := by decide +kernel
theorem dL_law_40 : decode cL_law 40 = .ok (.tableswitch 2968 0 62 #[268, 372, 428, 472, 516, 529, 542, 555, 568, 581, 594, 607, 620, 676, 732, 788, 851, 907, 970, 983, 1039, 1119, 1175, 1231, 1287, 1343, 1356, 1381, 1437, 1493, 1549, 1605, 1661, 1674, 1730, 1798, 1866, 1879, 1947, 2003, 2059, 2115, 2171, 2184, 2197, 2210, 2223, 2236, 2249, 2292, 2333, 2401, 2457, 2525, 2593, 2649, 2717, 2773, 2829, 2873, 2886, 2930, 2943], 268) := by decide +kernel
theorem dL_law_308 : decode cL_law 308 = .ok (.aload_n 1, 1) := by decide +kernel
theorem dL_law_309 : decode cL_law 309 = .ok (.aload_n 0, 1) := by decide +kernel
theorem dL_law_310 : decode cL_law 310 = .ok (.iload 4, 2) := by decide +kernel
theorem dL_law_312 : decode cL_law 312 = .ok (.iconst 1, 1) := by decide +kernel
theorem dL_law_313 : decode cL_law 313 = .ok (.iadd, 1) := by decide +kernel
theorem dL_law_314 : decode cL_law 314 = .ok (.iaload, 1) := by decide +kernel
theorem dL_law_315 : decode cL_law 315 = .ok (.aload_n 0, 1) := by decide +kernel
theorem dL_law_316 : decode cL_law 316 = .ok (.iload 4, 2) := by decide +kernel
theorem dL_law_318 : decode cL_law 318 = .ok (.iconst 2, 1) := by decide +kernel
theorem dL_law_319 : decode cL_law 319 = .ok (.iadd, 1) := by decide +kernel
theorem dL_law_320 : decode cL_law 320 = .ok (.iaload, 1) := by decide +kernel
theorem dL_law_321 : decode cL_law 321 = .ok (.aload_n 0, 1) := by decide +kernel
theorem dL_law_322 : decode cL_law 322 = .ok (.iload 4, 2) := by decide +kernel
theorem dL_law_324 : decode cL_law 324 = .ok (.iconst 3, 1) := by decide +kernel
theorem dL_law_325 : decode cL_law 325 = .ok (.iadd, 1) := by decide +kernel
theorem dL_law_326 : decode cL_law 326 = .ok (.iaload, 1) := by decide +kernel
theorem dL_law_327 : decode cL_law 327 = .ok (.aload_n 0, 1) := by decide +kernel
theorem dL_law_328 : decode cL_law 328 = .ok (.iload 4, 2) := by decide +kernel
theorem dL_law_330 : decode cL_law 330 = .ok (.iconst 4, 1) := by decide +kernel
theorem dL_law_331 : decode cL_law 331 = .ok (.iadd, 1) := by decide +kernel
theorem dL_law_332 : decode cL_law 332 = .ok (.iaload, 1) := by decide +kernel
theorem dL_law_333 : decode cL_law 333 = .ok (.aload_n 0, 1) := by decide +kernel
theorem dL_law_334 : decode cL_law 334 = .ok (.iload 4, 2) := by decide +kernel
theorem dL_law_336 : decode cL_law 336 = .ok (.iconst 5, 1) := by decide +kernel
theorem dL_law_337 : decode cL_law 337 = .ok (.iadd, 1) := by decide +kernel
theorem dL_law_338 : decode cL_law 338 = .ok (.iaload, 1) := by decide +kernel
theorem dL_law_339 : decode cL_law 339 = .ok (.aload_n 3, 1) := by decide +kernel
theorem dL_law_340 : decode cL_law 340 = .ok (.invokestatic 142, 3) := by decide +kernel
theorem dL_law_343 : decode cL_law 343 = .ok (.istore 5, 2) := by decide +kernel
theorem dL_law_345 : decode cL_law 345 = .ok (.aload_n 2, 1) := by decide +kernel
theorem dL_law_346 : decode cL_law 346 = .ok (.aload_n 0, 1) := by decide +kernel
theorem dL_law_347 : decode cL_law 347 = .ok (.iload 4, 2) := by decide +kernel
theorem dL_law_349 : decode cL_law 349 = .ok (.iconst 1, 1) := by decide +kernel
theorem dL_law_350 : decode cL_law 350 = .ok (.iadd, 1) := by decide +kernel
theorem dL_law_351 : decode cL_law 351 = .ok (.iaload, 1) := by decide +kernel
theorem dL_law_352 : decode cL_law 352 = .ok (.aload_n 0, 1) := by decide +kernel
theorem dL_law_353 : decode cL_law 353 = .ok (.iload 4, 2) := by decide +kernel
theorem dL_law_355 : decode cL_law 355 = .ok (.iconst 2, 1) := by decide +kernel
theorem dL_law_356 : decode cL_law 356 = .ok (.iadd, 1) := by decide +kernel
theorem dL_law_357 : decode cL_law 357 = .ok (.iaload, 1) := by decide +kernel
theorem dL_law_358 : decode cL_law 358 = .ok (.aload_n 0, 1) := by decide +kernel
theorem dL_law_359 : decode cL_law 359 = .ok (.iload 4, 2) := by decide +kernel
theorem dL_law_361 : decode cL_law 361 = .ok (.iconst 3, 1) := by decide +kernel
theorem dL_law_362 : decode cL_law 362 = .ok (.iadd, 1) := by decide +kernel
theorem dL_law_363 : decode cL_law 363 = .ok (.iaload, 1) := by decide +kernel
theorem dL_law_364 : decode cL_law 364 = .ok (.aload_n 0, 1) := by decide +kernel
theorem dL_law_365 : decode cL_law 365 = .ok (.iload 4, 2) := by decide +kernel
theorem dL_law_367 : decode cL_law 367 = .ok (.iconst 4, 1) := by decide +kernel
theorem dL_law_368 : decode cL_law 368 = .ok (.iadd, 1) := by decide +kernel
theorem dL_law_369 : decode cL_law 369 = .ok (.iaload, 1) := by decide +kernel
theorem dL_law_370 : decode cL_law 370 = .ok (.aload_n 0, 1) := by decide +kernel
theorem dL_law_371 : decode cL_law 371 = .ok (.iload 4, 2) := by decide +kernel
theorem dL_law_373 : decode cL_law 373 = .ok (.iconst 5, 1) := by decide +kernel
theorem dL_law_374 : decode cL_law 374 = .ok (.iadd, 1) := by decide +kernel
theorem dL_law_375 : decode cL_law 375 = .ok (.iaload, 1) := by decide +kernel
theorem dL_law_376 : decode cL_law 376 = .ok (.invokevirtual 147, 3) := by decide +kernel
theorem dL_law_379 : decode cL_law 379 = .ok (.istore 6, 2) := by decide +kernel
theorem dL_law_381 : decode cL_law 381 = .ok (.aload_n 2, 1) := by decide +kernel
theorem dL_law_382 : decode cL_law 382 = .ok (.invokevirtual 148, 3) := by decide +kernel
theorem dL_law_385 : decode cL_law 385 = .ok (.iload 5, 2) := by decide +kernel
theorem dL_law_387 : decode cL_law 387 = .ok (.if_icmp .eq 5, 3) := by decide +kernel
theorem dL_law_390 : decode cL_law 390 = .ok (.iconst 0, 1) := by decide +kernel
theorem dL_law_391 : decode cL_law 391 = .ok (.ireturn, 1) := by decide +kernel
theorem dL_law_392 : decode cL_law 392 = .ok (.iload 5, 2) := by decide +kernel
theorem dL_law_394 : decode cL_law 394 = .ok (.ifCond .ne 15, 3) := by decide +kernel
theorem dL_law_397 : decode cL_law 397 = .ok (.aload_n 3, 1) := by decide +kernel
theorem dL_law_398 : decode cL_law 398 = .ok (.iconst 0, 1) := by decide +kernel
theorem dL_law_399 : decode cL_law 399 = .ok (.laload, 1) := by decide +kernel
theorem dL_law_400 : decode cL_law 400 = .ok (.iload 6, 2) := by decide +kernel
theorem dL_law_402 : decode cL_law 402 = .ok (.i2l, 1) := by decide +kernel
theorem dL_law_403 : decode cL_law 403 = .ok (.lcmp, 1) := by decide +kernel
theorem dL_law_404 : decode cL_law 404 = .ok (.ifCond .eq 5, 3) := by decide +kernel
theorem dL_law_407 : decode cL_law 407 = .ok (.iconst 0, 1) := by decide +kernel
theorem dL_law_408 : decode cL_law 408 = .ok (.ireturn, 1) := by decide +kernel
theorem dL_law_409 : decode cL_law 409 = .ok (.goto 2599, 3) := by decide +kernel
theorem dL_law_412 : decode cL_law 412 = .ok (.aload_n 1, 1) := by decide +kernel
theorem dL_law_413 : decode cL_law 413 = .ok (.aload_n 0, 1) := by decide +kernel
theorem dL_law_414 : decode cL_law 414 = .ok (.iload 4, 2) := by decide +kernel
theorem dL_law_416 : decode cL_law 416 = .ok (.iconst 1, 1) := by decide +kernel
theorem dL_law_417 : decode cL_law 417 = .ok (.iadd, 1) := by decide +kernel
theorem dL_law_418 : decode cL_law 418 = .ok (.iaload, 1) := by decide +kernel
theorem dL_law_419 : decode cL_law 419 = .ok (.aload_n 3, 1) := by decide +kernel
theorem dL_law_420 : decode cL_law 420 = .ok (.invokestatic 151, 3) := by decide +kernel
theorem dL_law_423 : decode cL_law 423 = .ok (.istore 5, 2) := by decide +kernel
theorem dL_law_425 : decode cL_law 425 = .ok (.aload_n 2, 1) := by decide +kernel
theorem dL_law_426 : decode cL_law 426 = .ok (.aload_n 0, 1) := by decide +kernel
theorem dL_law_427 : decode cL_law 427 = .ok (.iload 4, 2) := by decide +kernel
theorem dL_law_429 : decode cL_law 429 = .ok (.iconst 1, 1) := by decide +kernel
theorem dL_law_430 : decode cL_law 430 = .ok (.iadd, 1) := by decide +kernel
theorem dL_law_431 : decode cL_law 431 = .ok (.iaload, 1) := by decide +kernel
theorem dL_law_432 : decode cL_law 432 = .ok (.invokevirtual 154, 3) := by decide +kernel
theorem dL_law_435 : decode cL_law 435 = .ok (.istore 6, 2) := by decide +kernel
theorem dL_law_437 : decode cL_law 437 = .ok (.aload_n 2, 1) := by decide +kernel
theorem dL_law_438 : decode cL_law 438 = .ok (.invokevirtual 148, 3) := by decide +kernel
theorem dL_law_441 : decode cL_law 441 = .ok (.iload 5, 2) := by decide +kernel
theorem dL_law_443 : decode cL_law 443 = .ok (.if_icmp .eq 5, 3) := by decide +kernel
theorem dL_law_446 : decode cL_law 446 = .ok (.iconst 0, 1) := by decide +kernel
theorem dL_law_447 : decode cL_law 447 = .ok (.ireturn, 1) := by decide +kernel
theorem dL_law_448 : decode cL_law 448 = .ok (.iload 5, 2) := by decide +kernel
theorem dL_law_450 : decode cL_law 450 = .ok (.ifCond .ne 15, 3) := by decide +kernel
theorem dL_law_453 : decode cL_law 453 = .ok (.aload_n 3, 1) := by decide +kernel
theorem dL_law_454 : decode cL_law 454 = .ok (.iconst 0, 1) := by decide +kernel
theorem dL_law_455 : decode cL_law 455 = .ok (.laload, 1) := by decide +kernel
theorem dL_law_456 : decode cL_law 456 = .ok (.iload 6, 2) := by decide +kernel
theorem dL_law_458 : decode cL_law 458 = .ok (.i2l, 1) := by decide +kernel
theorem dL_law_459 : decode cL_law 459 = .ok (.lcmp, 1) := by decide +kernel
theorem dL_law_460 : decode cL_law 460 = .ok (.ifCond .eq 5, 3) := by decide +kernel
theorem dL_law_463 : decode cL_law 463 = .ok (.iconst 0, 1) := by decide +kernel
theorem dL_law_464 : decode cL_law 464 = .ok (.ireturn, 1) := by decide +kernel
theorem dL_law_465 : decode cL_law 465 = .ok (.goto 2543, 3) := by decide +kernel
theorem dL_law_468 : decode cL_law 468 = .ok (.aload_n 1, 1) := by decide +kernel
theorem dL_law_469 : decode cL_law 469 = .ok (.aload_n 3, 1) := by decide +kernel
theorem dL_law_470 : decode cL_law 470 = .ok (.invokestatic 155, 3) := by decide +kernel
theorem dL_law_473 : decode cL_law 473 = .ok (.istore 5, 2) := by decide +kernel
theorem dL_law_475 : decode cL_law 475 = .ok (.aload_n 2, 1) := by decide +kernel
theorem dL_law_476 : decode cL_law 476 = .ok (.invokevirtual 158, 3) := by decide +kernel
theorem dL_law_479 : decode cL_law 479 = .ok (.istore 6, 2) := by decide +kernel
theorem dL_law_481 : decode cL_law 481 = .ok (.aload_n 2, 1) := by decide +kernel
theorem dL_law_482 : decode cL_law 482 = .ok (.invokevirtual 148, 3) := by decide +kernel
theorem dL_law_485 : decode cL_law 485 = .ok (.iload 5, 2) := by decide +kernel
theorem dL_law_487 : decode cL_law 487 = .ok (.if_icmp .eq 5, 3) := by decide +kernel
theorem dL_law_490 : decode cL_law 490 = .ok (.iconst 0, 1) := by decide +kernel
theorem dL_law_491 : decode cL_law 491 = .ok (.ireturn, 1) := by decide +kernel
theorem dL_law_492 : decode cL_law 492 = .ok (.iload 5, 2) := by decide +kernel
theorem dL_law_494 : decode cL_law 494 = .ok (.ifCond .ne 15, 3) := by decide +kernel
theorem dL_law_497 : decode cL_law 497 = .ok (.aload_n 3, 1) := by decide +kernel
theorem dL_law_498 : decode cL_law 498 = .ok (.iconst 0, 1) := by decide +kernel
theorem dL_law_499 : decode cL_law 499 = .ok (.laload, 1) := by decide +kernel
theorem dL_law_500 : decode cL_law 500 = .ok (.iload 6, 2) := by decide +kernel
theorem dL_law_502 : decode cL_law 502 = .ok (.i2l, 1) := by decide +kernel
theorem dL_law_503 : decode cL_law 503 = .ok (.lcmp, 1) := by decide +kernel
theorem dL_law_504 : decode cL_law 504 = .ok (.ifCond .eq 5, 3) := by decide +kernel
theorem dL_law_507 : decode cL_law 507 = .ok (.iconst 0, 1) := by decide +kernel
theorem dL_law_508 : decode cL_law 508 = .ok (.ireturn, 1) := by decide +kernel
theorem dL_law_509 : decode cL_law 509 = .ok (.goto 2499, 3) := by decide +kernel
theorem dL_law_512 : decode cL_law 512 = .ok (.aload_n 1, 1) := by decide +kernel
theorem dL_law_513 : decode cL_law 513 = .ok (.aload_n 3, 1) := by decide +kernel
theorem dL_law_514 : decode cL_law 514 = .ok (.invokestatic 159, 3) := by decide +kernel
theorem dL_law_517 : decode cL_law 517 = .ok (.istore 5, 2) := by decide +kernel
theorem dL_law_519 : decode cL_law 519 = .ok (.aload_n 2, 1) := by decide +kernel
theorem dL_law_520 : decode cL_law 520 = .ok (.invokevirtual 161, 3) := by decide +kernel
theorem dL_law_523 : decode cL_law 523 = .ok (.istore 6, 2) := by decide +kernel
theorem dL_law_525 : decode cL_law 525 = .ok (.aload_n 2, 1) := by decide +kernel
theorem dL_law_526 : decode cL_law 526 = .ok (.invokevirtual 148, 3) := by decide +kernel
theorem dL_law_529 : decode cL_law 529 = .ok (.iload 5, 2) := by decide +kernel
theorem dL_law_531 : decode cL_law 531 = .ok (.if_icmp .eq 5, 3) := by decide +kernel
theorem dL_law_534 : decode cL_law 534 = .ok (.iconst 0, 1) := by decide +kernel
theorem dL_law_535 : decode cL_law 535 = .ok (.ireturn, 1) := by decide +kernel
theorem dL_law_536 : decode cL_law 536 = .ok (.iload 5, 2) := by decide +kernel
theorem dL_law_538 : decode cL_law 538 = .ok (.ifCond .ne 15, 3) := by decide +kernel
theorem dL_law_541 : decode cL_law 541 = .ok (.aload_n 3, 1) := by decide +kernel
theorem dL_law_542 : decode cL_law 542 = .ok (.iconst 0, 1) := by decide +kernel
theorem dL_law_543 : decode cL_law 543 = .ok (.laload, 1) := by decide +kernel
theorem dL_law_544 : decode cL_law 544 = .ok (.iload 6, 2) := by decide +kernel
theorem dL_law_546 : decode cL_law 546 = .ok (.i2l, 1) := by decide +kernel
theorem dL_law_547 : decode cL_law 547 = .ok (.lcmp, 1) := by decide +kernel
theorem dL_law_548 : decode cL_law 548 = .ok (.ifCond .eq 5, 3) := by decide +kernel
theorem dL_law_551 : decode cL_law 551 = .ok (.iconst 0, 1) := by decide +kernel
theorem dL_law_552 : decode cL_law 552 = .ok (.ireturn, 1) := by decide +kernel
theorem dL_law_553 : decode cL_law 553 = .ok (.goto 2455, 3) := by decide +kernel
theorem dL_law_556 : decode cL_law 556 = .ok (.aload_n 1, 1) := by decide +kernel
theorem dL_law_557 : decode cL_law 557 = .ok (.invokevirtual 162, 3) := by decide +kernel
theorem dL_law_560 : decode cL_law 560 = .ok (.aload_n 2, 1) := by decide +kernel
theorem dL_law_561 : decode cL_law 561 = .ok (.invokevirtual 165, 3) := by decide +kernel
theorem dL_law_564 : decode cL_law 564 = .ok (.if_icmp .eq 2444, 3) := by decide +kernel
theorem dL_law_567 : decode cL_law 567 = .ok (.iconst 0, 1) := by decide +kernel
theorem dL_law_568 : decode cL_law 568 = .ok (.ireturn, 1) := by decide +kernel
theorem dL_law_569 : decode cL_law 569 = .ok (.aload_n 1, 1) := by decide +kernel
theorem dL_law_570 : decode cL_law 570 = .ok (.invokevirtual 166, 3) := by decide +kernel
theorem dL_law_573 : decode cL_law 573 = .ok (.aload_n 2, 1) := by decide +kernel
theorem dL_law_574 : decode cL_law 574 = .ok (.invokevirtual 169, 3) := by decide +kernel
theorem dL_law_577 : decode cL_law 577 = .ok (.if_icmp .eq 2431, 3) := by decide +kernel
theorem dL_law_580 : decode cL_law 580 = .ok (.iconst 0, 1) := by decide +kernel
theorem dL_law_581 : decode cL_law 581 = .ok (.ireturn, 1) := by decide +kernel
theorem dL_law_582 : decode cL_law 582 = .ok (.aload_n 1, 1) := by decide +kernel
theorem dL_law_583 : decode cL_law 583 = .ok (.invokevirtual 170, 3) := by decide +kernel
theorem dL_law_586 : decode cL_law 586 = .ok (.aload_n 2, 1) := by decide +kernel
theorem dL_law_587 : decode cL_law 587 = .ok (.invokevirtual 173, 3) := by decide +kernel
theorem dL_law_590 : decode cL_law 590 = .ok (.if_icmp .eq 2418, 3) := by decide +kernel
theorem dL_law_593 : decode cL_law 593 = .ok (.iconst 0, 1) := by decide +kernel
theorem dL_law_594 : decode cL_law 594 = .ok (.ireturn, 1) := by decide +kernel
theorem dL_law_595 : decode cL_law 595 = .ok (.aload_n 1, 1) := by decide +kernel
theorem dL_law_596 : decode cL_law 596 = .ok (.invokevirtual 174, 3) := by decide +kernel
theorem dL_law_599 : decode cL_law 599 = .ok (.aload_n 2, 1) := by decide +kernel
theorem dL_law_600 : decode cL_law 600 = .ok (.invokevirtual 177, 3) := by decide +kernel
theorem dL_law_603 : decode cL_law 603 = .ok (.if_icmp .eq 2405, 3) := by decide +kernel
theorem dL_law_606 : decode cL_law 606 = .ok (.iconst 0, 1) := by decide +kernel
theorem dL_law_607 : decode cL_law 607 = .ok (.ireturn, 1) := by decide +kernel
theorem dL_law_608 : decode cL_law 608 = .ok (.aload_n 1, 1) := by decide +kernel
theorem dL_law_609 : decode cL_law 609 = .ok (.invokevirtual 178, 3) := by decide +kernel
theorem dL_law_612 : decode cL_law 612 = .ok (.aload_n 2, 1) := by decide +kernel
theorem dL_law_613 : decode cL_law 613 = .ok (.invokevirtual 181, 3) := by decide +kernel
theorem dL_law_616 : decode cL_law 616 = .ok (.if_icmp .eq 2392, 3) := by decide +kernel
theorem dL_law_619 : decode cL_law 619 = .ok (.iconst 0, 1) := by decide +kernel
theorem dL_law_620 : decode cL_law 620 = .ok (.ireturn, 1) := by decide +kernel
theorem dL_law_621 : decode cL_law 621 = .ok (.aload_n 1, 1) := by decide +kernel
theorem dL_law_622 : decode cL_law 622 = .ok (.invokevirtual 182, 3) := by decide +kernel
theorem dL_law_625 : decode cL_law 625 = .ok (.aload_n 2, 1) := by decide +kernel
theorem dL_law_626 : decode cL_law 626 = .ok (.invokevirtual 185, 3) := by decide +kernel
theorem dL_law_629 : decode cL_law 629 = .ok (.if_icmp .eq 2379, 3) := by decide +kernel
theorem dL_law_632 : decode cL_law 632 = .ok (.iconst 0, 1) := by decide +kernel
theorem dL_law_633 : decode cL_law 633 = .ok (.ireturn, 1) := by decide +kernel
theorem dL_law_634 : decode cL_law 634 = .ok (.aload_n 1, 1) := by decide +kernel
theorem dL_law_635 : decode cL_law 635 = .ok (.invokevirtual 186, 3) := by decide +kernel
theorem dL_law_638 : decode cL_law 638 = .ok (.aload_n 2, 1) := by decide +kernel
theorem dL_law_639 : decode cL_law 639 = .ok (.invokevirtual 189, 3) := by decide +kernel
theorem dL_law_642 : decode cL_law 642 = .ok (.if_icmp .eq 2366, 3) := by decide +kernel
theorem dL_law_645 : decode cL_law 645 = .ok (.iconst 0, 1) := by decide +kernel
theorem dL_law_646 : decode cL_law 646 = .ok (.ireturn, 1) := by decide +kernel
theorem dL_law_647 : decode cL_law 647 = .ok (.aload_n 1, 1) := by decide +kernel
theorem dL_law_648 : decode cL_law 648 = .ok (.invokevirtual 190, 3) := by decide +kernel
theorem dL_law_651 : decode cL_law 651 = .ok (.aload_n 2, 1) := by decide +kernel
theorem dL_law_652 : decode cL_law 652 = .ok (.invokevirtual 193, 3) := by decide +kernel
theorem dL_law_655 : decode cL_law 655 = .ok (.if_icmp .eq 2353, 3) := by decide +kernel
theorem dL_law_658 : decode cL_law 658 = .ok (.iconst 0, 1) := by decide +kernel
theorem dL_law_659 : decode cL_law 659 = .ok (.ireturn, 1) := by decide +kernel
theorem dL_law_660 : decode cL_law 660 = .ok (.aload_n 1, 1) := by decide +kernel
theorem dL_law_661 : decode cL_law 661 = .ok (.aload_n 0, 1) := by decide +kernel
theorem dL_law_662 : decode cL_law 662 = .ok (.iload 4, 2) := by decide +kernel
theorem dL_law_664 : decode cL_law 664 = .ok (.iconst 1, 1) := by decide +kernel
theorem dL_law_665 : decode cL_law 665 = .ok (.iadd, 1) := by decide +kernel
theorem dL_law_666 : decode cL_law 666 = .ok (.iaload, 1) := by decide +kernel
theorem dL_law_667 : decode cL_law 667 = .ok (.aload_n 3, 1) := by decide +kernel
theorem dL_law_668 : decode cL_law 668 = .ok (.invokestatic 194, 3) := by decide +kernel
theorem dL_law_671 : decode cL_law 671 = .ok (.istore 5, 2) := by decide +kernel
theorem dL_law_673 : decode cL_law 673 = .ok (.aload_n 2, 1) := by decide +kernel
theorem dL_law_674 : decode cL_law 674 = .ok (.aload_n 0, 1) := by decide +kernel
theorem dL_law_675 : decode cL_law 675 = .ok (.iload 4, 2) := by decide +kernel
theorem dL_law_677 : decode cL_law 677 = .ok (.iconst 1, 1) := by decide +kernel
theorem dL_law_678 : decode cL_law 678 = .ok (.iadd, 1) := by decide +kernel
theorem dL_law_679 : decode cL_law 679 = .ok (.iaload, 1) := by decide +kernel
theorem dL_law_680 : decode cL_law 680 = .ok (.invokevirtual 196, 3) := by decide +kernel
theorem dL_law_683 : decode cL_law 683 = .ok (.istore 6, 2) := by decide +kernel
theorem dL_law_685 : decode cL_law 685 = .ok (.aload_n 2, 1) := by decide +kernel
theorem dL_law_686 : decode cL_law 686 = .ok (.invokevirtual 148, 3) := by decide +kernel
theorem dL_law_689 : decode cL_law 689 = .ok (.iload 5, 2) := by decide +kernel
theorem dL_law_691 : decode cL_law 691 = .ok (.if_icmp .eq 5, 3) := by decide +kernel
theorem dL_law_694 : decode cL_law 694 = .ok (.iconst 0, 1) := by decide +kernel
theorem dL_law_695 : decode cL_law 695 = .ok (.ireturn, 1) := by decide +kernel
theorem dL_law_696 : decode cL_law 696 = .ok (.iload 5, 2) := by decide +kernel
theorem dL_law_698 : decode cL_law 698 = .ok (.ifCond .ne 15, 3) := by decide +kernel
theorem dL_law_701 : decode cL_law 701 = .ok (.aload_n 3, 1) := by decide +kernel
theorem dL_law_702 : decode cL_law 702 = .ok (.iconst 0, 1) := by decide +kernel
theorem dL_law_703 : decode cL_law 703 = .ok (.laload, 1) := by decide +kernel
theorem dL_law_704 : decode cL_law 704 = .ok (.iload 6, 2) := by decide +kernel
theorem dL_law_706 : decode cL_law 706 = .ok (.i2l, 1) := by decide +kernel
theorem dL_law_707 : decode cL_law 707 = .ok (.lcmp, 1) := by decide +kernel
theorem dL_law_708 : decode cL_law 708 = .ok (.ifCond .eq 5, 3) := by decide +kernel
theorem dL_law_711 : decode cL_law 711 = .ok (.iconst 0, 1) := by decide +kernel
theorem dL_law_712 : decode cL_law 712 = .ok (.ireturn, 1) := by decide +kernel
theorem dL_law_713 : decode cL_law 713 = .ok (.goto 2295, 3) := by decide +kernel
theorem dL_law_716 : decode cL_law 716 = .ok (.aload_n 1, 1) := by decide +kernel
theorem dL_law_717 : decode cL_law 717 = .ok (.aload_n 0, 1) := by decide +kernel
theorem dL_law_718 : decode cL_law 718 = .ok (.iload 4, 2) := by decide +kernel
theorem dL_law_720 : decode cL_law 720 = .ok (.iconst 1, 1) := by decide +kernel
theorem dL_law_721 : decode cL_law 721 = .ok (.iadd, 1) := by decide +kernel
theorem dL_law_722 : decode cL_law 722 = .ok (.iaload, 1) := by decide +kernel
theorem dL_law_723 : decode cL_law 723 = .ok (.aload_n 3, 1) := by decide +kernel
theorem dL_law_724 : decode cL_law 724 = .ok (.invokestatic 197, 3) := by decide +kernel
theorem dL_law_727 : decode cL_law 727 = .ok (.istore 5, 2) := by decide +kernel
theorem dL_law_729 : decode cL_law 729 = .ok (.aload_n 2, 1) := by decide +kernel
theorem dL_law_730 : decode cL_law 730 = .ok (.aload_n 0, 1) := by decide +kernel
theorem dL_law_731 : decode cL_law 731 = .ok (.iload 4, 2) := by decide +kernel
theorem dL_law_733 : decode cL_law 733 = .ok (.iconst 1, 1) := by decide +kernel
theorem dL_law_734 : decode cL_law 734 = .ok (.iadd, 1) := by decide +kernel
theorem dL_law_735 : decode cL_law 735 = .ok (.iaload, 1) := by decide +kernel
theorem dL_law_736 : decode cL_law 736 = .ok (.invokevirtual 199, 3) := by decide +kernel
theorem dL_law_739 : decode cL_law 739 = .ok (.istore 6, 2) := by decide +kernel
theorem dL_law_741 : decode cL_law 741 = .ok (.aload_n 2, 1) := by decide +kernel
theorem dL_law_742 : decode cL_law 742 = .ok (.invokevirtual 148, 3) := by decide +kernel
theorem dL_law_745 : decode cL_law 745 = .ok (.iload 5, 2) := by decide +kernel
theorem dL_law_747 : decode cL_law 747 = .ok (.if_icmp .eq 5, 3) := by decide +kernel
theorem dL_law_750 : decode cL_law 750 = .ok (.iconst 0, 1) := by decide +kernel
theorem dL_law_751 : decode cL_law 751 = .ok (.ireturn, 1) := by decide +kernel
theorem dL_law_752 : decode cL_law 752 = .ok (.iload 5, 2) := by decide +kernel
theorem dL_law_754 : decode cL_law 754 = .ok (.ifCond .ne 15, 3) := by decide +kernel
theorem dL_law_757 : decode cL_law 757 = .ok (.aload_n 3, 1) := by decide +kernel
theorem dL_law_758 : decode cL_law 758 = .ok (.iconst 0, 1) := by decide +kernel
theorem dL_law_759 : decode cL_law 759 = .ok (.laload, 1) := by decide +kernel
theorem dL_law_760 : decode cL_law 760 = .ok (.iload 6, 2) := by decide +kernel
theorem dL_law_762 : decode cL_law 762 = .ok (.i2l, 1) := by decide +kernel
theorem dL_law_763 : decode cL_law 763 = .ok (.lcmp, 1) := by decide +kernel
theorem dL_law_764 : decode cL_law 764 = .ok (.ifCond .eq 5, 3) := by decide +kernel
theorem dL_law_767 : decode cL_law 767 = .ok (.iconst 0, 1) := by decide +kernel
theorem dL_law_768 : decode cL_law 768 = .ok (.ireturn, 1) := by decide +kernel
theorem dL_law_769 : decode cL_law 769 = .ok (.goto 2239, 3) := by decide +kernel
theorem dL_law_772 : decode cL_law 772 = .ok (.aload_n 1, 1) := by decide +kernel
theorem dL_law_773 : decode cL_law 773 = .ok (.aload_n 0, 1) := by decide +kernel
theorem dL_law_774 : decode cL_law 774 = .ok (.iload 4, 2) := by decide +kernel
theorem dL_law_776 : decode cL_law 776 = .ok (.iconst 1, 1) := by decide +kernel
theorem dL_law_777 : decode cL_law 777 = .ok (.iadd, 1) := by decide +kernel
theorem dL_law_778 : decode cL_law 778 = .ok (.iaload, 1) := by decide +kernel
theorem dL_law_779 : decode cL_law 779 = .ok (.aload_n 3, 1) := by decide +kernel
theorem dL_law_780 : decode cL_law 780 = .ok (.invokestatic 200, 3) := by decide +kernel
theorem dL_law_783 : decode cL_law 783 = .ok (.istore 5, 2) := by decide +kernel
theorem dL_law_785 : decode cL_law 785 = .ok (.aload_n 2, 1) := by decide +kernel
theorem dL_law_786 : decode cL_law 786 = .ok (.aload_n 0, 1) := by decide +kernel
theorem dL_law_787 : decode cL_law 787 = .ok (.iload 4, 2) := by decide +kernel
theorem dL_law_789 : decode cL_law 789 = .ok (.iconst 1, 1) := by decide +kernel
theorem dL_law_790 : decode cL_law 790 = .ok (.iadd, 1) := by decide +kernel
theorem dL_law_791 : decode cL_law 791 = .ok (.iaload, 1) := by decide +kernel
theorem dL_law_792 : decode cL_law 792 = .ok (.invokevirtual 202, 3) := by decide +kernel
theorem dL_law_795 : decode cL_law 795 = .ok (.istore 6, 2) := by decide +kernel
theorem dL_law_797 : decode cL_law 797 = .ok (.aload_n 2, 1) := by decide +kernel
theorem dL_law_798 : decode cL_law 798 = .ok (.invokevirtual 148, 3) := by decide +kernel
theorem dL_law_801 : decode cL_law 801 = .ok (.iload 5, 2) := by decide +kernel
theorem dL_law_803 : decode cL_law 803 = .ok (.if_icmp .eq 5, 3) := by decide +kernel
theorem dL_law_806 : decode cL_law 806 = .ok (.iconst 0, 1) := by decide +kernel
theorem dL_law_807 : decode cL_law 807 = .ok (.ireturn, 1) := by decide +kernel
theorem dL_law_808 : decode cL_law 808 = .ok (.iload 5, 2) := by decide +kernel
theorem dL_law_810 : decode cL_law 810 = .ok (.ifCond .ne 15, 3) := by decide +kernel
theorem dL_law_813 : decode cL_law 813 = .ok (.aload_n 3, 1) := by decide +kernel
theorem dL_law_814 : decode cL_law 814 = .ok (.iconst 0, 1) := by decide +kernel
theorem dL_law_815 : decode cL_law 815 = .ok (.laload, 1) := by decide +kernel
theorem dL_law_816 : decode cL_law 816 = .ok (.iload 6, 2) := by decide +kernel
theorem dL_law_818 : decode cL_law 818 = .ok (.i2l, 1) := by decide +kernel
theorem dL_law_819 : decode cL_law 819 = .ok (.lcmp, 1) := by decide +kernel
theorem dL_law_820 : decode cL_law 820 = .ok (.ifCond .eq 5, 3) := by decide +kernel
theorem dL_law_823 : decode cL_law 823 = .ok (.iconst 0, 1) := by decide +kernel
theorem dL_law_824 : decode cL_law 824 = .ok (.ireturn, 1) := by decide +kernel
theorem dL_law_825 : decode cL_law 825 = .ok (.goto 2183, 3) := by decide +kernel
theorem dL_law_828 : decode cL_law 828 = .ok (.aload_n 1, 1) := by decide +kernel
theorem dL_law_829 : decode cL_law 829 = .ok (.aload_n 0, 1) := by decide +kernel
theorem dL_law_830 : decode cL_law 830 = .ok (.iload 4, 2) := by decide +kernel
theorem dL_law_832 : decode cL_law 832 = .ok (.iconst 1, 1) := by decide +kernel
theorem dL_law_833 : decode cL_law 833 = .ok (.iadd, 1) := by decide +kernel
theorem dL_law_834 : decode cL_law 834 = .ok (.iaload, 1) := by decide +kernel
theorem dL_law_835 : decode cL_law 835 = .ok (.aload_n 3, 1) := by decide +kernel
theorem dL_law_836 : decode cL_law 836 = .ok (.invokestatic 203, 3) := by decide +kernel
theorem dL_law_839 : decode cL_law 839 = .ok (.istore 5, 2) := by decide +kernel
theorem dL_law_841 : decode cL_law 841 = .ok (.aload_n 2, 1) := by decide +kernel
theorem dL_law_842 : decode cL_law 842 = .ok (.aload_n 0, 1) := by decide +kernel
theorem dL_law_843 : decode cL_law 843 = .ok (.iload 4, 2) := by decide +kernel
theorem dL_law_845 : decode cL_law 845 = .ok (.iconst 1, 1) := by decide +kernel
theorem dL_law_846 : decode cL_law 846 = .ok (.iadd, 1) := by decide +kernel
theorem dL_law_847 : decode cL_law 847 = .ok (.iaload, 1) := by decide +kernel
theorem dL_law_848 : decode cL_law 848 = .ok (.invokevirtual 205, 3) := by decide +kernel
theorem dL_law_851 : decode cL_law 851 = .ok (.istore 6, 2) := by decide +kernel
theorem dL_law_853 : decode cL_law 853 = .ok (.aload_n 2, 1) := by decide +kernel
theorem dL_law_854 : decode cL_law 854 = .ok (.invokevirtual 148, 3) := by decide +kernel
theorem dL_law_857 : decode cL_law 857 = .ok (.iload 5, 2) := by decide +kernel
theorem dL_law_859 : decode cL_law 859 = .ok (.if_icmp .eq 5, 3) := by decide +kernel
theorem dL_law_862 : decode cL_law 862 = .ok (.iconst 0, 1) := by decide +kernel
theorem dL_law_863 : decode cL_law 863 = .ok (.ireturn, 1) := by decide +kernel
theorem dL_law_864 : decode cL_law 864 = .ok (.iload 5, 2) := by decide +kernel
theorem dL_law_866 : decode cL_law 866 = .ok (.ifCond .ne 22, 3) := by decide +kernel
theorem dL_law_869 : decode cL_law 869 = .ok (.aload_n 3, 1) := by decide +kernel
theorem dL_law_870 : decode cL_law 870 = .ok (.iconst 0, 1) := by decide +kernel
theorem dL_law_871 : decode cL_law 871 = .ok (.laload, 1) := by decide +kernel
theorem dL_law_872 : decode cL_law 872 = .ok (.iload 6, 2) := by decide +kernel
theorem dL_law_874 : decode cL_law 874 = .ok (.ifCond .eq 7, 3) := by decide +kernel
theorem dL_law_877 : decode cL_law 877 = .ok (.lconst 1, 1) := by decide +kernel
theorem dL_law_878 : decode cL_law 878 = .ok (.goto 4, 3) := by decide +kernel
theorem dL_law_881 : decode cL_law 881 = .ok (.lconst 0, 1) := by decide +kernel
theorem dL_law_882 : decode cL_law 882 = .ok (.lcmp, 1) := by decide +kernel
theorem dL_law_883 : decode cL_law 883 = .ok (.ifCond .eq 5, 3) := by decide +kernel
theorem dL_law_886 : decode cL_law 886 = .ok (.iconst 0, 1) := by decide +kernel
theorem dL_law_887 : decode cL_law 887 = .ok (.ireturn, 1) := by decide +kernel
theorem dL_law_888 : decode cL_law 888 = .ok (.goto 2120, 3) := by decide +kernel
theorem dL_law_891 : decode cL_law 891 = .ok (.aload_n 1, 1) := by decide +kernel
theorem dL_law_892 : decode cL_law 892 = .ok (.aload_n 0, 1) := by decide +kernel
theorem dL_law_893 : decode cL_law 893 = .ok (.iload 4, 2) := by decide +kernel
theorem dL_law_895 : decode cL_law 895 = .ok (.iconst 1, 1) := by decide +kernel
theorem dL_law_896 : decode cL_law 896 = .ok (.iadd, 1) := by decide +kernel
theorem dL_law_897 : decode cL_law 897 = .ok (.iaload, 1) := by decide +kernel
theorem dL_law_898 : decode cL_law 898 = .ok (.aload_n 3, 1) := by decide +kernel
theorem dL_law_899 : decode cL_law 899 = .ok (.invokestatic 206, 3) := by decide +kernel
theorem dL_law_902 : decode cL_law 902 = .ok (.istore 5, 2) := by decide +kernel
theorem dL_law_904 : decode cL_law 904 = .ok (.aload_n 2, 1) := by decide +kernel
theorem dL_law_905 : decode cL_law 905 = .ok (.aload_n 0, 1) := by decide +kernel
theorem dL_law_906 : decode cL_law 906 = .ok (.iload 4, 2) := by decide +kernel
theorem dL_law_908 : decode cL_law 908 = .ok (.iconst 1, 1) := by decide +kernel
theorem dL_law_909 : decode cL_law 909 = .ok (.iadd, 1) := by decide +kernel
theorem dL_law_910 : decode cL_law 910 = .ok (.iaload, 1) := by decide +kernel
theorem dL_law_911 : decode cL_law 911 = .ok (.invokevirtual 208, 3) := by decide +kernel
theorem dL_law_914 : decode cL_law 914 = .ok (.istore 6, 2) := by decide +kernel
theorem dL_law_916 : decode cL_law 916 = .ok (.aload_n 2, 1) := by decide +kernel
theorem dL_law_917 : decode cL_law 917 = .ok (.invokevirtual 148, 3) := by decide +kernel
theorem dL_law_920 : decode cL_law 920 = .ok (.iload 5, 2) := by decide +kernel
theorem dL_law_922 : decode cL_law 922 = .ok (.if_icmp .eq 5, 3) := by decide +kernel
theorem dL_law_925 : decode cL_law 925 = .ok (.iconst 0, 1) := by decide +kernel
theorem dL_law_926 : decode cL_law 926 = .ok (.ireturn, 1) := by decide +kernel
theorem dL_law_927 : decode cL_law 927 = .ok (.iload 5, 2) := by decide +kernel
theorem dL_law_929 : decode cL_law 929 = .ok (.ifCond .ne 15, 3) := by decide +kernel
theorem dL_law_932 : decode cL_law 932 = .ok (.aload_n 3, 1) := by decide +kernel
theorem dL_law_933 : decode cL_law 933 = .ok (.iconst 0, 1) := by decide +kernel
theorem dL_law_934 : decode cL_law 934 = .ok (.laload, 1) := by decide +kernel
theorem dL_law_935 : decode cL_law 935 = .ok (.iload 6, 2) := by decide +kernel
theorem dL_law_937 : decode cL_law 937 = .ok (.i2l, 1) := by decide +kernel
theorem dL_law_938 : decode cL_law 938 = .ok (.lcmp, 1) := by decide +kernel
theorem dL_law_939 : decode cL_law 939 = .ok (.ifCond .eq 5, 3) := by decide +kernel
theorem dL_law_942 : decode cL_law 942 = .ok (.iconst 0, 1) := by decide +kernel
theorem dL_law_943 : decode cL_law 943 = .ok (.ireturn, 1) := by decide +kernel
theorem dL_law_944 : decode cL_law 944 = .ok (.goto 2064, 3) := by decide +kernel
theorem dL_law_947 : decode cL_law 947 = .ok (.aload_n 1, 1) := by decide +kernel
theorem dL_law_948 : decode cL_law 948 = .ok (.aload_n 0, 1) := by decide +kernel
theorem dL_law_949 : decode cL_law 949 = .ok (.iload 4, 2) := by decide +kernel
theorem dL_law_951 : decode cL_law 951 = .ok (.iconst 1, 1) := by decide +kernel
theorem dL_law_952 : decode cL_law 952 = .ok (.iadd, 1) := by decide +kernel
theorem dL_law_953 : decode cL_law 953 = .ok (.iaload, 1) := by decide +kernel
theorem dL_law_954 : decode cL_law 954 = .ok (.aload_n 3, 1) := by decide +kernel
theorem dL_law_955 : decode cL_law 955 = .ok (.invokestatic 209, 3) := by decide +kernel
theorem dL_law_958 : decode cL_law 958 = .ok (.istore 5, 2) := by decide +kernel
theorem dL_law_960 : decode cL_law 960 = .ok (.aload_n 2, 1) := by decide +kernel
theorem dL_law_961 : decode cL_law 961 = .ok (.aload_n 0, 1) := by decide +kernel
theorem dL_law_962 : decode cL_law 962 = .ok (.iload 4, 2) := by decide +kernel
theorem dL_law_964 : decode cL_law 964 = .ok (.iconst 1, 1) := by decide +kernel
theorem dL_law_965 : decode cL_law 965 = .ok (.iadd, 1) := by decide +kernel
theorem dL_law_966 : decode cL_law 966 = .ok (.iaload, 1) := by decide +kernel
theorem dL_law_967 : decode cL_law 967 = .ok (.invokevirtual 211, 3) := by decide +kernel
theorem dL_law_970 : decode cL_law 970 = .ok (.istore 6, 2) := by decide +kernel
theorem dL_law_972 : decode cL_law 972 = .ok (.aload_n 2, 1) := by decide +kernel
theorem dL_law_973 : decode cL_law 973 = .ok (.invokevirtual 148, 3) := by decide +kernel
theorem dL_law_976 : decode cL_law 976 = .ok (.iload 5, 2) := by decide +kernel
theorem dL_law_978 : decode cL_law 978 = .ok (.if_icmp .eq 5, 3) := by decide +kernel
theorem dL_law_981 : decode cL_law 981 = .ok (.iconst 0, 1) := by decide +kernel
theorem dL_law_982 : decode cL_law 982 = .ok (.ireturn, 1) := by decide +kernel
theorem dL_law_983 : decode cL_law 983 = .ok (.iload 5, 2) := by decide +kernel
theorem dL_law_985 : decode cL_law 985 = .ok (.ifCond .ne 22, 3) := by decide +kernel
theorem dL_law_988 : decode cL_law 988 = .ok (.aload_n 3, 1) := by decide +kernel
theorem dL_law_989 : decode cL_law 989 = .ok (.iconst 0, 1) := by decide +kernel
theorem dL_law_990 : decode cL_law 990 = .ok (.laload, 1) := by decide +kernel
theorem dL_law_991 : decode cL_law 991 = .ok (.iload 6, 2) := by decide +kernel
theorem dL_law_993 : decode cL_law 993 = .ok (.ifCond .eq 7, 3) := by decide +kernel
theorem dL_law_996 : decode cL_law 996 = .ok (.lconst 1, 1) := by decide +kernel
theorem dL_law_997 : decode cL_law 997 = .ok (.goto 4, 3) := by decide +kernel
theorem dL_law_1000 : decode cL_law 1000 = .ok (.lconst 0, 1) := by decide +kernel
theorem dL_law_1001 : decode cL_law 1001 = .ok (.lcmp, 1) := by decide +kernel
theorem dL_law_1002 : decode cL_law 1002 = .ok (.ifCond .eq 5, 3) := by decide +kernel
theorem dL_law_1005 : decode cL_law 1005 = .ok (.iconst 0, 1) := by decide +kernel
theorem dL_law_1006 : decode cL_law 1006 = .ok (.ireturn, 1) := by decide +kernel
theorem dL_law_1007 : decode cL_law 1007 = .ok (.goto 2001, 3) := by decide +kernel
theorem dL_law_1010 : decode cL_law 1010 = .ok (.aload_n 1, 1) := by decide +kernel
theorem dL_law_1011 : decode cL_law 1011 = .ok (.invokevirtual 212, 3) := by decide +kernel
theorem dL_law_1014 : decode cL_law 1014 = .ok (.aload_n 2, 1) := by decide +kernel
theorem dL_law_1015 : decode cL_law 1015 = .ok (.invokevirtual 215, 3) := by decide +kernel
theorem dL_law_1018 : decode cL_law 1018 = .ok (.if_icmp .eq 1990, 3) := by decide +kernel
theorem dL_law_1021 : decode cL_law 1021 = .ok (.iconst 0, 1) := by decide +kernel
theorem dL_law_1022 : decode cL_law 1022 = .ok (.ireturn, 1) := by decide +kernel
theorem dL_law_1023 : decode cL_law 1023 = .ok (.aload_n 1, 1) := by decide +kernel
theorem dL_law_1024 : decode cL_law 1024 = .ok (.aload_n 0, 1) := by decide +kernel
theorem dL_law_1025 : decode cL_law 1025 = .ok (.iload 4, 2) := by decide +kernel
theorem dL_law_1027 : decode cL_law 1027 = .ok (.iconst 1, 1) := by decide +kernel
theorem dL_law_1028 : decode cL_law 1028 = .ok (.iadd, 1) := by decide +kernel
theorem dL_law_1029 : decode cL_law 1029 = .ok (.iaload, 1) := by decide +kernel
theorem dL_law_1030 : decode cL_law 1030 = .ok (.aload_n 3, 1) := by decide +kernel
theorem dL_law_1031 : decode cL_law 1031 = .ok (.invokestatic 216, 3) := by decide +kernel
theorem dL_law_1034 : decode cL_law 1034 = .ok (.istore 5, 2) := by decide +kernel
theorem dL_law_1036 : decode cL_law 1036 = .ok (.aload_n 2, 1) := by decide +kernel
theorem dL_law_1037 : decode cL_law 1037 = .ok (.aload_n 0, 1) := by decide +kernel
theorem dL_law_1038 : decode cL_law 1038 = .ok (.iload 4, 2) := by decide +kernel
theorem dL_law_1040 : decode cL_law 1040 = .ok (.iconst 1, 1) := by decide +kernel
theorem dL_law_1041 : decode cL_law 1041 = .ok (.iadd, 1) := by decide +kernel
theorem dL_law_1042 : decode cL_law 1042 = .ok (.iaload, 1) := by decide +kernel
theorem dL_law_1043 : decode cL_law 1043 = .ok (.invokevirtual 218, 3) := by decide +kernel
theorem dL_law_1046 : decode cL_law 1046 = .ok (.istore 6, 2) := by decide +kernel
theorem dL_law_1048 : decode cL_law 1048 = .ok (.aload_n 2, 1) := by decide +kernel
theorem dL_law_1049 : decode cL_law 1049 = .ok (.invokevirtual 148, 3) := by decide +kernel
theorem dL_law_1052 : decode cL_law 1052 = .ok (.iload 5, 2) := by decide +kernel
theorem dL_law_1054 : decode cL_law 1054 = .ok (.if_icmp .eq 5, 3) := by decide +kernel
theorem dL_law_1057 : decode cL_law 1057 = .ok (.iconst 0, 1) := by decide +kernel
theorem dL_law_1058 : decode cL_law 1058 = .ok (.ireturn, 1) := by decide +kernel
theorem dL_law_1059 : decode cL_law 1059 = .ok (.iload 5, 2) := by decide +kernel
theorem dL_law_1061 : decode cL_law 1061 = .ok (.ifCond .ne 15, 3) := by decide +kernel
theorem dL_law_1064 : decode cL_law 1064 = .ok (.aload_n 3, 1) := by decide +kernel
theorem dL_law_1065 : decode cL_law 1065 = .ok (.iconst 0, 1) := by decide +kernel
theorem dL_law_1066 : decode cL_law 1066 = .ok (.laload, 1) := by decide +kernel
theorem dL_law_1067 : decode cL_law 1067 = .ok (.iload 6, 2) := by decide +kernel
theorem dL_law_1069 : decode cL_law 1069 = .ok (.i2l, 1) := by decide +kernel
theorem dL_law_1070 : decode cL_law 1070 = .ok (.lcmp, 1) := by decide +kernel
theorem dL_law_1071 : decode cL_law 1071 = .ok (.ifCond .eq 5, 3) := by decide +kernel
theorem dL_law_1074 : decode cL_law 1074 = .ok (.iconst 0, 1) := by decide +kernel
theorem dL_law_1075 : decode cL_law 1075 = .ok (.ireturn, 1) := by decide +kernel
theorem dL_law_1076 : decode cL_law 1076 = .ok (.goto 1932, 3) := by decide +kernel
theorem dL_law_1079 : decode cL_law 1079 = .ok (.aload_n 1, 1) := by decide +kernel
theorem dL_law_1080 : decode cL_law 1080 = .ok (.aload_n 0, 1) := by decide +kernel
theorem dL_law_1081 : decode cL_law 1081 = .ok (.iload 4, 2) := by decide +kernel
theorem dL_law_1083 : decode cL_law 1083 = .ok (.iconst 1, 1) := by decide +kernel
theorem dL_law_1084 : decode cL_law 1084 = .ok (.iadd, 1) := by decide +kernel
theorem dL_law_1085 : decode cL_law 1085 = .ok (.iaload, 1) := by decide +kernel
theorem dL_law_1086 : decode cL_law 1086 = .ok (.aload_n 0, 1) := by decide +kernel
theorem dL_law_1087 : decode cL_law 1087 = .ok (.iload 4, 2) := by decide +kernel
theorem dL_law_1089 : decode cL_law 1089 = .ok (.iconst 2, 1) := by decide +kernel
theorem dL_law_1090 : decode cL_law 1090 = .ok (.iadd, 1) := by decide +kernel
theorem dL_law_1091 : decode cL_law 1091 = .ok (.iaload, 1) := by decide +kernel
theorem dL_law_1092 : decode cL_law 1092 = .ok (.aload_n 0, 1) := by decide +kernel
theorem dL_law_1093 : decode cL_law 1093 = .ok (.iload 4, 2) := by decide +kernel
theorem dL_law_1095 : decode cL_law 1095 = .ok (.iconst 3, 1) := by decide +kernel
theorem dL_law_1096 : decode cL_law 1096 = .ok (.iadd, 1) := by decide +kernel
theorem dL_law_1097 : decode cL_law 1097 = .ok (.iaload, 1) := by decide +kernel
theorem dL_law_1098 : decode cL_law 1098 = .ok (.aload_n 3, 1) := by decide +kernel
theorem dL_law_1099 : decode cL_law 1099 = .ok (.invokestatic 219, 3) := by decide +kernel
theorem dL_law_1102 : decode cL_law 1102 = .ok (.istore 5, 2) := by decide +kernel
theorem dL_law_1104 : decode cL_law 1104 = .ok (.aload_n 2, 1) := by decide +kernel
theorem dL_law_1105 : decode cL_law 1105 = .ok (.aload_n 0, 1) := by decide +kernel
theorem dL_law_1106 : decode cL_law 1106 = .ok (.iload 4, 2) := by decide +kernel
theorem dL_law_1108 : decode cL_law 1108 = .ok (.iconst 1, 1) := by decide +kernel
theorem dL_law_1109 : decode cL_law 1109 = .ok (.iadd, 1) := by decide +kernel
theorem dL_law_1110 : decode cL_law 1110 = .ok (.iaload, 1) := by decide +kernel
theorem dL_law_1111 : decode cL_law 1111 = .ok (.aload_n 0, 1) := by decide +kernel
theorem dL_law_1112 : decode cL_law 1112 = .ok (.iload 4, 2) := by decide +kernel
theorem dL_law_1114 : decode cL_law 1114 = .ok (.iconst 2, 1) := by decide +kernel
theorem dL_law_1115 : decode cL_law 1115 = .ok (.iadd, 1) := by decide +kernel
theorem dL_law_1116 : decode cL_law 1116 = .ok (.iaload, 1) := by decide +kernel
theorem dL_law_1117 : decode cL_law 1117 = .ok (.aload_n 0, 1) := by decide +kernel
theorem dL_law_1118 : decode cL_law 1118 = .ok (.iload 4, 2) := by decide +kernel
theorem dL_law_1120 : decode cL_law 1120 = .ok (.iconst 3, 1) := by decide +kernel
theorem dL_law_1121 : decode cL_law 1121 = .ok (.iadd, 1) := by decide +kernel
theorem dL_law_1122 : decode cL_law 1122 = .ok (.iaload, 1) := by decide +kernel
theorem dL_law_1123 : decode cL_law 1123 = .ok (.invokevirtual 222, 3) := by decide +kernel
theorem dL_law_1126 : decode cL_law 1126 = .ok (.istore 6, 2) := by decide +kernel
theorem dL_law_1128 : decode cL_law 1128 = .ok (.aload_n 2, 1) := by decide +kernel
theorem dL_law_1129 : decode cL_law 1129 = .ok (.invokevirtual 148, 3) := by decide +kernel
theorem dL_law_1132 : decode cL_law 1132 = .ok (.iload 5, 2) := by decide +kernel
theorem dL_law_1134 : decode cL_law 1134 = .ok (.if_icmp .eq 5, 3) := by decide +kernel
theorem dL_law_1137 : decode cL_law 1137 = .ok (.iconst 0, 1) := by decide +kernel
theorem dL_law_1138 : decode cL_law 1138 = .ok (.ireturn, 1) := by decide +kernel
theorem dL_law_1139 : decode cL_law 1139 = .ok (.iload 5, 2) := by decide +kernel
theorem dL_law_1141 : decode cL_law 1141 = .ok (.ifCond .ne 15, 3) := by decide +kernel
theorem dL_law_1144 : decode cL_law 1144 = .ok (.aload_n 3, 1) := by decide +kernel
theorem dL_law_1145 : decode cL_law 1145 = .ok (.iconst 0, 1) := by decide +kernel
theorem dL_law_1146 : decode cL_law 1146 = .ok (.laload, 1) := by decide +kernel
theorem dL_law_1147 : decode cL_law 1147 = .ok (.iload 6, 2) := by decide +kernel
theorem dL_law_1149 : decode cL_law 1149 = .ok (.i2l, 1) := by decide +kernel
theorem dL_law_1150 : decode cL_law 1150 = .ok (.lcmp, 1) := by decide +kernel
theorem dL_law_1151 : decode cL_law 1151 = .ok (.ifCond .eq 5, 3) := by decide +kernel
theorem dL_law_1154 : decode cL_law 1154 = .ok (.iconst 0, 1) := by decide +kernel
theorem dL_law_1155 : decode cL_law 1155 = .ok (.ireturn, 1) := by decide +kernel
theorem dL_law_1156 : decode cL_law 1156 = .ok (.goto 1852, 3) := by decide +kernel
theorem dL_law_1159 : decode cL_law 1159 = .ok (.aload_n 1, 1) := by decide +kernel
theorem dL_law_1160 : decode cL_law 1160 = .ok (.aload_n 0, 1) := by decide +kernel
theorem dL_law_1161 : decode cL_law 1161 = .ok (.iload 4, 2) := by decide +kernel
theorem dL_law_1163 : decode cL_law 1163 = .ok (.iconst 1, 1) := by decide +kernel
theorem dL_law_1164 : decode cL_law 1164 = .ok (.iadd, 1) := by decide +kernel
theorem dL_law_1165 : decode cL_law 1165 = .ok (.iaload, 1) := by decide +kernel
theorem dL_law_1166 : decode cL_law 1166 = .ok (.aload_n 3, 1) := by decide +kernel
theorem dL_law_1167 : decode cL_law 1167 = .ok (.invokestatic 223, 3) := by decide +kernel
theorem dL_law_1170 : decode cL_law 1170 = .ok (.istore 5, 2) := by decide +kernel
theorem dL_law_1172 : decode cL_law 1172 = .ok (.aload_n 2, 1) := by decide +kernel
theorem dL_law_1173 : decode cL_law 1173 = .ok (.aload_n 0, 1) := by decide +kernel
theorem dL_law_1174 : decode cL_law 1174 = .ok (.iload 4, 2) := by decide +kernel
theorem dL_law_1176 : decode cL_law 1176 = .ok (.iconst 1, 1) := by decide +kernel
theorem dL_law_1177 : decode cL_law 1177 = .ok (.iadd, 1) := by decide +kernel
theorem dL_law_1178 : decode cL_law 1178 = .ok (.iaload, 1) := by decide +kernel
theorem dL_law_1179 : decode cL_law 1179 = .ok (.invokevirtual 225, 3) := by decide +kernel
theorem dL_law_1182 : decode cL_law 1182 = .ok (.istore 6, 2) := by decide +kernel
theorem dL_law_1184 : decode cL_law 1184 = .ok (.aload_n 2, 1) := by decide +kernel
theorem dL_law_1185 : decode cL_law 1185 = .ok (.invokevirtual 148, 3) := by decide +kernel
theorem dL_law_1188 : decode cL_law 1188 = .ok (.iload 5, 2) := by decide +kernel
theorem dL_law_1190 : decode cL_law 1190 = .ok (.if_icmp .eq 5, 3) := by decide +kernel
theorem dL_law_1193 : decode cL_law 1193 = .ok (.iconst 0, 1) := by decide +kernel
theorem dL_law_1194 : decode cL_law 1194 = .ok (.ireturn, 1) := by decide +kernel
theorem dL_law_1195 : decode cL_law 1195 = .ok (.iload 5, 2) := by decide +kernel
theorem dL_law_1197 : decode cL_law 1197 = .ok (.ifCond .ne 15, 3) := by decide +kernel
theorem dL_law_1200 : decode cL_law 1200 = .ok (.aload_n 3, 1) := by decide +kernel
theorem dL_law_1201 : decode cL_law 1201 = .ok (.iconst 0, 1) := by decide +kernel
theorem dL_law_1202 : decode cL_law 1202 = .ok (.laload, 1) := by decide +kernel
theorem dL_law_1203 : decode cL_law 1203 = .ok (.iload 6, 2) := by decide +kernel
theorem dL_law_1205 : decode cL_law 1205 = .ok (.i2l, 1) := by decide +kernel
theorem dL_law_1206 : decode cL_law 1206 = .ok (.lcmp, 1) := by decide +kernel
theorem dL_law_1207 : decode cL_law 1207 = .ok (.ifCond .eq 5, 3) := by decide +kernel
theorem dL_law_1210 : decode cL_law 1210 = .ok (.iconst 0, 1) := by decide +kernel
theorem dL_law_1211 : decode cL_law 1211 = .ok (.ireturn, 1) := by decide +kernel
theorem dL_law_1212 : decode cL_law 1212 = .ok (.goto 1796, 3) := by decide +kernel
theorem dL_law_3008 : decode cL_law 3008 = .ok (.iinc 4 6, 3) := by decide +kernel
theorem dL_law_3011 : decode cL_law 3011 = .ok (.goto (-2988), 3) := by decide +kernel
theorem dL_law_3014 : decode cL_law 3014 = .ok (.iconst 1, 1) := by decide +kernel
theorem dL_law_3015 : decode cL_law 3015 = .ok (.ireturn, 1) := by decide +kernel
theorem la0N {w : WP} (hW : gW w) (hM : gWM w) (hS : gS w) (hZ : gZ w) (hO : wFr w (14, 13, 0, 0)) {X : CX} (C : gC w X cL_law "HedgeMessagesLaw" (some .boolean) 15 9) {b L : Nat} {xs : Nat → Int32} (hX : gSc X b L xs) {S : Nat → Nat → HV} {τ : HV} {o : Nat → Int64} {i : Int32} {p1 : Int32} (h1 : vp_in (i + 1) L ∧ xs (i + 1).toNatClampNeg = p1) {p2 : Int32} (h2 : vp_in (i + 2) L ∧ xs (i + 2).toNatClampNeg = p2) {p3 : Int32} (h3 : vp_in (i + 3) L ∧ xs (i + 3).toNatClampNeg = p3) {p4 : Int32} (h4 : vp_in (i + 4) L ∧ xs (i + 4).toNatClampNeg = p4) {p5 : Int32} (h5 : vp_in (i + 5) L ∧ xs (i + 5).toNatClampNeg = p5) (N : Nat) {v : Int32} {S' : Nat → Nat → HV} (hF : F_X10_append p1 p2 p3 p4 p5 S = some (.inl (v, S'))) {τ' : HV} (hG : F_X11_append N p1 p2 p3 p4 p5 τ = some (v, τ')) (ht : F_X11_thrown τ' = 0) {Q1 : State → Prop} {c n : Nat} (hq : qOk X (Q1, c, n)) (kk : gU w X (Q1, c, n) (cA w (S', τ', (vp_updL o 0 v.toInt64))) 3008 [(4, .int i), (0, .ref b), (1, .ref (wAd w (7, 11, 6, 0))), (2, .ref (wAd w (11, 12, 0, 0))), (3, .ref (wAd w (14, 13, 0, 0)))] []) : gU w X (Q1, c, n) (cA w (S, τ, o)) 308 [(4, .int i), (0, .ref b), (1, .ref (wAd w (7, 11, 6, 0))), (2, .ref (wAd w (11, 12, 0, 0))), (3, .ref (wAd w (14, 13, 0, 0)))] [] := by
  refine r_aload_n C (k := 2) rfl rfl dL_law_308 ?_
  refine r_aload_n C (k := 1) rfl rfl dL_law_309 ?_
  refine r_iload C (k := 0) rfl dL_law_310 ?_
  refine r_iconst C (v := 1) rfl dL_law_312 ?_
  refine r_iadd C dL_law_313 ?_
  refine r_sld C hX h1.1 h1.2 dL_law_314 ?_
  refine r_aload_n C (k := 1) rfl rfl dL_law_315 ?_
  refine r_iload C (k := 0) rfl dL_law_316 ?_
  refine r_iconst C (v := 2) rfl dL_law_318 ?_
  refine r_iadd C dL_law_319 ?_
  refine r_sld C hX h2.1 h2.2 dL_law_320 ?_
  refine r_aload_n C (k := 1) rfl rfl dL_law_321 ?_
  refine r_iload C (k := 0) rfl dL_law_322 ?_
  refine r_iconst C (v := 3) rfl dL_law_324 ?_
  refine r_iadd C dL_law_325 ?_
  refine r_sld C hX h3.1 h3.2 dL_law_326 ?_
  refine r_aload_n C (k := 1) rfl rfl dL_law_327 ?_
  refine r_iload C (k := 0) rfl dL_law_328 ?_
  refine r_iconst C (v := 4) rfl dL_law_330 ?_
  refine r_iadd C dL_law_331 ?_
  refine r_sld C hX h4.1 h4.2 dL_law_332 ?_
  refine r_aload_n C (k := 1) rfl rfl dL_law_333 ?_
  refine r_iload C (k := 0) rfl dL_law_334 ?_
  refine r_iconst C (v := 5) rfl dL_law_336 ?_
  refine r_iadd C dL_law_337 ?_
  refine r_sld C hX h5.1 h5.2 dL_law_338 ?_
  refine r_aload_n C (k := 4) rfl rfl dL_law_339 ?_
  refine r_callH C (ny := 7) (d' := 7) (mc := 0) (ms := 0) [.ref (wAd w (7, 11, 6, 0)), .int p1, .int p2, .int p3, .int p4, .int p5, .ref (wAd w (14, 13, 0, 0))] (kL_append hW hS hO (Ω := (S, τ, o)) rfl p1 p2 p3 p4 p5 hF) cwL_append rfl wm1_0 wm3_152 ⟨by decide, by decide, by decide +kernel⟩ wm3_151 rfl (kR rfl) (by decide) (kR rfl) rfl dL_law_340 hq ?_
  refine r_istore C (lo' := [(5, .int 0), (4, .int i), (0, .ref b), (1, .ref (wAd w (7, 11, 6, 0))), (2, .ref (wAd w (11, 12, 0, 0))), (3, .ref (wAd w (14, 13, 0, 0)))]) (by decide) rfl dL_law_343 ?_
  refine r_aload_n C (k := 4) rfl rfl dL_law_345 ?_
  refine r_aload_n C (k := 2) rfl rfl dL_law_346 ?_
  refine r_iload C (k := 1) rfl dL_law_347 ?_
  refine r_iconst C (v := 1) rfl dL_law_349 ?_
  refine r_iadd C dL_law_350 ?_
  refine r_sld C hX h1.1 h1.2 dL_law_351 ?_
  refine r_aload_n C (k := 2) rfl rfl dL_law_352 ?_
  refine r_iload C (k := 1) rfl dL_law_353 ?_
  refine r_iconst C (v := 2) rfl dL_law_355 ?_
  refine r_iadd C dL_law_356 ?_
  refine r_sld C hX h2.1 h2.2 dL_law_357 ?_
  refine r_aload_n C (k := 2) rfl rfl dL_law_358 ?_
  refine r_iload C (k := 1) rfl dL_law_359 ?_
  refine r_iconst C (v := 3) rfl dL_law_361 ?_
  refine r_iadd C dL_law_362 ?_
  refine r_sld C hX h3.1 h3.2 dL_law_363 ?_
  refine r_aload_n C (k := 2) rfl rfl dL_law_364 ?_
  refine r_iload C (k := 1) rfl dL_law_365 ?_
  refine r_iconst C (v := 4) rfl dL_law_367 ?_
  refine r_iadd C dL_law_368 ?_
  refine r_sld C hX h4.1 h4.2 dL_law_369 ?_
  refine r_aload_n C (k := 2) rfl rfl dL_law_370 ?_
  refine r_iload C (k := 1) rfl dL_law_371 ?_
  refine r_iconst C (v := 5) rfl dL_law_373 ?_
  refine r_iadd C dL_law_374 ?_
  refine r_sld C hX h5.1 h5.2 dL_law_375 ?_
  refine r_callV C (d' := 1) [.int p1, .int p2, .int p3, .int p4, .int p5] (c_X11_append hM (Ω := (S', τ, (vp_updL o 0 v.toInt64))) rfl N p1 p2 p3 p4 p5 hG rfl) myX11_append wm7_141 ⟨_, _, _, _, (hM.ok k11), rfl, rfl, rfl, rfl⟩ rfl (kR rfl) (by decide) (kR rfl) rfl dL_law_376 ?_
  refine r_istore C (lo' := [(6, .int v), (5, .int 0), (4, .int i), (0, .ref b), (1, .ref (wAd w (7, 11, 6, 0))), (2, .ref (wAd w (11, 12, 0, 0))), (3, .ref (wAd w (14, 13, 0, 0)))]) (by decide) rfl dL_law_379 ?_
  refine r_aload_n C (k := 5) rfl rfl dL_law_381 ?_
  refine r_callV C (d' := 0) [] (c_X11_thrown hM (Ω := (S', τ', (vp_updL o 0 v.toInt64))) rfl ht) myX11_thrown wm7_137 ⟨_, _, _, _, (hM.ok k11), rfl, rfl, rfl, rfl⟩ rfl (kR rfl) (by decide) (kR rfl) rfl dL_law_382 ?_
  refine r_iload C (k := 1) rfl dL_law_385 ?_
  refine r_icmp_eq C (tgt := 392) rfl dL_law_387 (fun _ => ?_) (fun h => absurd rfl h)
  refine r_iload C (k := 1) rfl dL_law_392 ?_
  refine r_if_ne C (tgt := 409) rfl dL_law_394 (fun h => absurd rfl h) (fun _ => ?_)
  refine r_aload_n C (k := 6) rfl rfl dL_law_397 ?_
  refine r_iconst C (v := 0) rfl dL_law_398 ?_
  refine r_lald C (o := (vp_updL o 0 v.toInt64)) (hM.1 |> fun _ => hW.2.2.2.1 _ hO) rfl dL_law_399 ?_
  refine r_iload C (k := 0) rfl dL_law_400 ?_
  refine r_i2l C (v := v.toInt64) rfl dL_law_402 ?_
  refine r_lcmp C dL_law_403 ?_
  refine r_if_eq C (tgt := 409) rfl dL_law_404 (fun _ => ?_) (fun h => absurd (lgself _) h)
  refine r_goto C (tgt := 3008) rfl dL_law_409 ?_
  refine r_lo [2, 3, 4, 5, 6] (lo' := [(4, .int i), (0, .ref b), (1, .ref (wAd w (7, 11, 6, 0))), (2, .ref (wAd w (11, 12, 0, 0))), (3, .ref (wAd w (14, 13, 0, 0)))]) rfl ?_
  exact kk
theorem la0X1 {w : WP} (hW : gW w) (hM : gWM w) (hS : gS w) (hZ : gZ w) (hO : wFr w (14, 13, 0, 0)) {X : CX} (C : gC w X cL_law "HedgeMessagesLaw" (some .boolean) 15 9) {b L : Nat} {xs : Nat → Int32} (hX : gSc X b L xs) {S : Nat → Nat → HV} {τ : HV} {o : Nat → Int64} {i : Int32} {p1 : Int32} (h1 : vp_in (i + 1) L ∧ xs (i + 1).toNatClampNeg = p1) {p2 : Int32} (h2 : vp_in (i + 2) L ∧ xs (i + 2).toNatClampNeg = p2) {p3 : Int32} (h3 : vp_in (i + 3) L ∧ xs (i + 3).toNatClampNeg = p3) {p4 : Int32} (h4 : vp_in (i + 4) L ∧ xs (i + 4).toNatClampNeg = p4) {p5 : Int32} (h5 : vp_in (i + 5) L ∧ xs (i + 5).toNatClampNeg = p5) (N : Nat) {S' : Nat → Nat → HV} (hF : F_X10_append p1 p2 p3 p4 p5 S = some (.inr (1, S'))) {b9 : Int32} {τ' : HV} (hG : F_X11_append N p1 p2 p3 p4 p5 τ = some (b9, τ')) (ht : F_X11_thrown τ' = 1) {Q1 : State → Prop} {c n : Nat} (hq1 : qOk X (Q1, c + 1, n + 6)) (kk : gU w X (Q1, c + 1, n + 6) (cA w (S', τ', o)) 3008 [(4, .int i), (0, .ref b), (1, .ref (wAd w (7, 11, 6, 0))), (2, .ref (wAd w (11, 12, 0, 0))), (3, .ref (wAd w (14, 13, 0, 0)))] []) : gU w X (Q1, c, n) (cA w (S, τ, o)) 308 [(4, .int i), (0, .ref b), (1, .ref (wAd w (7, 11, 6, 0))), (2, .ref (wAd w (11, 12, 0, 0))), (3, .ref (wAd w (14, 13, 0, 0)))] [] := by
  have hq : qOk X (Q1, c + 1, n + 6) := hq1
  refine r_aload_n C (k := 2) rfl rfl dL_law_308 ?_
  refine r_aload_n C (k := 1) rfl rfl dL_law_309 ?_
  refine r_iload C (k := 0) rfl dL_law_310 ?_
  refine r_iconst C (v := 1) rfl dL_law_312 ?_
  refine r_iadd C dL_law_313 ?_
  refine r_sld C hX h1.1 h1.2 dL_law_314 ?_
  refine r_aload_n C (k := 1) rfl rfl dL_law_315 ?_
  refine r_iload C (k := 0) rfl dL_law_316 ?_
  refine r_iconst C (v := 2) rfl dL_law_318 ?_
  refine r_iadd C dL_law_319 ?_
  refine r_sld C hX h2.1 h2.2 dL_law_320 ?_
  refine r_aload_n C (k := 1) rfl rfl dL_law_321 ?_
  refine r_iload C (k := 0) rfl dL_law_322 ?_
  refine r_iconst C (v := 3) rfl dL_law_324 ?_
  refine r_iadd C dL_law_325 ?_
  refine r_sld C hX h3.1 h3.2 dL_law_326 ?_
  refine r_aload_n C (k := 1) rfl rfl dL_law_327 ?_
  refine r_iload C (k := 0) rfl dL_law_328 ?_
  refine r_iconst C (v := 4) rfl dL_law_330 ?_
  refine r_iadd C dL_law_331 ?_
  refine r_sld C hX h4.1 h4.2 dL_law_332 ?_
  refine r_aload_n C (k := 1) rfl rfl dL_law_333 ?_
  refine r_iload C (k := 0) rfl dL_law_334 ?_
  refine r_iconst C (v := 5) rfl dL_law_336 ?_
  refine r_iadd C dL_law_337 ?_
  refine r_sld C hX h5.1 h5.2 dL_law_338 ?_
  refine r_aload_n C (k := 4) rfl rfl dL_law_339 ?_
  refine r_callH C (ny := 7) (d' := 7) (mc := 1) (ms := 6) [.ref (wAd w (7, 11, 6, 0)), .int p1, .int p2, .int p3, .int p4, .int p5, .ref (wAd w (14, 13, 0, 0))] (xL_append_1 hW hS hZ (Ω := (S, τ, o)) rfl p1 p2 p3 p4 p5 hF) cwL_append rfl wm1_0 wm3_152 ⟨by decide, by decide, by decide +kernel⟩ wm3_151 rfl (kR rfl) (by decide) (kR rfl) rfl dL_law_340 hq1 ?_
  refine r_istore C (lo' := [(5, .int 1), (4, .int i), (0, .ref b), (1, .ref (wAd w (7, 11, 6, 0))), (2, .ref (wAd w (11, 12, 0, 0))), (3, .ref (wAd w (14, 13, 0, 0)))]) (by decide) rfl dL_law_343 ?_
  refine r_aload_n C (k := 4) rfl rfl dL_law_345 ?_
  refine r_aload_n C (k := 2) rfl rfl dL_law_346 ?_
  refine r_iload C (k := 1) rfl dL_law_347 ?_
  refine r_iconst C (v := 1) rfl dL_law_349 ?_
  refine r_iadd C dL_law_350 ?_
  refine r_sld C hX h1.1 h1.2 dL_law_351 ?_
  refine r_aload_n C (k := 2) rfl rfl dL_law_352 ?_
  refine r_iload C (k := 1) rfl dL_law_353 ?_
  refine r_iconst C (v := 2) rfl dL_law_355 ?_
  refine r_iadd C dL_law_356 ?_
  refine r_sld C hX h2.1 h2.2 dL_law_357 ?_
  refine r_aload_n C (k := 2) rfl rfl dL_law_358 ?_
  refine r_iload C (k := 1) rfl dL_law_359 ?_
  refine r_iconst C (v := 3) rfl dL_law_361 ?_
  refine r_iadd C dL_law_362 ?_
  refine r_sld C hX h3.1 h3.2 dL_law_363 ?_
  refine r_aload_n C (k := 2) rfl rfl dL_law_364 ?_
  refine r_iload C (k := 1) rfl dL_law_365 ?_
  refine r_iconst C (v := 4) rfl dL_law_367 ?_
  refine r_iadd C dL_law_368 ?_
  refine r_sld C hX h4.1 h4.2 dL_law_369 ?_
  refine r_aload_n C (k := 2) rfl rfl dL_law_370 ?_
  refine r_iload C (k := 1) rfl dL_law_371 ?_
  refine r_iconst C (v := 5) rfl dL_law_373 ?_
  refine r_iadd C dL_law_374 ?_
  refine r_sld C hX h5.1 h5.2 dL_law_375 ?_
  refine r_callV C (d' := 1) [.int p1, .int p2, .int p3, .int p4, .int p5] (c_X11_append hM (Ω := (S', τ, o)) rfl N p1 p2 p3 p4 p5 hG rfl) myX11_append wm7_141 ⟨_, _, _, _, (hM.ok k11), rfl, rfl, rfl, rfl⟩ rfl (kR rfl) (by decide) (kR rfl) rfl dL_law_376 ?_
  refine r_istore C (lo' := [(6, .int b9), (5, .int 1), (4, .int i), (0, .ref b), (1, .ref (wAd w (7, 11, 6, 0))), (2, .ref (wAd w (11, 12, 0, 0))), (3, .ref (wAd w (14, 13, 0, 0)))]) (by decide) rfl dL_law_379 ?_
  refine r_aload_n C (k := 5) rfl rfl dL_law_381 ?_
  refine r_callV C (d' := 0) [] (c_X11_thrown hM (Ω := (S', τ', o)) rfl ht) myX11_thrown wm7_137 ⟨_, _, _, _, (hM.ok k11), rfl, rfl, rfl, rfl⟩ rfl (kR rfl) (by decide) (kR rfl) rfl dL_law_382 ?_
  refine r_iload C (k := 1) rfl dL_law_385 ?_
  refine r_icmp_eq C (tgt := 392) rfl dL_law_387 (fun _ => ?_) (fun h => absurd rfl h)
  refine r_iload C (k := 1) rfl dL_law_392 ?_
  refine r_if_ne C (tgt := 409) rfl dL_law_394 (fun _ => ?_) (fun h => absurd h (by decide))
  refine r_goto C (tgt := 3008) rfl dL_law_409 ?_
  refine r_lo [2, 3, 4, 5, 6] (lo' := [(4, .int i), (0, .ref b), (1, .ref (wAd w (7, 11, 6, 0))), (2, .ref (wAd w (11, 12, 0, 0))), (3, .ref (wAd w (14, 13, 0, 0)))]) rfl ?_
  exact kk
theorem la1N {w : WP} (hW : gW w) (hM : gWM w) (hS : gS w) (hZ : gZ w) (hO : wFr w (14, 13, 0, 0)) {X : CX} (C : gC w X cL_law "HedgeMessagesLaw" (some .boolean) 15 9) {b L : Nat} {xs : Nat → Int32} (hX : gSc X b L xs) {S : Nat → Nat → HV} {τ : HV} {o : Nat → Int64} {i : Int32} {p1 : Int32} (h1 : vp_in (i + 1) L ∧ xs (i + 1).toNatClampNeg = p1) {v : Int32} {S' : Nat → Nat → HV} (hF : F_X10_truncate p1 S = some (.inl (v, S'))) {τ' : HV} (hG : F_X11_truncate p1 τ = (v, τ')) (ht : F_X11_thrown τ' = 0) {Q1 : State → Prop} {c n : Nat} (hq : qOk X (Q1, c, n)) (kk : gU w X (Q1, c, n) (cA w (S', τ', (vp_updL o 0 v.toInt64))) 3008 [(4, .int i), (0, .ref b), (1, .ref (wAd w (7, 11, 6, 0))), (2, .ref (wAd w (11, 12, 0, 0))), (3, .ref (wAd w (14, 13, 0, 0)))] []) : gU w X (Q1, c, n) (cA w (S, τ, o)) 412 [(4, .int i), (0, .ref b), (1, .ref (wAd w (7, 11, 6, 0))), (2, .ref (wAd w (11, 12, 0, 0))), (3, .ref (wAd w (14, 13, 0, 0)))] [] := by
  refine r_aload_n C (k := 2) rfl rfl dL_law_412 ?_
  refine r_aload_n C (k := 1) rfl rfl dL_law_413 ?_
  refine r_iload C (k := 0) rfl dL_law_414 ?_
  refine r_iconst C (v := 1) rfl dL_law_416 ?_
  refine r_iadd C dL_law_417 ?_
  refine r_sld C hX h1.1 h1.2 dL_law_418 ?_
  refine r_aload_n C (k := 4) rfl rfl dL_law_419 ?_
  refine r_callH C (ny := 3) (d' := 7) (mc := 0) (ms := 0) [.ref (wAd w (7, 11, 6, 0)), .int p1, .ref (wAd w (14, 13, 0, 0))] (kL_truncate hW hS hO (Ω := (S, τ, o)) rfl p1 hF) cwL_truncate rfl wm1_0 wm3_232 ⟨by decide, by decide, by decide +kernel⟩ wm3_231 rfl (kR rfl) (by decide) (kR rfl) rfl dL_law_420 hq ?_
  refine r_istore C (lo' := [(5, .int 0), (4, .int i), (0, .ref b), (1, .ref (wAd w (7, 11, 6, 0))), (2, .ref (wAd w (11, 12, 0, 0))), (3, .ref (wAd w (14, 13, 0, 0)))]) (by decide) rfl dL_law_423 ?_
  refine r_aload_n C (k := 4) rfl rfl dL_law_425 ?_
  refine r_aload_n C (k := 2) rfl rfl dL_law_426 ?_
  refine r_iload C (k := 1) rfl dL_law_427 ?_
  refine r_iconst C (v := 1) rfl dL_law_429 ?_
  refine r_iadd C dL_law_430 ?_
  refine r_sld C hX h1.1 h1.2 dL_law_431 ?_
  refine r_callV C (d' := 1) [.int p1] (c_X11_truncate hM (Ω := (S', τ, (vp_updL o 0 v.toInt64))) rfl p1 hG rfl) myX11_truncate wm7_149 ⟨_, _, _, _, (hM.ok k11), rfl, rfl, rfl, rfl⟩ rfl (kR rfl) (by decide) (kR rfl) rfl dL_law_432 ?_
  refine r_istore C (lo' := [(6, .int v), (5, .int 0), (4, .int i), (0, .ref b), (1, .ref (wAd w (7, 11, 6, 0))), (2, .ref (wAd w (11, 12, 0, 0))), (3, .ref (wAd w (14, 13, 0, 0)))]) (by decide) rfl dL_law_435 ?_
  refine r_aload_n C (k := 5) rfl rfl dL_law_437 ?_
  refine r_callV C (d' := 0) [] (c_X11_thrown hM (Ω := (S', τ', (vp_updL o 0 v.toInt64))) rfl ht) myX11_thrown wm7_137 ⟨_, _, _, _, (hM.ok k11), rfl, rfl, rfl, rfl⟩ rfl (kR rfl) (by decide) (kR rfl) rfl dL_law_438 ?_
  refine r_iload C (k := 1) rfl dL_law_441 ?_
  refine r_icmp_eq C (tgt := 448) rfl dL_law_443 (fun _ => ?_) (fun h => absurd rfl h)
  refine r_iload C (k := 1) rfl dL_law_448 ?_
  refine r_if_ne C (tgt := 465) rfl dL_law_450 (fun h => absurd rfl h) (fun _ => ?_)
  refine r_aload_n C (k := 6) rfl rfl dL_law_453 ?_
  refine r_iconst C (v := 0) rfl dL_law_454 ?_
  refine r_lald C (o := (vp_updL o 0 v.toInt64)) (hM.1 |> fun _ => hW.2.2.2.1 _ hO) rfl dL_law_455 ?_
  refine r_iload C (k := 0) rfl dL_law_456 ?_
  refine r_i2l C (v := v.toInt64) rfl dL_law_458 ?_
  refine r_lcmp C dL_law_459 ?_
  refine r_if_eq C (tgt := 465) rfl dL_law_460 (fun _ => ?_) (fun h => absurd (lgself _) h)
  refine r_goto C (tgt := 3008) rfl dL_law_465 ?_
  refine r_lo [2, 3, 4, 5, 6] (lo' := [(4, .int i), (0, .ref b), (1, .ref (wAd w (7, 11, 6, 0))), (2, .ref (wAd w (11, 12, 0, 0))), (3, .ref (wAd w (14, 13, 0, 0)))]) rfl ?_
  exact kk
theorem la1X2 {w : WP} (hW : gW w) (hM : gWM w) (hS : gS w) (hZ : gZ w) (hO : wFr w (14, 13, 0, 0)) {X : CX} (C : gC w X cL_law "HedgeMessagesLaw" (some .boolean) 15 9) {b L : Nat} {xs : Nat → Int32} (hX : gSc X b L xs) {S : Nat → Nat → HV} {τ : HV} {o : Nat → Int64} {i : Int32} {p1 : Int32} (h1 : vp_in (i + 1) L ∧ xs (i + 1).toNatClampNeg = p1) {S' : Nat → Nat → HV} (hF : F_X10_truncate p1 S = some (.inr (2, S'))) {b9 : Int32} {τ' : HV} (hG : F_X11_truncate p1 τ = (b9, τ')) (ht : F_X11_thrown τ' = 1) {Q1 : State → Prop} {c n : Nat} (hq1 : qOk X (Q1, c + 1, n + 6)) (kk : gU w X (Q1, c + 1, n + 6) (cA w (S', τ', o)) 3008 [(4, .int i), (0, .ref b), (1, .ref (wAd w (7, 11, 6, 0))), (2, .ref (wAd w (11, 12, 0, 0))), (3, .ref (wAd w (14, 13, 0, 0)))] []) : gU w X (Q1, c, n) (cA w (S, τ, o)) 412 [(4, .int i), (0, .ref b), (1, .ref (wAd w (7, 11, 6, 0))), (2, .ref (wAd w (11, 12, 0, 0))), (3, .ref (wAd w (14, 13, 0, 0)))] [] := by
  have hq : qOk X (Q1, c + 1, n + 6) := hq1
  refine r_aload_n C (k := 2) rfl rfl dL_law_412 ?_
  refine r_aload_n C (k := 1) rfl rfl dL_law_413 ?_
  refine r_iload C (k := 0) rfl dL_law_414 ?_
  refine r_iconst C (v := 1) rfl dL_law_416 ?_
  refine r_iadd C dL_law_417 ?_
  refine r_sld C hX h1.1 h1.2 dL_law_418 ?_
  refine r_aload_n C (k := 4) rfl rfl dL_law_419 ?_
  refine r_callH C (ny := 3) (d' := 7) (mc := 1) (ms := 6) [.ref (wAd w (7, 11, 6, 0)), .int p1, .ref (wAd w (14, 13, 0, 0))] (xL_truncate_2 hW hS hZ (Ω := (S, τ, o)) rfl p1 hF) cwL_truncate rfl wm1_0 wm3_232 ⟨by decide, by decide, by decide +kernel⟩ wm3_231 rfl (kR rfl) (by decide) (kR rfl) rfl dL_law_420 hq1 ?_
  refine r_istore C (lo' := [(5, .int 1), (4, .int i), (0, .ref b), (1, .ref (wAd w (7, 11, 6, 0))), (2, .ref (wAd w (11, 12, 0, 0))), (3, .ref (wAd w (14, 13, 0, 0)))]) (by decide) rfl dL_law_423 ?_
  refine r_aload_n C (k := 4) rfl rfl dL_law_425 ?_
  refine r_aload_n C (k := 2) rfl rfl dL_law_426 ?_
  refine r_iload C (k := 1) rfl dL_law_427 ?_
  refine r_iconst C (v := 1) rfl dL_law_429 ?_
  refine r_iadd C dL_law_430 ?_
  refine r_sld C hX h1.1 h1.2 dL_law_431 ?_
  refine r_callV C (d' := 1) [.int p1] (c_X11_truncate hM (Ω := (S', τ, o)) rfl p1 hG rfl) myX11_truncate wm7_149 ⟨_, _, _, _, (hM.ok k11), rfl, rfl, rfl, rfl⟩ rfl (kR rfl) (by decide) (kR rfl) rfl dL_law_432 ?_
  refine r_istore C (lo' := [(6, .int b9), (5, .int 1), (4, .int i), (0, .ref b), (1, .ref (wAd w (7, 11, 6, 0))), (2, .ref (wAd w (11, 12, 0, 0))), (3, .ref (wAd w (14, 13, 0, 0)))]) (by decide) rfl dL_law_435 ?_
  refine r_aload_n C (k := 5) rfl rfl dL_law_437 ?_
  refine r_callV C (d' := 0) [] (c_X11_thrown hM (Ω := (S', τ', o)) rfl ht) myX11_thrown wm7_137 ⟨_, _, _, _, (hM.ok k11), rfl, rfl, rfl, rfl⟩ rfl (kR rfl) (by decide) (kR rfl) rfl dL_law_438 ?_
  refine r_iload C (k := 1) rfl dL_law_441 ?_
  refine r_icmp_eq C (tgt := 448) rfl dL_law_443 (fun _ => ?_) (fun h => absurd rfl h)
  refine r_iload C (k := 1) rfl dL_law_448 ?_
  refine r_if_ne C (tgt := 465) rfl dL_law_450 (fun _ => ?_) (fun h => absurd h (by decide))
  refine r_goto C (tgt := 3008) rfl dL_law_465 ?_
  refine r_lo [2, 3, 4, 5, 6] (lo' := [(4, .int i), (0, .ref b), (1, .ref (wAd w (7, 11, 6, 0))), (2, .ref (wAd w (11, 12, 0, 0))), (3, .ref (wAd w (14, 13, 0, 0)))]) rfl ?_
  exact kk
theorem la2N {w : WP} (hW : gW w) (hM : gWM w) (hS : gS w) (hZ : gZ w) (hO : wFr w (14, 13, 0, 0)) {X : CX} (C : gC w X cL_law "HedgeMessagesLaw" (some .boolean) 15 9) {b L : Nat} {xs : Nat → Int32} (hX : gSc X b L xs) {S : Nat → Nat → HV} {τ : HV} {o : Nat → Int64} {i : Int32} (N : Nat) {v : Int32} {S' : Nat → Nat → HV} (hF : F_X10_load N S = some (.inl (v, S'))) {τ' : HV} (hG : F_X11_load N τ = some (v, τ')) (ht : F_X11_thrown τ' = 0) {Q1 : State → Prop} {c n : Nat} (hq : qOk X (Q1, c, n)) (kk : gU w X (Q1, c, n) (cA w (S', τ', (vp_updL o 0 v.toInt64))) 3008 [(4, .int i), (0, .ref b), (1, .ref (wAd w (7, 11, 6, 0))), (2, .ref (wAd w (11, 12, 0, 0))), (3, .ref (wAd w (14, 13, 0, 0)))] []) : gU w X (Q1, c, n) (cA w (S, τ, o)) 468 [(4, .int i), (0, .ref b), (1, .ref (wAd w (7, 11, 6, 0))), (2, .ref (wAd w (11, 12, 0, 0))), (3, .ref (wAd w (14, 13, 0, 0)))] [] := by
  refine r_aload_n C (k := 2) rfl rfl dL_law_468 ?_
  refine r_aload_n C (k := 4) rfl rfl dL_law_469 ?_
  refine r_callH C (ny := 2) (d' := 8) (mc := 0) (ms := 0) [.ref (wAd w (7, 11, 6, 0)), .ref (wAd w (14, 13, 0, 0))] (kL_load hW hS hO (Ω := (S, τ, o)) rfl N  hF) cwL_load rfl wm1_0 wm4_16 ⟨by decide, by decide, by decide +kernel⟩ wm4_15 rfl (kR rfl) (by decide) (kR rfl) rfl dL_law_470 hq ?_
  refine r_istore C (lo' := [(5, .int 0), (4, .int i), (0, .ref b), (1, .ref (wAd w (7, 11, 6, 0))), (2, .ref (wAd w (11, 12, 0, 0))), (3, .ref (wAd w (14, 13, 0, 0)))]) (by decide) rfl dL_law_473 ?_
  refine r_aload_n C (k := 4) rfl rfl dL_law_475 ?_
  refine r_callV C (d' := 6) [] (c_X11_load hM hS (Ω := (S', τ, (vp_updL o 0 v.toInt64))) rfl N  hG rfl) myX11_load wm7_161 ⟨_, _, _, _, (hM.ok k11), rfl, rfl, rfl, rfl⟩ rfl (kR rfl) (by decide) (kR rfl) rfl dL_law_476 ?_
  refine r_istore C (lo' := [(6, .int v), (5, .int 0), (4, .int i), (0, .ref b), (1, .ref (wAd w (7, 11, 6, 0))), (2, .ref (wAd w (11, 12, 0, 0))), (3, .ref (wAd w (14, 13, 0, 0)))]) (by decide) rfl dL_law_479 ?_
  refine r_aload_n C (k := 5) rfl rfl dL_law_481 ?_
  refine r_callV C (d' := 0) [] (c_X11_thrown hM (Ω := (S', τ', (vp_updL o 0 v.toInt64))) rfl ht) myX11_thrown wm7_137 ⟨_, _, _, _, (hM.ok k11), rfl, rfl, rfl, rfl⟩ rfl (kR rfl) (by decide) (kR rfl) rfl dL_law_482 ?_
  refine r_iload C (k := 1) rfl dL_law_485 ?_
  refine r_icmp_eq C (tgt := 492) rfl dL_law_487 (fun _ => ?_) (fun h => absurd rfl h)
  refine r_iload C (k := 1) rfl dL_law_492 ?_
  refine r_if_ne C (tgt := 509) rfl dL_law_494 (fun h => absurd rfl h) (fun _ => ?_)
  refine r_aload_n C (k := 6) rfl rfl dL_law_497 ?_
  refine r_iconst C (v := 0) rfl dL_law_498 ?_
  refine r_lald C (o := (vp_updL o 0 v.toInt64)) (hM.1 |> fun _ => hW.2.2.2.1 _ hO) rfl dL_law_499 ?_
  refine r_iload C (k := 0) rfl dL_law_500 ?_
  refine r_i2l C (v := v.toInt64) rfl dL_law_502 ?_
  refine r_lcmp C dL_law_503 ?_
  refine r_if_eq C (tgt := 509) rfl dL_law_504 (fun _ => ?_) (fun h => absurd (lgself _) h)
  refine r_goto C (tgt := 3008) rfl dL_law_509 ?_
  refine r_lo [2, 3, 4, 5, 6] (lo' := [(4, .int i), (0, .ref b), (1, .ref (wAd w (7, 11, 6, 0))), (2, .ref (wAd w (11, 12, 0, 0))), (3, .ref (wAd w (14, 13, 0, 0)))]) rfl ?_
  exact kk
theorem la2X2 {w : WP} (hW : gW w) (hM : gWM w) (hS : gS w) (hZ : gZ w) (hO : wFr w (14, 13, 0, 0)) {X : CX} (C : gC w X cL_law "HedgeMessagesLaw" (some .boolean) 15 9) {b L : Nat} {xs : Nat → Int32} (hX : gSc X b L xs) {S : Nat → Nat → HV} {τ : HV} {o : Nat → Int64} {i : Int32} (N : Nat) {S' : Nat → Nat → HV} (hF : F_X10_load N S = some (.inr (2, S'))) {b9 : Int32} {τ' : HV} (hG : F_X11_load N τ = some (b9, τ')) (ht : F_X11_thrown τ' = 1) {Q1 : State → Prop} {c n : Nat} (hq1 : qOk X (Q1, c + 1, n + 6)) (kk : gU w X (Q1, c + 1, n + 6) (cA w (S', τ', o)) 3008 [(4, .int i), (0, .ref b), (1, .ref (wAd w (7, 11, 6, 0))), (2, .ref (wAd w (11, 12, 0, 0))), (3, .ref (wAd w (14, 13, 0, 0)))] []) : gU w X (Q1, c, n) (cA w (S, τ, o)) 468 [(4, .int i), (0, .ref b), (1, .ref (wAd w (7, 11, 6, 0))), (2, .ref (wAd w (11, 12, 0, 0))), (3, .ref (wAd w (14, 13, 0, 0)))] [] := by
  have hq : qOk X (Q1, c + 1, n + 6) := hq1
  refine r_aload_n C (k := 2) rfl rfl dL_law_468 ?_
  refine r_aload_n C (k := 4) rfl rfl dL_law_469 ?_
  refine r_callH C (ny := 2) (d' := 8) (mc := 1) (ms := 6) [.ref (wAd w (7, 11, 6, 0)), .ref (wAd w (14, 13, 0, 0))] (xL_load_2 hW hS hZ (Ω := (S, τ, o)) rfl N  hF) cwL_load rfl wm1_0 wm4_16 ⟨by decide, by decide, by decide +kernel⟩ wm4_15 rfl (kR rfl) (by decide) (kR rfl) rfl dL_law_470 hq1 ?_
  refine r_istore C (lo' := [(5, .int 1), (4, .int i), (0, .ref b), (1, .ref (wAd w (7, 11, 6, 0))), (2, .ref (wAd w (11, 12, 0, 0))), (3, .ref (wAd w (14, 13, 0, 0)))]) (by decide) rfl dL_law_473 ?_
  refine r_aload_n C (k := 4) rfl rfl dL_law_475 ?_
  refine r_callV C (d' := 6) [] (c_X11_load hM hS (Ω := (S', τ, o)) rfl N  hG rfl) myX11_load wm7_161 ⟨_, _, _, _, (hM.ok k11), rfl, rfl, rfl, rfl⟩ rfl (kR rfl) (by decide) (kR rfl) rfl dL_law_476 ?_
  refine r_istore C (lo' := [(6, .int b9), (5, .int 1), (4, .int i), (0, .ref b), (1, .ref (wAd w (7, 11, 6, 0))), (2, .ref (wAd w (11, 12, 0, 0))), (3, .ref (wAd w (14, 13, 0, 0)))]) (by decide) rfl dL_law_479 ?_
  refine r_aload_n C (k := 5) rfl rfl dL_law_481 ?_
  refine r_callV C (d' := 0) [] (c_X11_thrown hM (Ω := (S', τ', o)) rfl ht) myX11_thrown wm7_137 ⟨_, _, _, _, (hM.ok k11), rfl, rfl, rfl, rfl⟩ rfl (kR rfl) (by decide) (kR rfl) rfl dL_law_482 ?_
  refine r_iload C (k := 1) rfl dL_law_485 ?_
  refine r_icmp_eq C (tgt := 492) rfl dL_law_487 (fun _ => ?_) (fun h => absurd rfl h)
  refine r_iload C (k := 1) rfl dL_law_492 ?_
  refine r_if_ne C (tgt := 509) rfl dL_law_494 (fun _ => ?_) (fun h => absurd h (by decide))
  refine r_goto C (tgt := 3008) rfl dL_law_509 ?_
  refine r_lo [2, 3, 4, 5, 6] (lo' := [(4, .int i), (0, .ref b), (1, .ref (wAd w (7, 11, 6, 0))), (2, .ref (wAd w (11, 12, 0, 0))), (3, .ref (wAd w (14, 13, 0, 0)))]) rfl ?_
  exact kk
theorem la3N {w : WP} (hW : gW w) (hM : gWM w) (hS : gS w) (hZ : gZ w) (hO : wFr w (14, 13, 0, 0)) {X : CX} (C : gC w X cL_law "HedgeMessagesLaw" (some .boolean) 15 9) {b L : Nat} {xs : Nat → Int32} (hX : gSc X b L xs) {S : Nat → Nat → HV} {τ : HV} {o : Nat → Int64} {i : Int32} (N : Nat) {v : Int32} {S' : Nat → Nat → HV} (hF : F_X10_executeCommands N S = some (.inl (v, S'))) {τ' : HV} (hG : F_X11_executeCommands N τ = some (v, τ')) (ht : F_X11_thrown τ' = 0) {Q1 : State → Prop} {c n : Nat} (hq : qOk X (Q1, c, n)) (kk : gU w X (Q1, c, n) (cA w (S', τ', (vp_updL o 0 v.toInt64))) 3008 [(4, .int i), (0, .ref b), (1, .ref (wAd w (7, 11, 6, 0))), (2, .ref (wAd w (11, 12, 0, 0))), (3, .ref (wAd w (14, 13, 0, 0)))] []) : gU w X (Q1, c, n) (cA w (S, τ, o)) 512 [(4, .int i), (0, .ref b), (1, .ref (wAd w (7, 11, 6, 0))), (2, .ref (wAd w (11, 12, 0, 0))), (3, .ref (wAd w (14, 13, 0, 0)))] [] := by
  refine r_aload_n C (k := 2) rfl rfl dL_law_512 ?_
  refine r_aload_n C (k := 4) rfl rfl dL_law_513 ?_
  refine r_callH C (ny := 2) (d' := 8) (mc := 0) (ms := 0) [.ref (wAd w (7, 11, 6, 0)), .ref (wAd w (14, 13, 0, 0))] (kL_executeCommands hW hS hO (Ω := (S, τ, o)) rfl N  hF) cwL_executeCommands rfl wm1_0 wm4_108 ⟨by decide, by decide, by decide +kernel⟩ wm4_107 rfl (kR rfl) (by decide) (kR rfl) rfl dL_law_514 hq ?_
  refine r_istore C (lo' := [(5, .int 0), (4, .int i), (0, .ref b), (1, .ref (wAd w (7, 11, 6, 0))), (2, .ref (wAd w (11, 12, 0, 0))), (3, .ref (wAd w (14, 13, 0, 0)))]) (by decide) rfl dL_law_517 ?_
  refine r_aload_n C (k := 4) rfl rfl dL_law_519 ?_
  refine r_callV C (d' := 13) [] (c_X11_executeCommands hM hS (Ω := (S', τ, (vp_updL o 0 v.toInt64))) rfl N  hG rfl) myX11_executeCommands wm7_162 ⟨_, _, _, _, (hM.ok k11), rfl, rfl, rfl, rfl⟩ rfl (kR rfl) (by decide) (kR rfl) rfl dL_law_520 ?_
  refine r_istore C (lo' := [(6, .int v), (5, .int 0), (4, .int i), (0, .ref b), (1, .ref (wAd w (7, 11, 6, 0))), (2, .ref (wAd w (11, 12, 0, 0))), (3, .ref (wAd w (14, 13, 0, 0)))]) (by decide) rfl dL_law_523 ?_
  refine r_aload_n C (k := 5) rfl rfl dL_law_525 ?_
  refine r_callV C (d' := 0) [] (c_X11_thrown hM (Ω := (S', τ', (vp_updL o 0 v.toInt64))) rfl ht) myX11_thrown wm7_137 ⟨_, _, _, _, (hM.ok k11), rfl, rfl, rfl, rfl⟩ rfl (kR rfl) (by decide) (kR rfl) rfl dL_law_526 ?_
  refine r_iload C (k := 1) rfl dL_law_529 ?_
  refine r_icmp_eq C (tgt := 536) rfl dL_law_531 (fun _ => ?_) (fun h => absurd rfl h)
  refine r_iload C (k := 1) rfl dL_law_536 ?_
  refine r_if_ne C (tgt := 553) rfl dL_law_538 (fun h => absurd rfl h) (fun _ => ?_)
  refine r_aload_n C (k := 6) rfl rfl dL_law_541 ?_
  refine r_iconst C (v := 0) rfl dL_law_542 ?_
  refine r_lald C (o := (vp_updL o 0 v.toInt64)) (hM.1 |> fun _ => hW.2.2.2.1 _ hO) rfl dL_law_543 ?_
  refine r_iload C (k := 0) rfl dL_law_544 ?_
  refine r_i2l C (v := v.toInt64) rfl dL_law_546 ?_
  refine r_lcmp C dL_law_547 ?_
  refine r_if_eq C (tgt := 553) rfl dL_law_548 (fun _ => ?_) (fun h => absurd (lgself _) h)
  refine r_goto C (tgt := 3008) rfl dL_law_553 ?_
  refine r_lo [2, 3, 4, 5, 6] (lo' := [(4, .int i), (0, .ref b), (1, .ref (wAd w (7, 11, 6, 0))), (2, .ref (wAd w (11, 12, 0, 0))), (3, .ref (wAd w (14, 13, 0, 0)))]) rfl ?_
  exact kk
theorem la3X2 {w : WP} (hW : gW w) (hM : gWM w) (hS : gS w) (hZ : gZ w) (hO : wFr w (14, 13, 0, 0)) {X : CX} (C : gC w X cL_law "HedgeMessagesLaw" (some .boolean) 15 9) {b L : Nat} {xs : Nat → Int32} (hX : gSc X b L xs) {S : Nat → Nat → HV} {τ : HV} {o : Nat → Int64} {i : Int32} (N : Nat) {S' : Nat → Nat → HV} (hF : F_X10_executeCommands N S = some (.inr (2, S'))) {b9 : Int32} {τ' : HV} (hG : F_X11_executeCommands N τ = some (b9, τ')) (ht : F_X11_thrown τ' = 1) {Q1 : State → Prop} {c n : Nat} (hq1 : qOk X (Q1, c + 1, n + 6)) (kk : gU w X (Q1, c + 1, n + 6) (cA w (S', τ', o)) 3008 [(4, .int i), (0, .ref b), (1, .ref (wAd w (7, 11, 6, 0))), (2, .ref (wAd w (11, 12, 0, 0))), (3, .ref (wAd w (14, 13, 0, 0)))] []) : gU w X (Q1, c, n) (cA w (S, τ, o)) 512 [(4, .int i), (0, .ref b), (1, .ref (wAd w (7, 11, 6, 0))), (2, .ref (wAd w (11, 12, 0, 0))), (3, .ref (wAd w (14, 13, 0, 0)))] [] := by
  have hq : qOk X (Q1, c + 1, n + 6) := hq1
  refine r_aload_n C (k := 2) rfl rfl dL_law_512 ?_
  refine r_aload_n C (k := 4) rfl rfl dL_law_513 ?_
  refine r_callH C (ny := 2) (d' := 8) (mc := 1) (ms := 6) [.ref (wAd w (7, 11, 6, 0)), .ref (wAd w (14, 13, 0, 0))] (xL_executeCommands_2 hW hS hZ (Ω := (S, τ, o)) rfl N  hF) cwL_executeCommands rfl wm1_0 wm4_108 ⟨by decide, by decide, by decide +kernel⟩ wm4_107 rfl (kR rfl) (by decide) (kR rfl) rfl dL_law_514 hq1 ?_
  refine r_istore C (lo' := [(5, .int 1), (4, .int i), (0, .ref b), (1, .ref (wAd w (7, 11, 6, 0))), (2, .ref (wAd w (11, 12, 0, 0))), (3, .ref (wAd w (14, 13, 0, 0)))]) (by decide) rfl dL_law_517 ?_
  refine r_aload_n C (k := 4) rfl rfl dL_law_519 ?_
  refine r_callV C (d' := 13) [] (c_X11_executeCommands hM hS (Ω := (S', τ, o)) rfl N  hG rfl) myX11_executeCommands wm7_162 ⟨_, _, _, _, (hM.ok k11), rfl, rfl, rfl, rfl⟩ rfl (kR rfl) (by decide) (kR rfl) rfl dL_law_520 ?_
  refine r_istore C (lo' := [(6, .int b9), (5, .int 1), (4, .int i), (0, .ref b), (1, .ref (wAd w (7, 11, 6, 0))), (2, .ref (wAd w (11, 12, 0, 0))), (3, .ref (wAd w (14, 13, 0, 0)))]) (by decide) rfl dL_law_523 ?_
  refine r_aload_n C (k := 5) rfl rfl dL_law_525 ?_
  refine r_callV C (d' := 0) [] (c_X11_thrown hM (Ω := (S', τ', o)) rfl ht) myX11_thrown wm7_137 ⟨_, _, _, _, (hM.ok k11), rfl, rfl, rfl, rfl⟩ rfl (kR rfl) (by decide) (kR rfl) rfl dL_law_526 ?_
  refine r_iload C (k := 1) rfl dL_law_529 ?_
  refine r_icmp_eq C (tgt := 536) rfl dL_law_531 (fun _ => ?_) (fun h => absurd rfl h)
  refine r_iload C (k := 1) rfl dL_law_536 ?_
  refine r_if_ne C (tgt := 553) rfl dL_law_538 (fun _ => ?_) (fun h => absurd h (by decide))
  refine r_goto C (tgt := 3008) rfl dL_law_553 ?_
  refine r_lo [2, 3, 4, 5, 6] (lo' := [(4, .int i), (0, .ref b), (1, .ref (wAd w (7, 11, 6, 0))), (2, .ref (wAd w (11, 12, 0, 0))), (3, .ref (wAd w (14, 13, 0, 0)))]) rfl ?_
  exact kk
theorem la4N {w : WP} (hW : gW w) (hM : gWM w) (hS : gS w) (hZ : gZ w) (hO : wFr w (14, 13, 0, 0)) {X : CX} (C : gC w X cL_law "HedgeMessagesLaw" (some .boolean) 15 9) {b L : Nat} {xs : Nat → Int32} (hX : gSc X b L xs) {S : Nat → Nat → HV} {τ : HV} {o : Nat → Int64} {i : Int32} {v : Int32} (hF : F_X10_errorCode S = v) {τ' : HV} (hG : F_X11_errorCode τ = (v, τ')) {Q1 : State → Prop} {c n : Nat} (hq : qOk X (Q1, c, n)) (kk : gU w X (Q1, c, n) (cA w (S, τ', o)) 3008 [(4, .int i), (0, .ref b), (1, .ref (wAd w (7, 11, 6, 0))), (2, .ref (wAd w (11, 12, 0, 0))), (3, .ref (wAd w (14, 13, 0, 0)))] []) : gU w X (Q1, c, n) (cA w (S, τ, o)) 556 [(4, .int i), (0, .ref b), (1, .ref (wAd w (7, 11, 6, 0))), (2, .ref (wAd w (11, 12, 0, 0))), (3, .ref (wAd w (14, 13, 0, 0)))] [] := by
  refine r_aload_n C (k := 2) rfl rfl dL_law_556 ?_
  refine r_callV C (d' := 0) [] (c_X10_errorCode hW (Ω := (S, τ, o)) rfl  hF) myX10_errorCode wm2_197 ⟨_, _, _, _, (hW.ok k7), rfl, rfl, rfl, rfl⟩ rfl (kR rfl) (by decide) (kR rfl) rfl dL_law_557 ?_
  refine r_aload_n C (k := 3) rfl rfl dL_law_560 ?_
  refine r_callV C (d' := 0) [] (c_X11_errorCode hM (Ω := (S, τ, o)) rfl  hG rfl) myX11_errorCode wm7_153 ⟨_, _, _, _, (hM.ok k11), rfl, rfl, rfl, rfl⟩ rfl (kR rfl) (by decide) (kR rfl) rfl dL_law_561 ?_
  refine r_icmp_eq C (tgt := 3008) rfl dL_law_564 (fun _ => ?_) (fun h => absurd rfl h)
  exact kk
theorem la5N {w : WP} (hW : gW w) (hM : gWM w) (hS : gS w) (hZ : gZ w) (hO : wFr w (14, 13, 0, 0)) {X : CX} (C : gC w X cL_law "HedgeMessagesLaw" (some .boolean) 15 9) {b L : Nat} {xs : Nat → Int32} (hX : gSc X b L xs) {S : Nat → Nat → HV} {τ : HV} {o : Nat → Int64} {i : Int32} {v : Int32} (hF : F_X10_errorPosition S = v) {τ' : HV} (hG : F_X11_errorPosition τ = (v, τ')) {Q1 : State → Prop} {c n : Nat} (hq : qOk X (Q1, c, n)) (kk : gU w X (Q1, c, n) (cA w (S, τ', o)) 3008 [(4, .int i), (0, .ref b), (1, .ref (wAd w (7, 11, 6, 0))), (2, .ref (wAd w (11, 12, 0, 0))), (3, .ref (wAd w (14, 13, 0, 0)))] []) : gU w X (Q1, c, n) (cA w (S, τ, o)) 569 [(4, .int i), (0, .ref b), (1, .ref (wAd w (7, 11, 6, 0))), (2, .ref (wAd w (11, 12, 0, 0))), (3, .ref (wAd w (14, 13, 0, 0)))] [] := by
  refine r_aload_n C (k := 2) rfl rfl dL_law_569 ?_
  refine r_callV C (d' := 0) [] (c_X10_errorPosition hW (Ω := (S, τ, o)) rfl  hF) myX10_errorPosition wm2_201 ⟨_, _, _, _, (hW.ok k7), rfl, rfl, rfl, rfl⟩ rfl (kR rfl) (by decide) (kR rfl) rfl dL_law_570 ?_
  refine r_aload_n C (k := 3) rfl rfl dL_law_573 ?_
  refine r_callV C (d' := 0) [] (c_X11_errorPosition hM (Ω := (S, τ, o)) rfl  hG rfl) myX11_errorPosition wm7_157 ⟨_, _, _, _, (hM.ok k11), rfl, rfl, rfl, rfl⟩ rfl (kR rfl) (by decide) (kR rfl) rfl dL_law_574 ?_
  refine r_icmp_eq C (tgt := 3008) rfl dL_law_577 (fun _ => ?_) (fun h => absurd rfl h)
  exact kk
theorem la6N {w : WP} (hW : gW w) (hM : gWM w) (hS : gS w) (hZ : gZ w) (hO : wFr w (14, 13, 0, 0)) {X : CX} (C : gC w X cL_law "HedgeMessagesLaw" (some .boolean) 15 9) {b L : Nat} {xs : Nat → Int32} (hX : gSc X b L xs) {S : Nat → Nat → HV} {τ : HV} {o : Nat → Int64} {i : Int32} {v : Int32} (hF : F_X10_slotCount S = v) {τ' : HV} (hG : F_X11_slotCount τ = some (v, τ')) {Q1 : State → Prop} {c n : Nat} (hq : qOk X (Q1, c, n)) (kk : gU w X (Q1, c, n) (cA w (S, τ', o)) 3008 [(4, .int i), (0, .ref b), (1, .ref (wAd w (7, 11, 6, 0))), (2, .ref (wAd w (11, 12, 0, 0))), (3, .ref (wAd w (14, 13, 0, 0)))] []) : gU w X (Q1, c, n) (cA w (S, τ, o)) 582 [(4, .int i), (0, .ref b), (1, .ref (wAd w (7, 11, 6, 0))), (2, .ref (wAd w (11, 12, 0, 0))), (3, .ref (wAd w (14, 13, 0, 0)))] [] := by
  refine r_aload_n C (k := 2) rfl rfl dL_law_582 ?_
  refine r_callV C (d' := 0) [] (c_X10_slotCount hW (Ω := (S, τ, o)) rfl  hF) myX10_slotCount wm2_205 ⟨_, _, _, _, (hW.ok k7), rfl, rfl, rfl, rfl⟩ rfl (kR rfl) (by decide) (kR rfl) rfl dL_law_583 ?_
  refine r_aload_n C (k := 3) rfl rfl dL_law_586 ?_
  refine r_callV C (d' := 0) [] (c_X11_slotCount hM (Ω := (S, τ, o)) rfl  hG rfl) myX11_slotCount wm8_137 ⟨_, _, _, _, (hM.ok k11), rfl, rfl, rfl, rfl⟩ rfl (kR rfl) (by decide) (kR rfl) rfl dL_law_587 ?_
  refine r_icmp_eq C (tgt := 3008) rfl dL_law_590 (fun _ => ?_) (fun h => absurd rfl h)
  exact kk
theorem la7N {w : WP} (hW : gW w) (hM : gWM w) (hS : gS w) (hZ : gZ w) (hO : wFr w (14, 13, 0, 0)) {X : CX} (C : gC w X cL_law "HedgeMessagesLaw" (some .boolean) 15 9) {b L : Nat} {xs : Nat → Int32} (hX : gSc X b L xs) {S : Nat → Nat → HV} {τ : HV} {o : Nat → Int64} {i : Int32} {v : Int32} (hF : F_X10_day S = v) {τ' : HV} (hG : F_X11_day τ = some (v, τ')) {Q1 : State → Prop} {c n : Nat} (hq : qOk X (Q1, c, n)) (kk : gU w X (Q1, c, n) (cA w (S, τ', o)) 3008 [(4, .int i), (0, .ref b), (1, .ref (wAd w (7, 11, 6, 0))), (2, .ref (wAd w (11, 12, 0, 0))), (3, .ref (wAd w (14, 13, 0, 0)))] []) : gU w X (Q1, c, n) (cA w (S, τ, o)) 595 [(4, .int i), (0, .ref b), (1, .ref (wAd w (7, 11, 6, 0))), (2, .ref (wAd w (11, 12, 0, 0))), (3, .ref (wAd w (14, 13, 0, 0)))] [] := by
  refine r_aload_n C (k := 2) rfl rfl dL_law_595 ?_
  refine r_callV C (d' := 0) [] (c_X10_day hW (Ω := (S, τ, o)) rfl  hF) myX10_day wm2_209 ⟨_, _, _, _, (hW.ok k7), rfl, rfl, rfl, rfl⟩ rfl (kR rfl) (by decide) (kR rfl) rfl dL_law_596 ?_
  refine r_aload_n C (k := 3) rfl rfl dL_law_599 ?_
  refine r_callV C (d' := 0) [] (c_X11_day hM (Ω := (S, τ, o)) rfl  hG rfl) myX11_day wm8_141 ⟨_, _, _, _, (hM.ok k11), rfl, rfl, rfl, rfl⟩ rfl (kR rfl) (by decide) (kR rfl) rfl dL_law_600 ?_
  refine r_icmp_eq C (tgt := 3008) rfl dL_law_603 (fun _ => ?_) (fun h => absurd rfl h)
  exact kk
theorem la8N {w : WP} (hW : gW w) (hM : gWM w) (hS : gS w) (hZ : gZ w) (hO : wFr w (14, 13, 0, 0)) {X : CX} (C : gC w X cL_law "HedgeMessagesLaw" (some .boolean) 15 9) {b L : Nat} {xs : Nat → Int32} (hX : gSc X b L xs) {S : Nat → Nat → HV} {τ : HV} {o : Nat → Int64} {i : Int32} {v : Int32} (hF : F_X10_activeGardener S = v) {τ' : HV} (hG : F_X11_activeGardener τ = some (v, τ')) {Q1 : State → Prop} {c n : Nat} (hq : qOk X (Q1, c, n)) (kk : gU w X (Q1, c, n) (cA w (S, τ', o)) 3008 [(4, .int i), (0, .ref b), (1, .ref (wAd w (7, 11, 6, 0))), (2, .ref (wAd w (11, 12, 0, 0))), (3, .ref (wAd w (14, 13, 0, 0)))] []) : gU w X (Q1, c, n) (cA w (S, τ, o)) 608 [(4, .int i), (0, .ref b), (1, .ref (wAd w (7, 11, 6, 0))), (2, .ref (wAd w (11, 12, 0, 0))), (3, .ref (wAd w (14, 13, 0, 0)))] [] := by
  refine r_aload_n C (k := 2) rfl rfl dL_law_608 ?_
  refine r_callV C (d' := 1) [] (c_X10_activeGardener hW (Ω := (S, τ, o)) rfl  hF) myX10_activeGardener wm2_213 ⟨_, _, _, _, (hW.ok k7), rfl, rfl, rfl, rfl⟩ rfl (kR rfl) (by decide) (kR rfl) rfl dL_law_609 ?_
  refine r_aload_n C (k := 3) rfl rfl dL_law_612 ?_
  refine r_callV C (d' := 1) [] (c_X11_activeGardener hM (Ω := (S, τ, o)) rfl  hG rfl) myX11_activeGardener wm8_145 ⟨_, _, _, _, (hM.ok k11), rfl, rfl, rfl, rfl⟩ rfl (kR rfl) (by decide) (kR rfl) rfl dL_law_613 ?_
  refine r_icmp_eq C (tgt := 3008) rfl dL_law_616 (fun _ => ?_) (fun h => absurd rfl h)
  exact kk
theorem la9N {w : WP} (hW : gW w) (hM : gWM w) (hS : gS w) (hZ : gZ w) (hO : wFr w (14, 13, 0, 0)) {X : CX} (C : gC w X cL_law "HedgeMessagesLaw" (some .boolean) 15 9) {b L : Nat} {xs : Nat → Int32} (hX : gSc X b L xs) {S : Nat → Nat → HV} {τ : HV} {o : Nat → Int64} {i : Int32} {v : Int32} (hF : F_X10_workLimit S = v) {τ' : HV} (hG : F_X11_workLimit τ = some (v, τ')) {Q1 : State → Prop} {c n : Nat} (hq : qOk X (Q1, c, n)) (kk : gU w X (Q1, c, n) (cA w (S, τ', o)) 3008 [(4, .int i), (0, .ref b), (1, .ref (wAd w (7, 11, 6, 0))), (2, .ref (wAd w (11, 12, 0, 0))), (3, .ref (wAd w (14, 13, 0, 0)))] []) : gU w X (Q1, c, n) (cA w (S, τ, o)) 621 [(4, .int i), (0, .ref b), (1, .ref (wAd w (7, 11, 6, 0))), (2, .ref (wAd w (11, 12, 0, 0))), (3, .ref (wAd w (14, 13, 0, 0)))] [] := by
  refine r_aload_n C (k := 2) rfl rfl dL_law_621 ?_
  refine r_callV C (d' := 0) [] (c_X10_workLimit hW (Ω := (S, τ, o)) rfl  hF) myX10_workLimit wm2_221 ⟨_, _, _, _, (hW.ok k7), rfl, rfl, rfl, rfl⟩ rfl (kR rfl) (by decide) (kR rfl) rfl dL_law_622 ?_
  refine r_aload_n C (k := 3) rfl rfl dL_law_625 ?_
  refine r_callV C (d' := 0) [] (c_X11_workLimit hM (Ω := (S, τ, o)) rfl  hG rfl) myX11_workLimit wm8_149 ⟨_, _, _, _, (hM.ok k11), rfl, rfl, rfl, rfl⟩ rfl (kR rfl) (by decide) (kR rfl) rfl dL_law_626 ?_
  refine r_icmp_eq C (tgt := 3008) rfl dL_law_629 (fun _ => ?_) (fun h => absurd rfl h)
  exact kk
theorem la10N {w : WP} (hW : gW w) (hM : gWM w) (hS : gS w) (hZ : gZ w) (hO : wFr w (14, 13, 0, 0)) {X : CX} (C : gC w X cL_law "HedgeMessagesLaw" (some .boolean) 15 9) {b L : Nat} {xs : Nat → Int32} (hX : gSc X b L xs) {S : Nat → Nat → HV} {τ : HV} {o : Nat → Int64} {i : Int32} {v : Int32} (hF : F_X10_actionsLeft S = v) {τ' : HV} (hG : F_X11_actionsLeft τ = some (v, τ')) {Q1 : State → Prop} {c n : Nat} (hq : qOk X (Q1, c, n)) (kk : gU w X (Q1, c, n) (cA w (S, τ', o)) 3008 [(4, .int i), (0, .ref b), (1, .ref (wAd w (7, 11, 6, 0))), (2, .ref (wAd w (11, 12, 0, 0))), (3, .ref (wAd w (14, 13, 0, 0)))] []) : gU w X (Q1, c, n) (cA w (S, τ, o)) 634 [(4, .int i), (0, .ref b), (1, .ref (wAd w (7, 11, 6, 0))), (2, .ref (wAd w (11, 12, 0, 0))), (3, .ref (wAd w (14, 13, 0, 0)))] [] := by
  refine r_aload_n C (k := 2) rfl rfl dL_law_634 ?_
  refine r_callV C (d' := 0) [] (c_X10_actionsLeft hW (Ω := (S, τ, o)) rfl  hF) myX10_actionsLeft wm2_225 ⟨_, _, _, _, (hW.ok k7), rfl, rfl, rfl, rfl⟩ rfl (kR rfl) (by decide) (kR rfl) rfl dL_law_635 ?_
  refine r_aload_n C (k := 3) rfl rfl dL_law_638 ?_
  refine r_callV C (d' := 0) [] (c_X11_actionsLeft hM (Ω := (S, τ, o)) rfl  hG rfl) myX11_actionsLeft wm8_153 ⟨_, _, _, _, (hM.ok k11), rfl, rfl, rfl, rfl⟩ rfl (kR rfl) (by decide) (kR rfl) rfl dL_law_639 ?_
  refine r_icmp_eq C (tgt := 3008) rfl dL_law_642 (fun _ => ?_) (fun h => absurd rfl h)
  exact kk
theorem la11N {w : WP} (hW : gW w) (hM : gWM w) (hS : gS w) (hZ : gZ w) (hO : wFr w (14, 13, 0, 0)) {X : CX} (C : gC w X cL_law "HedgeMessagesLaw" (some .boolean) 15 9) {b L : Nat} {xs : Nat → Int32} (hX : gSc X b L xs) {S : Nat → Nat → HV} {τ : HV} {o : Nat → Int64} {i : Int32} (N : Nat) {v : Int32} (hF : F_X10_twigCount N S = some v) {τ' : HV} (hG : F_X11_twigCount N τ = some (v, τ')) {Q1 : State → Prop} {c n : Nat} (hq : qOk X (Q1, c, n)) (kk : gU w X (Q1, c, n) (cA w (S, τ', o)) 3008 [(4, .int i), (0, .ref b), (1, .ref (wAd w (7, 11, 6, 0))), (2, .ref (wAd w (11, 12, 0, 0))), (3, .ref (wAd w (14, 13, 0, 0)))] []) : gU w X (Q1, c, n) (cA w (S, τ, o)) 647 [(4, .int i), (0, .ref b), (1, .ref (wAd w (7, 11, 6, 0))), (2, .ref (wAd w (11, 12, 0, 0))), (3, .ref (wAd w (14, 13, 0, 0)))] [] := by
  refine r_aload_n C (k := 2) rfl rfl dL_law_647 ?_
  refine r_callV C (d' := 2) [] (c_X10_twigCount hW (Ω := (S, τ, o)) rfl N  hF) myX10_twigCount wm2_229 ⟨_, _, _, _, (hW.ok k7), rfl, rfl, rfl, rfl⟩ rfl (kR rfl) (by decide) (kR rfl) rfl dL_law_648 ?_
  refine r_aload_n C (k := 3) rfl rfl dL_law_651 ?_
  refine r_callV C (d' := 3) [] (c_X11_twigCount hM (Ω := (S, τ, o)) rfl N  hG rfl) myX11_twigCount wm8_157 ⟨_, _, _, _, (hM.ok k11), rfl, rfl, rfl, rfl⟩ rfl (kR rfl) (by decide) (kR rfl) rfl dL_law_652 ?_
  refine r_icmp_eq C (tgt := 3008) rfl dL_law_655 (fun _ => ?_) (fun h => absurd rfl h)
  exact kk
theorem la12N {w : WP} (hW : gW w) (hM : gWM w) (hS : gS w) (hZ : gZ w) (hO : wFr w (14, 13, 0, 0)) {X : CX} (C : gC w X cL_law "HedgeMessagesLaw" (some .boolean) 15 9) {b L : Nat} {xs : Nat → Int32} (hX : gSc X b L xs) {S : Nat → Nat → HV} {τ : HV} {o : Nat → Int64} {i : Int32} {p1 : Int32} (h1 : vp_in (i + 1) L ∧ xs (i + 1).toNatClampNeg = p1) {v : Int32} (hF : F_X10_letterAt p1 S = some (.inl v)) {τ' : HV} (hG : F_X11_letterAt p1 τ = some (v, τ')) (ht : F_X11_thrown τ' = 0) {Q1 : State → Prop} {c n : Nat} (hq : qOk X (Q1, c, n)) (kk : gU w X (Q1, c, n) (cA w (S, τ', (vp_updL o 0 v.toInt64))) 3008 [(4, .int i), (0, .ref b), (1, .ref (wAd w (7, 11, 6, 0))), (2, .ref (wAd w (11, 12, 0, 0))), (3, .ref (wAd w (14, 13, 0, 0)))] []) : gU w X (Q1, c, n) (cA w (S, τ, o)) 660 [(4, .int i), (0, .ref b), (1, .ref (wAd w (7, 11, 6, 0))), (2, .ref (wAd w (11, 12, 0, 0))), (3, .ref (wAd w (14, 13, 0, 0)))] [] := by
  refine r_aload_n C (k := 2) rfl rfl dL_law_660 ?_
  refine r_aload_n C (k := 1) rfl rfl dL_law_661 ?_
  refine r_iload C (k := 0) rfl dL_law_662 ?_
  refine r_iconst C (v := 1) rfl dL_law_664 ?_
  refine r_iadd C dL_law_665 ?_
  refine r_sld C hX h1.1 h1.2 dL_law_666 ?_
  refine r_aload_n C (k := 4) rfl rfl dL_law_667 ?_
  refine r_callH C (ny := 3) (d' := 8) (mc := 0) (ms := 0) [.ref (wAd w (7, 11, 6, 0)), .int p1, .ref (wAd w (14, 13, 0, 0))] (kL_letterAt hW hS hO (Ω := (S, τ, o)) rfl p1 hF) cwL_letterAt rfl wm1_0 wm5_78 ⟨by decide, by decide, by decide +kernel⟩ wm5_77 rfl (kR rfl) (by decide) (kR rfl) rfl dL_law_668 hq ?_
  refine r_istore C (lo' := [(5, .int 0), (4, .int i), (0, .ref b), (1, .ref (wAd w (7, 11, 6, 0))), (2, .ref (wAd w (11, 12, 0, 0))), (3, .ref (wAd w (14, 13, 0, 0)))]) (by decide) rfl dL_law_671 ?_
  refine r_aload_n C (k := 4) rfl rfl dL_law_673 ?_
  refine r_aload_n C (k := 2) rfl rfl dL_law_674 ?_
  refine r_iload C (k := 1) rfl dL_law_675 ?_
  refine r_iconst C (v := 1) rfl dL_law_677 ?_
  refine r_iadd C dL_law_678 ?_
  refine r_sld C hX h1.1 h1.2 dL_law_679 ?_
  refine r_callV C (d' := 2) [.int p1] (c_X11_letterAt hM (Ω := (S, τ, (vp_updL o 0 v.toInt64))) rfl p1 hG rfl) myX11_letterAt wm8_161 ⟨_, _, _, _, (hM.ok k11), rfl, rfl, rfl, rfl⟩ rfl (kR rfl) (by decide) (kR rfl) rfl dL_law_680 ?_
  refine r_istore C (lo' := [(6, .int v), (5, .int 0), (4, .int i), (0, .ref b), (1, .ref (wAd w (7, 11, 6, 0))), (2, .ref (wAd w (11, 12, 0, 0))), (3, .ref (wAd w (14, 13, 0, 0)))]) (by decide) rfl dL_law_683 ?_
  refine r_aload_n C (k := 5) rfl rfl dL_law_685 ?_
  refine r_callV C (d' := 0) [] (c_X11_thrown hM (Ω := (S, τ', (vp_updL o 0 v.toInt64))) rfl ht) myX11_thrown wm7_137 ⟨_, _, _, _, (hM.ok k11), rfl, rfl, rfl, rfl⟩ rfl (kR rfl) (by decide) (kR rfl) rfl dL_law_686 ?_
  refine r_iload C (k := 1) rfl dL_law_689 ?_
  refine r_icmp_eq C (tgt := 696) rfl dL_law_691 (fun _ => ?_) (fun h => absurd rfl h)
  refine r_iload C (k := 1) rfl dL_law_696 ?_
  refine r_if_ne C (tgt := 713) rfl dL_law_698 (fun h => absurd rfl h) (fun _ => ?_)
  refine r_aload_n C (k := 6) rfl rfl dL_law_701 ?_
  refine r_iconst C (v := 0) rfl dL_law_702 ?_
  refine r_lald C (o := (vp_updL o 0 v.toInt64)) (hM.1 |> fun _ => hW.2.2.2.1 _ hO) rfl dL_law_703 ?_
  refine r_iload C (k := 0) rfl dL_law_704 ?_
  refine r_i2l C (v := v.toInt64) rfl dL_law_706 ?_
  refine r_lcmp C dL_law_707 ?_
  refine r_if_eq C (tgt := 713) rfl dL_law_708 (fun _ => ?_) (fun h => absurd (lgself _) h)
  refine r_goto C (tgt := 3008) rfl dL_law_713 ?_
  refine r_lo [2, 3, 4, 5, 6] (lo' := [(4, .int i), (0, .ref b), (1, .ref (wAd w (7, 11, 6, 0))), (2, .ref (wAd w (11, 12, 0, 0))), (3, .ref (wAd w (14, 13, 0, 0)))]) rfl ?_
  exact kk
theorem la12X3 {w : WP} (hW : gW w) (hM : gWM w) (hS : gS w) (hZ : gZ w) (hO : wFr w (14, 13, 0, 0)) {X : CX} (C : gC w X cL_law "HedgeMessagesLaw" (some .boolean) 15 9) {b L : Nat} {xs : Nat → Int32} (hX : gSc X b L xs) {S : Nat → Nat → HV} {τ : HV} {o : Nat → Int64} {i : Int32} {p1 : Int32} (h1 : vp_in (i + 1) L ∧ xs (i + 1).toNatClampNeg = p1)  (hF : F_X10_letterAt p1 S = some (.inr 3)) {b9 : Int32} {τ' : HV} (hG : F_X11_letterAt p1 τ = some (b9, τ')) (ht : F_X11_thrown τ' = 1) {Q1 : State → Prop} {c n : Nat} (hq1 : qOk X (Q1, c + 1, n + 6)) (kk : gU w X (Q1, c + 1, n + 6) (cA w (S, τ', o)) 3008 [(4, .int i), (0, .ref b), (1, .ref (wAd w (7, 11, 6, 0))), (2, .ref (wAd w (11, 12, 0, 0))), (3, .ref (wAd w (14, 13, 0, 0)))] []) : gU w X (Q1, c, n) (cA w (S, τ, o)) 660 [(4, .int i), (0, .ref b), (1, .ref (wAd w (7, 11, 6, 0))), (2, .ref (wAd w (11, 12, 0, 0))), (3, .ref (wAd w (14, 13, 0, 0)))] [] := by
  have hq : qOk X (Q1, c + 1, n + 6) := hq1
  refine r_aload_n C (k := 2) rfl rfl dL_law_660 ?_
  refine r_aload_n C (k := 1) rfl rfl dL_law_661 ?_
  refine r_iload C (k := 0) rfl dL_law_662 ?_
  refine r_iconst C (v := 1) rfl dL_law_664 ?_
  refine r_iadd C dL_law_665 ?_
  refine r_sld C hX h1.1 h1.2 dL_law_666 ?_
  refine r_aload_n C (k := 4) rfl rfl dL_law_667 ?_
  refine r_callH C (ny := 3) (d' := 8) (mc := 1) (ms := 6) [.ref (wAd w (7, 11, 6, 0)), .int p1, .ref (wAd w (14, 13, 0, 0))] (xL_letterAt_3 hW hS hZ (Ω := (S, τ, o)) rfl p1 hF) cwL_letterAt rfl wm1_0 wm5_78 ⟨by decide, by decide, by decide +kernel⟩ wm5_77 rfl (kR rfl) (by decide) (kR rfl) rfl dL_law_668 hq1 ?_
  refine r_istore C (lo' := [(5, .int 1), (4, .int i), (0, .ref b), (1, .ref (wAd w (7, 11, 6, 0))), (2, .ref (wAd w (11, 12, 0, 0))), (3, .ref (wAd w (14, 13, 0, 0)))]) (by decide) rfl dL_law_671 ?_
  refine r_aload_n C (k := 4) rfl rfl dL_law_673 ?_
  refine r_aload_n C (k := 2) rfl rfl dL_law_674 ?_
  refine r_iload C (k := 1) rfl dL_law_675 ?_
  refine r_iconst C (v := 1) rfl dL_law_677 ?_
  refine r_iadd C dL_law_678 ?_
  refine r_sld C hX h1.1 h1.2 dL_law_679 ?_
  refine r_callV C (d' := 2) [.int p1] (c_X11_letterAt hM (Ω := (S, τ, o)) rfl p1 hG rfl) myX11_letterAt wm8_161 ⟨_, _, _, _, (hM.ok k11), rfl, rfl, rfl, rfl⟩ rfl (kR rfl) (by decide) (kR rfl) rfl dL_law_680 ?_
  refine r_istore C (lo' := [(6, .int b9), (5, .int 1), (4, .int i), (0, .ref b), (1, .ref (wAd w (7, 11, 6, 0))), (2, .ref (wAd w (11, 12, 0, 0))), (3, .ref (wAd w (14, 13, 0, 0)))]) (by decide) rfl dL_law_683 ?_
  refine r_aload_n C (k := 5) rfl rfl dL_law_685 ?_
  refine r_callV C (d' := 0) [] (c_X11_thrown hM (Ω := (S, τ', o)) rfl ht) myX11_thrown wm7_137 ⟨_, _, _, _, (hM.ok k11), rfl, rfl, rfl, rfl⟩ rfl (kR rfl) (by decide) (kR rfl) rfl dL_law_686 ?_
  refine r_iload C (k := 1) rfl dL_law_689 ?_
  refine r_icmp_eq C (tgt := 696) rfl dL_law_691 (fun _ => ?_) (fun h => absurd rfl h)
  refine r_iload C (k := 1) rfl dL_law_696 ?_
  refine r_if_ne C (tgt := 713) rfl dL_law_698 (fun _ => ?_) (fun h => absurd h (by decide))
  refine r_goto C (tgt := 3008) rfl dL_law_713 ?_
  refine r_lo [2, 3, 4, 5, 6] (lo' := [(4, .int i), (0, .ref b), (1, .ref (wAd w (7, 11, 6, 0))), (2, .ref (wAd w (11, 12, 0, 0))), (3, .ref (wAd w (14, 13, 0, 0)))]) rfl ?_
  exact kk
theorem la13N {w : WP} (hW : gW w) (hM : gWM w) (hS : gS w) (hZ : gZ w) (hO : wFr w (14, 13, 0, 0)) {X : CX} (C : gC w X cL_law "HedgeMessagesLaw" (some .boolean) 15 9) {b L : Nat} {xs : Nat → Int32} (hX : gSc X b L xs) {S : Nat → Nat → HV} {τ : HV} {o : Nat → Int64} {i : Int32} {p1 : Int32} (h1 : vp_in (i + 1) L ∧ xs (i + 1).toNatClampNeg = p1) {v : Int32} (hF : F_X10_ownerAt p1 S = some (.inl v)) {τ' : HV} (hG : F_X11_ownerAt p1 τ = some (v, τ')) (ht : F_X11_thrown τ' = 0) {Q1 : State → Prop} {c n : Nat} (hq : qOk X (Q1, c, n)) (kk : gU w X (Q1, c, n) (cA w (S, τ', (vp_updL o 0 v.toInt64))) 3008 [(4, .int i), (0, .ref b), (1, .ref (wAd w (7, 11, 6, 0))), (2, .ref (wAd w (11, 12, 0, 0))), (3, .ref (wAd w (14, 13, 0, 0)))] []) : gU w X (Q1, c, n) (cA w (S, τ, o)) 716 [(4, .int i), (0, .ref b), (1, .ref (wAd w (7, 11, 6, 0))), (2, .ref (wAd w (11, 12, 0, 0))), (3, .ref (wAd w (14, 13, 0, 0)))] [] := by
  refine r_aload_n C (k := 2) rfl rfl dL_law_716 ?_
  refine r_aload_n C (k := 1) rfl rfl dL_law_717 ?_
  refine r_iload C (k := 0) rfl dL_law_718 ?_
  refine r_iconst C (v := 1) rfl dL_law_720 ?_
  refine r_iadd C dL_law_721 ?_
  refine r_sld C hX h1.1 h1.2 dL_law_722 ?_
  refine r_aload_n C (k := 4) rfl rfl dL_law_723 ?_
  refine r_callH C (ny := 3) (d' := 8) (mc := 0) (ms := 0) [.ref (wAd w (7, 11, 6, 0)), .int p1, .ref (wAd w (14, 13, 0, 0))] (kL_ownerAt hW hS hO (Ω := (S, τ, o)) rfl p1 hF) cwL_ownerAt rfl wm1_0 wm5_107 ⟨by decide, by decide, by decide +kernel⟩ wm5_106 rfl (kR rfl) (by decide) (kR rfl) rfl dL_law_724 hq ?_
  refine r_istore C (lo' := [(5, .int 0), (4, .int i), (0, .ref b), (1, .ref (wAd w (7, 11, 6, 0))), (2, .ref (wAd w (11, 12, 0, 0))), (3, .ref (wAd w (14, 13, 0, 0)))]) (by decide) rfl dL_law_727 ?_
  refine r_aload_n C (k := 4) rfl rfl dL_law_729 ?_
  refine r_aload_n C (k := 2) rfl rfl dL_law_730 ?_
  refine r_iload C (k := 1) rfl dL_law_731 ?_
  refine r_iconst C (v := 1) rfl dL_law_733 ?_
  refine r_iadd C dL_law_734 ?_
  refine r_sld C hX h1.1 h1.2 dL_law_735 ?_
  refine r_callV C (d' := 2) [.int p1] (c_X11_ownerAt hM (Ω := (S, τ, (vp_updL o 0 v.toInt64))) rfl p1 hG rfl) myX11_ownerAt wm8_165 ⟨_, _, _, _, (hM.ok k11), rfl, rfl, rfl, rfl⟩ rfl (kR rfl) (by decide) (kR rfl) rfl dL_law_736 ?_
  refine r_istore C (lo' := [(6, .int v), (5, .int 0), (4, .int i), (0, .ref b), (1, .ref (wAd w (7, 11, 6, 0))), (2, .ref (wAd w (11, 12, 0, 0))), (3, .ref (wAd w (14, 13, 0, 0)))]) (by decide) rfl dL_law_739 ?_
  refine r_aload_n C (k := 5) rfl rfl dL_law_741 ?_
  refine r_callV C (d' := 0) [] (c_X11_thrown hM (Ω := (S, τ', (vp_updL o 0 v.toInt64))) rfl ht) myX11_thrown wm7_137 ⟨_, _, _, _, (hM.ok k11), rfl, rfl, rfl, rfl⟩ rfl (kR rfl) (by decide) (kR rfl) rfl dL_law_742 ?_
  refine r_iload C (k := 1) rfl dL_law_745 ?_
  refine r_icmp_eq C (tgt := 752) rfl dL_law_747 (fun _ => ?_) (fun h => absurd rfl h)
  refine r_iload C (k := 1) rfl dL_law_752 ?_
  refine r_if_ne C (tgt := 769) rfl dL_law_754 (fun h => absurd rfl h) (fun _ => ?_)
  refine r_aload_n C (k := 6) rfl rfl dL_law_757 ?_
  refine r_iconst C (v := 0) rfl dL_law_758 ?_
  refine r_lald C (o := (vp_updL o 0 v.toInt64)) (hM.1 |> fun _ => hW.2.2.2.1 _ hO) rfl dL_law_759 ?_
  refine r_iload C (k := 0) rfl dL_law_760 ?_
  refine r_i2l C (v := v.toInt64) rfl dL_law_762 ?_
  refine r_lcmp C dL_law_763 ?_
  refine r_if_eq C (tgt := 769) rfl dL_law_764 (fun _ => ?_) (fun h => absurd (lgself _) h)
  refine r_goto C (tgt := 3008) rfl dL_law_769 ?_
  refine r_lo [2, 3, 4, 5, 6] (lo' := [(4, .int i), (0, .ref b), (1, .ref (wAd w (7, 11, 6, 0))), (2, .ref (wAd w (11, 12, 0, 0))), (3, .ref (wAd w (14, 13, 0, 0)))]) rfl ?_
  exact kk
theorem la13X3 {w : WP} (hW : gW w) (hM : gWM w) (hS : gS w) (hZ : gZ w) (hO : wFr w (14, 13, 0, 0)) {X : CX} (C : gC w X cL_law "HedgeMessagesLaw" (some .boolean) 15 9) {b L : Nat} {xs : Nat → Int32} (hX : gSc X b L xs) {S : Nat → Nat → HV} {τ : HV} {o : Nat → Int64} {i : Int32} {p1 : Int32} (h1 : vp_in (i + 1) L ∧ xs (i + 1).toNatClampNeg = p1)  (hF : F_X10_ownerAt p1 S = some (.inr 3)) {b9 : Int32} {τ' : HV} (hG : F_X11_ownerAt p1 τ = some (b9, τ')) (ht : F_X11_thrown τ' = 1) {Q1 : State → Prop} {c n : Nat} (hq1 : qOk X (Q1, c + 1, n + 6)) (kk : gU w X (Q1, c + 1, n + 6) (cA w (S, τ', o)) 3008 [(4, .int i), (0, .ref b), (1, .ref (wAd w (7, 11, 6, 0))), (2, .ref (wAd w (11, 12, 0, 0))), (3, .ref (wAd w (14, 13, 0, 0)))] []) : gU w X (Q1, c, n) (cA w (S, τ, o)) 716 [(4, .int i), (0, .ref b), (1, .ref (wAd w (7, 11, 6, 0))), (2, .ref (wAd w (11, 12, 0, 0))), (3, .ref (wAd w (14, 13, 0, 0)))] [] := by
  have hq : qOk X (Q1, c + 1, n + 6) := hq1
  refine r_aload_n C (k := 2) rfl rfl dL_law_716 ?_
  refine r_aload_n C (k := 1) rfl rfl dL_law_717 ?_
  refine r_iload C (k := 0) rfl dL_law_718 ?_
  refine r_iconst C (v := 1) rfl dL_law_720 ?_
  refine r_iadd C dL_law_721 ?_
  refine r_sld C hX h1.1 h1.2 dL_law_722 ?_
  refine r_aload_n C (k := 4) rfl rfl dL_law_723 ?_
  refine r_callH C (ny := 3) (d' := 8) (mc := 1) (ms := 6) [.ref (wAd w (7, 11, 6, 0)), .int p1, .ref (wAd w (14, 13, 0, 0))] (xL_ownerAt_3 hW hS hZ (Ω := (S, τ, o)) rfl p1 hF) cwL_ownerAt rfl wm1_0 wm5_107 ⟨by decide, by decide, by decide +kernel⟩ wm5_106 rfl (kR rfl) (by decide) (kR rfl) rfl dL_law_724 hq1 ?_
  refine r_istore C (lo' := [(5, .int 1), (4, .int i), (0, .ref b), (1, .ref (wAd w (7, 11, 6, 0))), (2, .ref (wAd w (11, 12, 0, 0))), (3, .ref (wAd w (14, 13, 0, 0)))]) (by decide) rfl dL_law_727 ?_
  refine r_aload_n C (k := 4) rfl rfl dL_law_729 ?_
  refine r_aload_n C (k := 2) rfl rfl dL_law_730 ?_
  refine r_iload C (k := 1) rfl dL_law_731 ?_
  refine r_iconst C (v := 1) rfl dL_law_733 ?_
  refine r_iadd C dL_law_734 ?_
  refine r_sld C hX h1.1 h1.2 dL_law_735 ?_
  refine r_callV C (d' := 2) [.int p1] (c_X11_ownerAt hM (Ω := (S, τ, o)) rfl p1 hG rfl) myX11_ownerAt wm8_165 ⟨_, _, _, _, (hM.ok k11), rfl, rfl, rfl, rfl⟩ rfl (kR rfl) (by decide) (kR rfl) rfl dL_law_736 ?_
  refine r_istore C (lo' := [(6, .int b9), (5, .int 1), (4, .int i), (0, .ref b), (1, .ref (wAd w (7, 11, 6, 0))), (2, .ref (wAd w (11, 12, 0, 0))), (3, .ref (wAd w (14, 13, 0, 0)))]) (by decide) rfl dL_law_739 ?_
  refine r_aload_n C (k := 5) rfl rfl dL_law_741 ?_
  refine r_callV C (d' := 0) [] (c_X11_thrown hM (Ω := (S, τ', o)) rfl ht) myX11_thrown wm7_137 ⟨_, _, _, _, (hM.ok k11), rfl, rfl, rfl, rfl⟩ rfl (kR rfl) (by decide) (kR rfl) rfl dL_law_742 ?_
  refine r_iload C (k := 1) rfl dL_law_745 ?_
  refine r_icmp_eq C (tgt := 752) rfl dL_law_747 (fun _ => ?_) (fun h => absurd rfl h)
  refine r_iload C (k := 1) rfl dL_law_752 ?_
  refine r_if_ne C (tgt := 769) rfl dL_law_754 (fun _ => ?_) (fun h => absurd h (by decide))
  refine r_goto C (tgt := 3008) rfl dL_law_769 ?_
  refine r_lo [2, 3, 4, 5, 6] (lo' := [(4, .int i), (0, .ref b), (1, .ref (wAd w (7, 11, 6, 0))), (2, .ref (wAd w (11, 12, 0, 0))), (3, .ref (wAd w (14, 13, 0, 0)))]) rfl ?_
  exact kk
theorem la14N {w : WP} (hW : gW w) (hM : gWM w) (hS : gS w) (hZ : gZ w) (hO : wFr w (14, 13, 0, 0)) {X : CX} (C : gC w X cL_law "HedgeMessagesLaw" (some .boolean) 15 9) {b L : Nat} {xs : Nat → Int32} (hX : gSc X b L xs) {S : Nat → Nat → HV} {τ : HV} {o : Nat → Int64} {i : Int32} {p1 : Int32} (h1 : vp_in (i + 1) L ∧ xs (i + 1).toNatClampNeg = p1) {v : Int32} (hF : F_X10_lengthAt p1 S = some (.inl v)) {τ' : HV} (hG : F_X11_lengthAt p1 τ = some (v, τ')) (ht : F_X11_thrown τ' = 0) {Q1 : State → Prop} {c n : Nat} (hq : qOk X (Q1, c, n)) (kk : gU w X (Q1, c, n) (cA w (S, τ', (vp_updL o 0 v.toInt64))) 3008 [(4, .int i), (0, .ref b), (1, .ref (wAd w (7, 11, 6, 0))), (2, .ref (wAd w (11, 12, 0, 0))), (3, .ref (wAd w (14, 13, 0, 0)))] []) : gU w X (Q1, c, n) (cA w (S, τ, o)) 772 [(4, .int i), (0, .ref b), (1, .ref (wAd w (7, 11, 6, 0))), (2, .ref (wAd w (11, 12, 0, 0))), (3, .ref (wAd w (14, 13, 0, 0)))] [] := by
  refine r_aload_n C (k := 2) rfl rfl dL_law_772 ?_
  refine r_aload_n C (k := 1) rfl rfl dL_law_773 ?_
  refine r_iload C (k := 0) rfl dL_law_774 ?_
  refine r_iconst C (v := 1) rfl dL_law_776 ?_
  refine r_iadd C dL_law_777 ?_
  refine r_sld C hX h1.1 h1.2 dL_law_778 ?_
  refine r_aload_n C (k := 4) rfl rfl dL_law_779 ?_
  refine r_callH C (ny := 3) (d' := 8) (mc := 0) (ms := 0) [.ref (wAd w (7, 11, 6, 0)), .int p1, .ref (wAd w (14, 13, 0, 0))] (kL_lengthAt hW hS hO (Ω := (S, τ, o)) rfl p1 hF) cwL_lengthAt rfl wm1_0 wm5_114 ⟨by decide, by decide, by decide +kernel⟩ wm5_113 rfl (kR rfl) (by decide) (kR rfl) rfl dL_law_780 hq ?_
  refine r_istore C (lo' := [(5, .int 0), (4, .int i), (0, .ref b), (1, .ref (wAd w (7, 11, 6, 0))), (2, .ref (wAd w (11, 12, 0, 0))), (3, .ref (wAd w (14, 13, 0, 0)))]) (by decide) rfl dL_law_783 ?_
  refine r_aload_n C (k := 4) rfl rfl dL_law_785 ?_
  refine r_aload_n C (k := 2) rfl rfl dL_law_786 ?_
  refine r_iload C (k := 1) rfl dL_law_787 ?_
  refine r_iconst C (v := 1) rfl dL_law_789 ?_
  refine r_iadd C dL_law_790 ?_
  refine r_sld C hX h1.1 h1.2 dL_law_791 ?_
  refine r_callV C (d' := 2) [.int p1] (c_X11_lengthAt hM (Ω := (S, τ, (vp_updL o 0 v.toInt64))) rfl p1 hG rfl) myX11_lengthAt wm8_169 ⟨_, _, _, _, (hM.ok k11), rfl, rfl, rfl, rfl⟩ rfl (kR rfl) (by decide) (kR rfl) rfl dL_law_792 ?_
  refine r_istore C (lo' := [(6, .int v), (5, .int 0), (4, .int i), (0, .ref b), (1, .ref (wAd w (7, 11, 6, 0))), (2, .ref (wAd w (11, 12, 0, 0))), (3, .ref (wAd w (14, 13, 0, 0)))]) (by decide) rfl dL_law_795 ?_
  refine r_aload_n C (k := 5) rfl rfl dL_law_797 ?_
  refine r_callV C (d' := 0) [] (c_X11_thrown hM (Ω := (S, τ', (vp_updL o 0 v.toInt64))) rfl ht) myX11_thrown wm7_137 ⟨_, _, _, _, (hM.ok k11), rfl, rfl, rfl, rfl⟩ rfl (kR rfl) (by decide) (kR rfl) rfl dL_law_798 ?_
  refine r_iload C (k := 1) rfl dL_law_801 ?_
  refine r_icmp_eq C (tgt := 808) rfl dL_law_803 (fun _ => ?_) (fun h => absurd rfl h)
  refine r_iload C (k := 1) rfl dL_law_808 ?_
  refine r_if_ne C (tgt := 825) rfl dL_law_810 (fun h => absurd rfl h) (fun _ => ?_)
  refine r_aload_n C (k := 6) rfl rfl dL_law_813 ?_
  refine r_iconst C (v := 0) rfl dL_law_814 ?_
  refine r_lald C (o := (vp_updL o 0 v.toInt64)) (hM.1 |> fun _ => hW.2.2.2.1 _ hO) rfl dL_law_815 ?_
  refine r_iload C (k := 0) rfl dL_law_816 ?_
  refine r_i2l C (v := v.toInt64) rfl dL_law_818 ?_
  refine r_lcmp C dL_law_819 ?_
  refine r_if_eq C (tgt := 825) rfl dL_law_820 (fun _ => ?_) (fun h => absurd (lgself _) h)
  refine r_goto C (tgt := 3008) rfl dL_law_825 ?_
  refine r_lo [2, 3, 4, 5, 6] (lo' := [(4, .int i), (0, .ref b), (1, .ref (wAd w (7, 11, 6, 0))), (2, .ref (wAd w (11, 12, 0, 0))), (3, .ref (wAd w (14, 13, 0, 0)))]) rfl ?_
  exact kk
theorem la14X3 {w : WP} (hW : gW w) (hM : gWM w) (hS : gS w) (hZ : gZ w) (hO : wFr w (14, 13, 0, 0)) {X : CX} (C : gC w X cL_law "HedgeMessagesLaw" (some .boolean) 15 9) {b L : Nat} {xs : Nat → Int32} (hX : gSc X b L xs) {S : Nat → Nat → HV} {τ : HV} {o : Nat → Int64} {i : Int32} {p1 : Int32} (h1 : vp_in (i + 1) L ∧ xs (i + 1).toNatClampNeg = p1)  (hF : F_X10_lengthAt p1 S = some (.inr 3)) {b9 : Int32} {τ' : HV} (hG : F_X11_lengthAt p1 τ = some (b9, τ')) (ht : F_X11_thrown τ' = 1) {Q1 : State → Prop} {c n : Nat} (hq1 : qOk X (Q1, c + 1, n + 6)) (kk : gU w X (Q1, c + 1, n + 6) (cA w (S, τ', o)) 3008 [(4, .int i), (0, .ref b), (1, .ref (wAd w (7, 11, 6, 0))), (2, .ref (wAd w (11, 12, 0, 0))), (3, .ref (wAd w (14, 13, 0, 0)))] []) : gU w X (Q1, c, n) (cA w (S, τ, o)) 772 [(4, .int i), (0, .ref b), (1, .ref (wAd w (7, 11, 6, 0))), (2, .ref (wAd w (11, 12, 0, 0))), (3, .ref (wAd w (14, 13, 0, 0)))] [] := by
  have hq : qOk X (Q1, c + 1, n + 6) := hq1
  refine r_aload_n C (k := 2) rfl rfl dL_law_772 ?_
  refine r_aload_n C (k := 1) rfl rfl dL_law_773 ?_
  refine r_iload C (k := 0) rfl dL_law_774 ?_
  refine r_iconst C (v := 1) rfl dL_law_776 ?_
  refine r_iadd C dL_law_777 ?_
  refine r_sld C hX h1.1 h1.2 dL_law_778 ?_
  refine r_aload_n C (k := 4) rfl rfl dL_law_779 ?_
  refine r_callH C (ny := 3) (d' := 8) (mc := 1) (ms := 6) [.ref (wAd w (7, 11, 6, 0)), .int p1, .ref (wAd w (14, 13, 0, 0))] (xL_lengthAt_3 hW hS hZ (Ω := (S, τ, o)) rfl p1 hF) cwL_lengthAt rfl wm1_0 wm5_114 ⟨by decide, by decide, by decide +kernel⟩ wm5_113 rfl (kR rfl) (by decide) (kR rfl) rfl dL_law_780 hq1 ?_
  refine r_istore C (lo' := [(5, .int 1), (4, .int i), (0, .ref b), (1, .ref (wAd w (7, 11, 6, 0))), (2, .ref (wAd w (11, 12, 0, 0))), (3, .ref (wAd w (14, 13, 0, 0)))]) (by decide) rfl dL_law_783 ?_
  refine r_aload_n C (k := 4) rfl rfl dL_law_785 ?_
  refine r_aload_n C (k := 2) rfl rfl dL_law_786 ?_
  refine r_iload C (k := 1) rfl dL_law_787 ?_
  refine r_iconst C (v := 1) rfl dL_law_789 ?_
  refine r_iadd C dL_law_790 ?_
  refine r_sld C hX h1.1 h1.2 dL_law_791 ?_
  refine r_callV C (d' := 2) [.int p1] (c_X11_lengthAt hM (Ω := (S, τ, o)) rfl p1 hG rfl) myX11_lengthAt wm8_169 ⟨_, _, _, _, (hM.ok k11), rfl, rfl, rfl, rfl⟩ rfl (kR rfl) (by decide) (kR rfl) rfl dL_law_792 ?_
  refine r_istore C (lo' := [(6, .int b9), (5, .int 1), (4, .int i), (0, .ref b), (1, .ref (wAd w (7, 11, 6, 0))), (2, .ref (wAd w (11, 12, 0, 0))), (3, .ref (wAd w (14, 13, 0, 0)))]) (by decide) rfl dL_law_795 ?_
  refine r_aload_n C (k := 5) rfl rfl dL_law_797 ?_
  refine r_callV C (d' := 0) [] (c_X11_thrown hM (Ω := (S, τ', o)) rfl ht) myX11_thrown wm7_137 ⟨_, _, _, _, (hM.ok k11), rfl, rfl, rfl, rfl⟩ rfl (kR rfl) (by decide) (kR rfl) rfl dL_law_798 ?_
  refine r_iload C (k := 1) rfl dL_law_801 ?_
  refine r_icmp_eq C (tgt := 808) rfl dL_law_803 (fun _ => ?_) (fun h => absurd rfl h)
  refine r_iload C (k := 1) rfl dL_law_808 ?_
  refine r_if_ne C (tgt := 825) rfl dL_law_810 (fun _ => ?_) (fun h => absurd h (by decide))
  refine r_goto C (tgt := 3008) rfl dL_law_825 ?_
  refine r_lo [2, 3, 4, 5, 6] (lo' := [(4, .int i), (0, .ref b), (1, .ref (wAd w (7, 11, 6, 0))), (2, .ref (wAd w (11, 12, 0, 0))), (3, .ref (wAd w (14, 13, 0, 0)))]) rfl ?_
  exact kk
theorem la15N {w : WP} (hW : gW w) (hM : gWM w) (hS : gS w) (hZ : gZ w) (hO : wFr w (14, 13, 0, 0)) {X : CX} (C : gC w X cL_law "HedgeMessagesLaw" (some .boolean) 15 9) {b L : Nat} {xs : Nat → Int32} (hX : gSc X b L xs) {S : Nat → Nat → HV} {τ : HV} {o : Nat → Int64} {i : Int32} {p1 : Int32} (h1 : vp_in (i + 1) L ∧ xs (i + 1).toNatClampNeg = p1) (N : Nat) {v : Bool} (hF : F_X10_isReserved p1 S = some (.inl v)) {τ' : HV} (hG : F_X11_isReserved N p1 τ = some (v, τ')) (ht : F_X11_thrown τ' = 0) {Q1 : State → Prop} {c n : Nat} (hq : qOk X (Q1, c, n)) (kk : gU w X (Q1, c, n) (cA w (S, τ', (vp_updL o 0 (if v = true then 1 else 0)))) 3008 [(4, .int i), (0, .ref b), (1, .ref (wAd w (7, 11, 6, 0))), (2, .ref (wAd w (11, 12, 0, 0))), (3, .ref (wAd w (14, 13, 0, 0)))] []) : gU w X (Q1, c, n) (cA w (S, τ, o)) 828 [(4, .int i), (0, .ref b), (1, .ref (wAd w (7, 11, 6, 0))), (2, .ref (wAd w (11, 12, 0, 0))), (3, .ref (wAd w (14, 13, 0, 0)))] [] := by
  refine r_aload_n C (k := 2) rfl rfl dL_law_828 ?_
  refine r_aload_n C (k := 1) rfl rfl dL_law_829 ?_
  refine r_iload C (k := 0) rfl dL_law_830 ?_
  refine r_iconst C (v := 1) rfl dL_law_832 ?_
  refine r_iadd C dL_law_833 ?_
  refine r_sld C hX h1.1 h1.2 dL_law_834 ?_
  refine r_aload_n C (k := 4) rfl rfl dL_law_835 ?_
  refine r_callH C (ny := 3) (d' := 8) (mc := 0) (ms := 0) [.ref (wAd w (7, 11, 6, 0)), .int p1, .ref (wAd w (14, 13, 0, 0))] (kL_isReserved hW hS hO (Ω := (S, τ, o)) rfl p1 hF) cwL_isReserved rfl wm1_0 wm5_121 ⟨by decide, by decide, by decide +kernel⟩ wm5_120 rfl (kR rfl) (by decide) (kR rfl) rfl dL_law_836 hq ?_
  refine r_istore C (lo' := [(5, .int 0), (4, .int i), (0, .ref b), (1, .ref (wAd w (7, 11, 6, 0))), (2, .ref (wAd w (11, 12, 0, 0))), (3, .ref (wAd w (14, 13, 0, 0)))]) (by decide) rfl dL_law_839 ?_
  refine r_aload_n C (k := 4) rfl rfl dL_law_841 ?_
  refine r_aload_n C (k := 2) rfl rfl dL_law_842 ?_
  refine r_iload C (k := 1) rfl dL_law_843 ?_
  refine r_iconst C (v := 1) rfl dL_law_845 ?_
  refine r_iadd C dL_law_846 ?_
  refine r_sld C hX h1.1 h1.2 dL_law_847 ?_
  refine r_callV C (d' := 3) [.int p1] (c_X11_isReserved hM (Ω := (S, τ, (vp_updL o 0 (if v = true then 1 else 0)))) rfl N p1 hG rfl) myX11_isReserved wm8_173 ⟨_, _, _, _, (hM.ok k11), rfl, rfl, rfl, rfl⟩ rfl (kR rfl) (by decide) (kR rfl) rfl dL_law_848 ?_
  refine r_istore C (lo' := [(6, .int (b2i v)), (5, .int 0), (4, .int i), (0, .ref b), (1, .ref (wAd w (7, 11, 6, 0))), (2, .ref (wAd w (11, 12, 0, 0))), (3, .ref (wAd w (14, 13, 0, 0)))]) (by decide) rfl dL_law_851 ?_
  refine r_aload_n C (k := 5) rfl rfl dL_law_853 ?_
  refine r_callV C (d' := 0) [] (c_X11_thrown hM (Ω := (S, τ', (vp_updL o 0 (if v = true then 1 else 0)))) rfl ht) myX11_thrown wm7_137 ⟨_, _, _, _, (hM.ok k11), rfl, rfl, rfl, rfl⟩ rfl (kR rfl) (by decide) (kR rfl) rfl dL_law_854 ?_
  refine r_iload C (k := 1) rfl dL_law_857 ?_
  refine r_icmp_eq C (tgt := 864) rfl dL_law_859 (fun _ => ?_) (fun h => absurd rfl h)
  refine r_iload C (k := 1) rfl dL_law_864 ?_
  refine r_if_ne C (tgt := 888) rfl dL_law_866 (fun h => absurd rfl h) (fun _ => ?_)
  refine r_aload_n C (k := 6) rfl rfl dL_law_869 ?_
  refine r_iconst C (v := 0) rfl dL_law_870 ?_
  refine r_lald C (o := (vp_updL o 0 (if v = true then 1 else 0))) (hM.1 |> fun _ => hW.2.2.2.1 _ hO) rfl dL_law_871 ?_
  refine r_iload C (k := 0) rfl dL_law_872 ?_
  cases v with
  | false =>
    refine r_if_eq C (tgt := 881) rfl dL_law_874 (fun _ => ?_) (fun h => absurd rfl h)
    refine r_lconst C (v := 0) rfl dL_law_881 ?_
    refine r_lcmp C dL_law_882 ?_
    refine r_if_eq C (tgt := 888) rfl dL_law_883 (fun _ => ?_) (fun h => absurd (lgself _) h)
    refine r_goto C (tgt := 3008) rfl dL_law_888 ?_
    refine r_lo [2, 3, 4, 5, 6] (lo' := [(4, .int i), (0, .ref b), (1, .ref (wAd w (7, 11, 6, 0))), (2, .ref (wAd w (11, 12, 0, 0))), (3, .ref (wAd w (14, 13, 0, 0)))]) rfl ?_
    exact kk
  | true =>
    refine r_if_eq C (tgt := 881) rfl dL_law_874 (fun h => absurd h (by decide)) (fun _ => ?_)
    refine r_lconst C (v := 1) rfl dL_law_877 ?_
    refine r_goto C (tgt := 882) rfl dL_law_878 ?_
    refine r_lcmp C dL_law_882 ?_
    refine r_if_eq C (tgt := 888) rfl dL_law_883 (fun _ => ?_) (fun h => absurd (lgself _) h)
    refine r_goto C (tgt := 3008) rfl dL_law_888 ?_
    refine r_lo [2, 3, 4, 5, 6] (lo' := [(4, .int i), (0, .ref b), (1, .ref (wAd w (7, 11, 6, 0))), (2, .ref (wAd w (11, 12, 0, 0))), (3, .ref (wAd w (14, 13, 0, 0)))]) rfl ?_
    exact kk
theorem la15X3 {w : WP} (hW : gW w) (hM : gWM w) (hS : gS w) (hZ : gZ w) (hO : wFr w (14, 13, 0, 0)) {X : CX} (C : gC w X cL_law "HedgeMessagesLaw" (some .boolean) 15 9) {b L : Nat} {xs : Nat → Int32} (hX : gSc X b L xs) {S : Nat → Nat → HV} {τ : HV} {o : Nat → Int64} {i : Int32} {p1 : Int32} (h1 : vp_in (i + 1) L ∧ xs (i + 1).toNatClampNeg = p1) (N : Nat)  (hF : F_X10_isReserved p1 S = some (.inr 3)) {b9 : Bool} {τ' : HV} (hG : F_X11_isReserved N p1 τ = some (b9, τ')) (ht : F_X11_thrown τ' = 1) {Q1 : State → Prop} {c n : Nat} (hq1 : qOk X (Q1, c + 1, n + 6)) (kk : gU w X (Q1, c + 1, n + 6) (cA w (S, τ', o)) 3008 [(4, .int i), (0, .ref b), (1, .ref (wAd w (7, 11, 6, 0))), (2, .ref (wAd w (11, 12, 0, 0))), (3, .ref (wAd w (14, 13, 0, 0)))] []) : gU w X (Q1, c, n) (cA w (S, τ, o)) 828 [(4, .int i), (0, .ref b), (1, .ref (wAd w (7, 11, 6, 0))), (2, .ref (wAd w (11, 12, 0, 0))), (3, .ref (wAd w (14, 13, 0, 0)))] [] := by
  have hq : qOk X (Q1, c + 1, n + 6) := hq1
  refine r_aload_n C (k := 2) rfl rfl dL_law_828 ?_
  refine r_aload_n C (k := 1) rfl rfl dL_law_829 ?_
  refine r_iload C (k := 0) rfl dL_law_830 ?_
  refine r_iconst C (v := 1) rfl dL_law_832 ?_
  refine r_iadd C dL_law_833 ?_
  refine r_sld C hX h1.1 h1.2 dL_law_834 ?_
  refine r_aload_n C (k := 4) rfl rfl dL_law_835 ?_
  refine r_callH C (ny := 3) (d' := 8) (mc := 1) (ms := 6) [.ref (wAd w (7, 11, 6, 0)), .int p1, .ref (wAd w (14, 13, 0, 0))] (xL_isReserved_3 hW hS hZ (Ω := (S, τ, o)) rfl p1 hF) cwL_isReserved rfl wm1_0 wm5_121 ⟨by decide, by decide, by decide +kernel⟩ wm5_120 rfl (kR rfl) (by decide) (kR rfl) rfl dL_law_836 hq1 ?_
  refine r_istore C (lo' := [(5, .int 1), (4, .int i), (0, .ref b), (1, .ref (wAd w (7, 11, 6, 0))), (2, .ref (wAd w (11, 12, 0, 0))), (3, .ref (wAd w (14, 13, 0, 0)))]) (by decide) rfl dL_law_839 ?_
  refine r_aload_n C (k := 4) rfl rfl dL_law_841 ?_
  refine r_aload_n C (k := 2) rfl rfl dL_law_842 ?_
  refine r_iload C (k := 1) rfl dL_law_843 ?_
  refine r_iconst C (v := 1) rfl dL_law_845 ?_
  refine r_iadd C dL_law_846 ?_
  refine r_sld C hX h1.1 h1.2 dL_law_847 ?_
  refine r_callV C (d' := 3) [.int p1] (c_X11_isReserved hM (Ω := (S, τ, o)) rfl N p1 hG rfl) myX11_isReserved wm8_173 ⟨_, _, _, _, (hM.ok k11), rfl, rfl, rfl, rfl⟩ rfl (kR rfl) (by decide) (kR rfl) rfl dL_law_848 ?_
  refine r_istore C (lo' := [(6, .int (b2i b9)), (5, .int 1), (4, .int i), (0, .ref b), (1, .ref (wAd w (7, 11, 6, 0))), (2, .ref (wAd w (11, 12, 0, 0))), (3, .ref (wAd w (14, 13, 0, 0)))]) (by decide) rfl dL_law_851 ?_
  refine r_aload_n C (k := 5) rfl rfl dL_law_853 ?_
  refine r_callV C (d' := 0) [] (c_X11_thrown hM (Ω := (S, τ', o)) rfl ht) myX11_thrown wm7_137 ⟨_, _, _, _, (hM.ok k11), rfl, rfl, rfl, rfl⟩ rfl (kR rfl) (by decide) (kR rfl) rfl dL_law_854 ?_
  refine r_iload C (k := 1) rfl dL_law_857 ?_
  refine r_icmp_eq C (tgt := 864) rfl dL_law_859 (fun _ => ?_) (fun h => absurd rfl h)
  refine r_iload C (k := 1) rfl dL_law_864 ?_
  refine r_if_ne C (tgt := 888) rfl dL_law_866 (fun _ => ?_) (fun h => absurd h (by decide))
  refine r_goto C (tgt := 3008) rfl dL_law_888 ?_
  refine r_lo [2, 3, 4, 5, 6] (lo' := [(4, .int i), (0, .ref b), (1, .ref (wAd w (7, 11, 6, 0))), (2, .ref (wAd w (11, 12, 0, 0))), (3, .ref (wAd w (14, 13, 0, 0)))]) rfl ?_
  exact kk
theorem la16N {w : WP} (hW : gW w) (hM : gWM w) (hS : gS w) (hZ : gZ w) (hO : wFr w (14, 13, 0, 0)) {X : CX} (C : gC w X cL_law "HedgeMessagesLaw" (some .boolean) 15 9) {b L : Nat} {xs : Nat → Int32} (hX : gSc X b L xs) {S : Nat → Nat → HV} {τ : HV} {o : Nat → Int64} {i : Int32} {p1 : Int32} (h1 : vp_in (i + 1) L ∧ xs (i + 1).toNatClampNeg = p1) {v : Int32} (hF : F_X10_nestDays p1 S = some (.inl v)) {τ' : HV} (hG : F_X11_nestDays p1 τ = some (v, τ')) (ht : F_X11_thrown τ' = 0) {Q1 : State → Prop} {c n : Nat} (hq : qOk X (Q1, c, n)) (kk : gU w X (Q1, c, n) (cA w (S, τ', (vp_updL o 0 v.toInt64))) 3008 [(4, .int i), (0, .ref b), (1, .ref (wAd w (7, 11, 6, 0))), (2, .ref (wAd w (11, 12, 0, 0))), (3, .ref (wAd w (14, 13, 0, 0)))] []) : gU w X (Q1, c, n) (cA w (S, τ, o)) 891 [(4, .int i), (0, .ref b), (1, .ref (wAd w (7, 11, 6, 0))), (2, .ref (wAd w (11, 12, 0, 0))), (3, .ref (wAd w (14, 13, 0, 0)))] [] := by
  refine r_aload_n C (k := 2) rfl rfl dL_law_891 ?_
  refine r_aload_n C (k := 1) rfl rfl dL_law_892 ?_
  refine r_iload C (k := 0) rfl dL_law_893 ?_
  refine r_iconst C (v := 1) rfl dL_law_895 ?_
  refine r_iadd C dL_law_896 ?_
  refine r_sld C hX h1.1 h1.2 dL_law_897 ?_
  refine r_aload_n C (k := 4) rfl rfl dL_law_898 ?_
  refine r_callH C (ny := 3) (d' := 8) (mc := 0) (ms := 0) [.ref (wAd w (7, 11, 6, 0)), .int p1, .ref (wAd w (14, 13, 0, 0))] (kL_nestDays hW hS hO (Ω := (S, τ, o)) rfl p1 hF) cwL_nestDays rfl wm1_0 wm5_129 ⟨by decide, by decide, by decide +kernel⟩ wm5_128 rfl (kR rfl) (by decide) (kR rfl) rfl dL_law_899 hq ?_
  refine r_istore C (lo' := [(5, .int 0), (4, .int i), (0, .ref b), (1, .ref (wAd w (7, 11, 6, 0))), (2, .ref (wAd w (11, 12, 0, 0))), (3, .ref (wAd w (14, 13, 0, 0)))]) (by decide) rfl dL_law_902 ?_
  refine r_aload_n C (k := 4) rfl rfl dL_law_904 ?_
  refine r_aload_n C (k := 2) rfl rfl dL_law_905 ?_
  refine r_iload C (k := 1) rfl dL_law_906 ?_
  refine r_iconst C (v := 1) rfl dL_law_908 ?_
  refine r_iadd C dL_law_909 ?_
  refine r_sld C hX h1.1 h1.2 dL_law_910 ?_
  refine r_callV C (d' := 2) [.int p1] (c_X11_nestDays hM (Ω := (S, τ, (vp_updL o 0 v.toInt64))) rfl p1 hG rfl) myX11_nestDays wm8_177 ⟨_, _, _, _, (hM.ok k11), rfl, rfl, rfl, rfl⟩ rfl (kR rfl) (by decide) (kR rfl) rfl dL_law_911 ?_
  refine r_istore C (lo' := [(6, .int v), (5, .int 0), (4, .int i), (0, .ref b), (1, .ref (wAd w (7, 11, 6, 0))), (2, .ref (wAd w (11, 12, 0, 0))), (3, .ref (wAd w (14, 13, 0, 0)))]) (by decide) rfl dL_law_914 ?_
  refine r_aload_n C (k := 5) rfl rfl dL_law_916 ?_
  refine r_callV C (d' := 0) [] (c_X11_thrown hM (Ω := (S, τ', (vp_updL o 0 v.toInt64))) rfl ht) myX11_thrown wm7_137 ⟨_, _, _, _, (hM.ok k11), rfl, rfl, rfl, rfl⟩ rfl (kR rfl) (by decide) (kR rfl) rfl dL_law_917 ?_
  refine r_iload C (k := 1) rfl dL_law_920 ?_
  refine r_icmp_eq C (tgt := 927) rfl dL_law_922 (fun _ => ?_) (fun h => absurd rfl h)
  refine r_iload C (k := 1) rfl dL_law_927 ?_
  refine r_if_ne C (tgt := 944) rfl dL_law_929 (fun h => absurd rfl h) (fun _ => ?_)
  refine r_aload_n C (k := 6) rfl rfl dL_law_932 ?_
  refine r_iconst C (v := 0) rfl dL_law_933 ?_
  refine r_lald C (o := (vp_updL o 0 v.toInt64)) (hM.1 |> fun _ => hW.2.2.2.1 _ hO) rfl dL_law_934 ?_
  refine r_iload C (k := 0) rfl dL_law_935 ?_
  refine r_i2l C (v := v.toInt64) rfl dL_law_937 ?_
  refine r_lcmp C dL_law_938 ?_
  refine r_if_eq C (tgt := 944) rfl dL_law_939 (fun _ => ?_) (fun h => absurd (lgself _) h)
  refine r_goto C (tgt := 3008) rfl dL_law_944 ?_
  refine r_lo [2, 3, 4, 5, 6] (lo' := [(4, .int i), (0, .ref b), (1, .ref (wAd w (7, 11, 6, 0))), (2, .ref (wAd w (11, 12, 0, 0))), (3, .ref (wAd w (14, 13, 0, 0)))]) rfl ?_
  exact kk
theorem la16X3 {w : WP} (hW : gW w) (hM : gWM w) (hS : gS w) (hZ : gZ w) (hO : wFr w (14, 13, 0, 0)) {X : CX} (C : gC w X cL_law "HedgeMessagesLaw" (some .boolean) 15 9) {b L : Nat} {xs : Nat → Int32} (hX : gSc X b L xs) {S : Nat → Nat → HV} {τ : HV} {o : Nat → Int64} {i : Int32} {p1 : Int32} (h1 : vp_in (i + 1) L ∧ xs (i + 1).toNatClampNeg = p1)  (hF : F_X10_nestDays p1 S = some (.inr 3)) {b9 : Int32} {τ' : HV} (hG : F_X11_nestDays p1 τ = some (b9, τ')) (ht : F_X11_thrown τ' = 1) {Q1 : State → Prop} {c n : Nat} (hq1 : qOk X (Q1, c + 1, n + 6)) (kk : gU w X (Q1, c + 1, n + 6) (cA w (S, τ', o)) 3008 [(4, .int i), (0, .ref b), (1, .ref (wAd w (7, 11, 6, 0))), (2, .ref (wAd w (11, 12, 0, 0))), (3, .ref (wAd w (14, 13, 0, 0)))] []) : gU w X (Q1, c, n) (cA w (S, τ, o)) 891 [(4, .int i), (0, .ref b), (1, .ref (wAd w (7, 11, 6, 0))), (2, .ref (wAd w (11, 12, 0, 0))), (3, .ref (wAd w (14, 13, 0, 0)))] [] := by
  have hq : qOk X (Q1, c + 1, n + 6) := hq1
  refine r_aload_n C (k := 2) rfl rfl dL_law_891 ?_
  refine r_aload_n C (k := 1) rfl rfl dL_law_892 ?_
  refine r_iload C (k := 0) rfl dL_law_893 ?_
  refine r_iconst C (v := 1) rfl dL_law_895 ?_
  refine r_iadd C dL_law_896 ?_
  refine r_sld C hX h1.1 h1.2 dL_law_897 ?_
  refine r_aload_n C (k := 4) rfl rfl dL_law_898 ?_
  refine r_callH C (ny := 3) (d' := 8) (mc := 1) (ms := 6) [.ref (wAd w (7, 11, 6, 0)), .int p1, .ref (wAd w (14, 13, 0, 0))] (xL_nestDays_3 hW hS hZ (Ω := (S, τ, o)) rfl p1 hF) cwL_nestDays rfl wm1_0 wm5_129 ⟨by decide, by decide, by decide +kernel⟩ wm5_128 rfl (kR rfl) (by decide) (kR rfl) rfl dL_law_899 hq1 ?_
  refine r_istore C (lo' := [(5, .int 1), (4, .int i), (0, .ref b), (1, .ref (wAd w (7, 11, 6, 0))), (2, .ref (wAd w (11, 12, 0, 0))), (3, .ref (wAd w (14, 13, 0, 0)))]) (by decide) rfl dL_law_902 ?_
  refine r_aload_n C (k := 4) rfl rfl dL_law_904 ?_
  refine r_aload_n C (k := 2) rfl rfl dL_law_905 ?_
  refine r_iload C (k := 1) rfl dL_law_906 ?_
  refine r_iconst C (v := 1) rfl dL_law_908 ?_
  refine r_iadd C dL_law_909 ?_
  refine r_sld C hX h1.1 h1.2 dL_law_910 ?_
  refine r_callV C (d' := 2) [.int p1] (c_X11_nestDays hM (Ω := (S, τ, o)) rfl p1 hG rfl) myX11_nestDays wm8_177 ⟨_, _, _, _, (hM.ok k11), rfl, rfl, rfl, rfl⟩ rfl (kR rfl) (by decide) (kR rfl) rfl dL_law_911 ?_
  refine r_istore C (lo' := [(6, .int b9), (5, .int 1), (4, .int i), (0, .ref b), (1, .ref (wAd w (7, 11, 6, 0))), (2, .ref (wAd w (11, 12, 0, 0))), (3, .ref (wAd w (14, 13, 0, 0)))]) (by decide) rfl dL_law_914 ?_
  refine r_aload_n C (k := 5) rfl rfl dL_law_916 ?_
  refine r_callV C (d' := 0) [] (c_X11_thrown hM (Ω := (S, τ', o)) rfl ht) myX11_thrown wm7_137 ⟨_, _, _, _, (hM.ok k11), rfl, rfl, rfl, rfl⟩ rfl (kR rfl) (by decide) (kR rfl) rfl dL_law_917 ?_
  refine r_iload C (k := 1) rfl dL_law_920 ?_
  refine r_icmp_eq C (tgt := 927) rfl dL_law_922 (fun _ => ?_) (fun h => absurd rfl h)
  refine r_iload C (k := 1) rfl dL_law_927 ?_
  refine r_if_ne C (tgt := 944) rfl dL_law_929 (fun _ => ?_) (fun h => absurd h (by decide))
  refine r_goto C (tgt := 3008) rfl dL_law_944 ?_
  refine r_lo [2, 3, 4, 5, 6] (lo' := [(4, .int i), (0, .ref b), (1, .ref (wAd w (7, 11, 6, 0))), (2, .ref (wAd w (11, 12, 0, 0))), (3, .ref (wAd w (14, 13, 0, 0)))]) rfl ?_
  exact kk
theorem la17N {w : WP} (hW : gW w) (hM : gWM w) (hS : gS w) (hZ : gZ w) (hO : wFr w (14, 13, 0, 0)) {X : CX} (C : gC w X cL_law "HedgeMessagesLaw" (some .boolean) 15 9) {b L : Nat} {xs : Nat → Int32} (hX : gSc X b L xs) {S : Nat → Nat → HV} {τ : HV} {o : Nat → Int64} {i : Int32} {p1 : Int32} (h1 : vp_in (i + 1) L ∧ xs (i + 1).toNatClampNeg = p1) {v : Bool} (hF : F_X10_isProtected p1 S = some (.inl v)) {τ' : HV} (hG : F_X11_isProtected p1 τ = some (v, τ')) (ht : F_X11_thrown τ' = 0) {Q1 : State → Prop} {c n : Nat} (hq : qOk X (Q1, c, n)) (kk : gU w X (Q1, c, n) (cA w (S, τ', (vp_updL o 0 (if v = true then 1 else 0)))) 3008 [(4, .int i), (0, .ref b), (1, .ref (wAd w (7, 11, 6, 0))), (2, .ref (wAd w (11, 12, 0, 0))), (3, .ref (wAd w (14, 13, 0, 0)))] []) : gU w X (Q1, c, n) (cA w (S, τ, o)) 947 [(4, .int i), (0, .ref b), (1, .ref (wAd w (7, 11, 6, 0))), (2, .ref (wAd w (11, 12, 0, 0))), (3, .ref (wAd w (14, 13, 0, 0)))] [] := by
  refine r_aload_n C (k := 2) rfl rfl dL_law_947 ?_
  refine r_aload_n C (k := 1) rfl rfl dL_law_948 ?_
  refine r_iload C (k := 0) rfl dL_law_949 ?_
  refine r_iconst C (v := 1) rfl dL_law_951 ?_
  refine r_iadd C dL_law_952 ?_
  refine r_sld C hX h1.1 h1.2 dL_law_953 ?_
  refine r_aload_n C (k := 4) rfl rfl dL_law_954 ?_
  refine r_callH C (ny := 3) (d' := 8) (mc := 0) (ms := 0) [.ref (wAd w (7, 11, 6, 0)), .int p1, .ref (wAd w (14, 13, 0, 0))] (kL_isProtected hW hS hO (Ω := (S, τ, o)) rfl p1 hF) cwL_isProtected rfl wm1_0 wm5_136 ⟨by decide, by decide, by decide +kernel⟩ wm5_135 rfl (kR rfl) (by decide) (kR rfl) rfl dL_law_955 hq ?_
  refine r_istore C (lo' := [(5, .int 0), (4, .int i), (0, .ref b), (1, .ref (wAd w (7, 11, 6, 0))), (2, .ref (wAd w (11, 12, 0, 0))), (3, .ref (wAd w (14, 13, 0, 0)))]) (by decide) rfl dL_law_958 ?_
  refine r_aload_n C (k := 4) rfl rfl dL_law_960 ?_
  refine r_aload_n C (k := 2) rfl rfl dL_law_961 ?_
  refine r_iload C (k := 1) rfl dL_law_962 ?_
  refine r_iconst C (v := 1) rfl dL_law_964 ?_
  refine r_iadd C dL_law_965 ?_
  refine r_sld C hX h1.1 h1.2 dL_law_966 ?_
  refine r_callV C (d' := 4) [.int p1] (c_X11_isProtected hM (Ω := (S, τ, (vp_updL o 0 (if v = true then 1 else 0)))) rfl p1 hG rfl) myX11_isProtected wm8_181 ⟨_, _, _, _, (hM.ok k11), rfl, rfl, rfl, rfl⟩ rfl (kR rfl) (by decide) (kR rfl) rfl dL_law_967 ?_
  refine r_istore C (lo' := [(6, .int (b2i v)), (5, .int 0), (4, .int i), (0, .ref b), (1, .ref (wAd w (7, 11, 6, 0))), (2, .ref (wAd w (11, 12, 0, 0))), (3, .ref (wAd w (14, 13, 0, 0)))]) (by decide) rfl dL_law_970 ?_
  refine r_aload_n C (k := 5) rfl rfl dL_law_972 ?_
  refine r_callV C (d' := 0) [] (c_X11_thrown hM (Ω := (S, τ', (vp_updL o 0 (if v = true then 1 else 0)))) rfl ht) myX11_thrown wm7_137 ⟨_, _, _, _, (hM.ok k11), rfl, rfl, rfl, rfl⟩ rfl (kR rfl) (by decide) (kR rfl) rfl dL_law_973 ?_
  refine r_iload C (k := 1) rfl dL_law_976 ?_
  refine r_icmp_eq C (tgt := 983) rfl dL_law_978 (fun _ => ?_) (fun h => absurd rfl h)
  refine r_iload C (k := 1) rfl dL_law_983 ?_
  refine r_if_ne C (tgt := 1007) rfl dL_law_985 (fun h => absurd rfl h) (fun _ => ?_)
  refine r_aload_n C (k := 6) rfl rfl dL_law_988 ?_
  refine r_iconst C (v := 0) rfl dL_law_989 ?_
  refine r_lald C (o := (vp_updL o 0 (if v = true then 1 else 0))) (hM.1 |> fun _ => hW.2.2.2.1 _ hO) rfl dL_law_990 ?_
  refine r_iload C (k := 0) rfl dL_law_991 ?_
  cases v with
  | false =>
    refine r_if_eq C (tgt := 1000) rfl dL_law_993 (fun _ => ?_) (fun h => absurd rfl h)
    refine r_lconst C (v := 0) rfl dL_law_1000 ?_
    refine r_lcmp C dL_law_1001 ?_
    refine r_if_eq C (tgt := 1007) rfl dL_law_1002 (fun _ => ?_) (fun h => absurd (lgself _) h)
    refine r_goto C (tgt := 3008) rfl dL_law_1007 ?_
    refine r_lo [2, 3, 4, 5, 6] (lo' := [(4, .int i), (0, .ref b), (1, .ref (wAd w (7, 11, 6, 0))), (2, .ref (wAd w (11, 12, 0, 0))), (3, .ref (wAd w (14, 13, 0, 0)))]) rfl ?_
    exact kk
  | true =>
    refine r_if_eq C (tgt := 1000) rfl dL_law_993 (fun h => absurd h (by decide)) (fun _ => ?_)
    refine r_lconst C (v := 1) rfl dL_law_996 ?_
    refine r_goto C (tgt := 1001) rfl dL_law_997 ?_
    refine r_lcmp C dL_law_1001 ?_
    refine r_if_eq C (tgt := 1007) rfl dL_law_1002 (fun _ => ?_) (fun h => absurd (lgself _) h)
    refine r_goto C (tgt := 3008) rfl dL_law_1007 ?_
    refine r_lo [2, 3, 4, 5, 6] (lo' := [(4, .int i), (0, .ref b), (1, .ref (wAd w (7, 11, 6, 0))), (2, .ref (wAd w (11, 12, 0, 0))), (3, .ref (wAd w (14, 13, 0, 0)))]) rfl ?_
    exact kk
theorem la17X3 {w : WP} (hW : gW w) (hM : gWM w) (hS : gS w) (hZ : gZ w) (hO : wFr w (14, 13, 0, 0)) {X : CX} (C : gC w X cL_law "HedgeMessagesLaw" (some .boolean) 15 9) {b L : Nat} {xs : Nat → Int32} (hX : gSc X b L xs) {S : Nat → Nat → HV} {τ : HV} {o : Nat → Int64} {i : Int32} {p1 : Int32} (h1 : vp_in (i + 1) L ∧ xs (i + 1).toNatClampNeg = p1)  (hF : F_X10_isProtected p1 S = some (.inr 3)) {b9 : Bool} {τ' : HV} (hG : F_X11_isProtected p1 τ = some (b9, τ')) (ht : F_X11_thrown τ' = 1) {Q1 : State → Prop} {c n : Nat} (hq1 : qOk X (Q1, c + 1, n + 6)) (kk : gU w X (Q1, c + 1, n + 6) (cA w (S, τ', o)) 3008 [(4, .int i), (0, .ref b), (1, .ref (wAd w (7, 11, 6, 0))), (2, .ref (wAd w (11, 12, 0, 0))), (3, .ref (wAd w (14, 13, 0, 0)))] []) : gU w X (Q1, c, n) (cA w (S, τ, o)) 947 [(4, .int i), (0, .ref b), (1, .ref (wAd w (7, 11, 6, 0))), (2, .ref (wAd w (11, 12, 0, 0))), (3, .ref (wAd w (14, 13, 0, 0)))] [] := by
  have hq : qOk X (Q1, c + 1, n + 6) := hq1
  refine r_aload_n C (k := 2) rfl rfl dL_law_947 ?_
  refine r_aload_n C (k := 1) rfl rfl dL_law_948 ?_
  refine r_iload C (k := 0) rfl dL_law_949 ?_
  refine r_iconst C (v := 1) rfl dL_law_951 ?_
  refine r_iadd C dL_law_952 ?_
  refine r_sld C hX h1.1 h1.2 dL_law_953 ?_
  refine r_aload_n C (k := 4) rfl rfl dL_law_954 ?_
  refine r_callH C (ny := 3) (d' := 8) (mc := 1) (ms := 6) [.ref (wAd w (7, 11, 6, 0)), .int p1, .ref (wAd w (14, 13, 0, 0))] (xL_isProtected_3 hW hS hZ (Ω := (S, τ, o)) rfl p1 hF) cwL_isProtected rfl wm1_0 wm5_136 ⟨by decide, by decide, by decide +kernel⟩ wm5_135 rfl (kR rfl) (by decide) (kR rfl) rfl dL_law_955 hq1 ?_
  refine r_istore C (lo' := [(5, .int 1), (4, .int i), (0, .ref b), (1, .ref (wAd w (7, 11, 6, 0))), (2, .ref (wAd w (11, 12, 0, 0))), (3, .ref (wAd w (14, 13, 0, 0)))]) (by decide) rfl dL_law_958 ?_
  refine r_aload_n C (k := 4) rfl rfl dL_law_960 ?_
  refine r_aload_n C (k := 2) rfl rfl dL_law_961 ?_
  refine r_iload C (k := 1) rfl dL_law_962 ?_
  refine r_iconst C (v := 1) rfl dL_law_964 ?_
  refine r_iadd C dL_law_965 ?_
  refine r_sld C hX h1.1 h1.2 dL_law_966 ?_
  refine r_callV C (d' := 4) [.int p1] (c_X11_isProtected hM (Ω := (S, τ, o)) rfl p1 hG rfl) myX11_isProtected wm8_181 ⟨_, _, _, _, (hM.ok k11), rfl, rfl, rfl, rfl⟩ rfl (kR rfl) (by decide) (kR rfl) rfl dL_law_967 ?_
  refine r_istore C (lo' := [(6, .int (b2i b9)), (5, .int 1), (4, .int i), (0, .ref b), (1, .ref (wAd w (7, 11, 6, 0))), (2, .ref (wAd w (11, 12, 0, 0))), (3, .ref (wAd w (14, 13, 0, 0)))]) (by decide) rfl dL_law_970 ?_
  refine r_aload_n C (k := 5) rfl rfl dL_law_972 ?_
  refine r_callV C (d' := 0) [] (c_X11_thrown hM (Ω := (S, τ', o)) rfl ht) myX11_thrown wm7_137 ⟨_, _, _, _, (hM.ok k11), rfl, rfl, rfl, rfl⟩ rfl (kR rfl) (by decide) (kR rfl) rfl dL_law_973 ?_
  refine r_iload C (k := 1) rfl dL_law_976 ?_
  refine r_icmp_eq C (tgt := 983) rfl dL_law_978 (fun _ => ?_) (fun h => absurd rfl h)
  refine r_iload C (k := 1) rfl dL_law_983 ?_
  refine r_if_ne C (tgt := 1007) rfl dL_law_985 (fun _ => ?_) (fun h => absurd h (by decide))
  refine r_goto C (tgt := 3008) rfl dL_law_1007 ?_
  refine r_lo [2, 3, 4, 5, 6] (lo' := [(4, .int i), (0, .ref b), (1, .ref (wAd w (7, 11, 6, 0))), (2, .ref (wAd w (11, 12, 0, 0))), (3, .ref (wAd w (14, 13, 0, 0)))]) rfl ?_
  exact kk
theorem la18N {w : WP} (hW : gW w) (hM : gWM w) (hS : gS w) (hZ : gZ w) (hO : wFr w (14, 13, 0, 0)) {X : CX} (C : gC w X cL_law "HedgeMessagesLaw" (some .boolean) 15 9) {b L : Nat} {xs : Nat → Int32} (hX : gSc X b L xs) {S : Nat → Nat → HV} {τ : HV} {o : Nat → Int64} {i : Int32} (N : Nat) {v : Int32} (hF : F_X10_nestCount N S = some v) {τ' : HV} (hG : F_X11_nestCount N τ = some (v, τ')) {Q1 : State → Prop} {c n : Nat} (hq : qOk X (Q1, c, n)) (kk : gU w X (Q1, c, n) (cA w (S, τ', o)) 3008 [(4, .int i), (0, .ref b), (1, .ref (wAd w (7, 11, 6, 0))), (2, .ref (wAd w (11, 12, 0, 0))), (3, .ref (wAd w (14, 13, 0, 0)))] []) : gU w X (Q1, c, n) (cA w (S, τ, o)) 1010 [(4, .int i), (0, .ref b), (1, .ref (wAd w (7, 11, 6, 0))), (2, .ref (wAd w (11, 12, 0, 0))), (3, .ref (wAd w (14, 13, 0, 0)))] [] := by
  refine r_aload_n C (k := 2) rfl rfl dL_law_1010 ?_
  refine r_callV C (d' := 2) [] (c_X10_nestCount hW (Ω := (S, τ, o)) rfl N  hF) myX10_nestCount wm3_1 ⟨_, _, _, _, (hW.ok k7), rfl, rfl, rfl, rfl⟩ rfl (kR rfl) (by decide) (kR rfl) rfl dL_law_1011 ?_
  refine r_aload_n C (k := 3) rfl rfl dL_law_1014 ?_
  refine r_callV C (d' := 2) [] (c_X11_nestCount hM (Ω := (S, τ, o)) rfl N  hG rfl) myX11_nestCount wm8_185 ⟨_, _, _, _, (hM.ok k11), rfl, rfl, rfl, rfl⟩ rfl (kR rfl) (by decide) (kR rfl) rfl dL_law_1015 ?_
  refine r_icmp_eq C (tgt := 3008) rfl dL_law_1018 (fun _ => ?_) (fun h => absurd rfl h)
  exact kk
theorem la19N {w : WP} (hW : gW w) (hM : gWM w) (hS : gS w) (hZ : gZ w) (hO : wFr w (14, 13, 0, 0)) {X : CX} (C : gC w X cL_law "HedgeMessagesLaw" (some .boolean) 15 9) {b L : Nat} {xs : Nat → Int32} (hX : gSc X b L xs) {S : Nat → Nat → HV} {τ : HV} {o : Nat → Int64} {i : Int32} {p1 : Int32} (h1 : vp_in (i + 1) L ∧ xs (i + 1).toNatClampNeg = p1) {v : Int32} (hF : F_X10_pendingCount p1 S = some (.inl v)) {τ' : HV} (hG : F_X11_pendingCount p1 τ = some (v, τ')) (ht : F_X11_thrown τ' = 0) {Q1 : State → Prop} {c n : Nat} (hq : qOk X (Q1, c, n)) (kk : gU w X (Q1, c, n) (cA w (S, τ', (vp_updL o 0 v.toInt64))) 3008 [(4, .int i), (0, .ref b), (1, .ref (wAd w (7, 11, 6, 0))), (2, .ref (wAd w (11, 12, 0, 0))), (3, .ref (wAd w (14, 13, 0, 0)))] []) : gU w X (Q1, c, n) (cA w (S, τ, o)) 1023 [(4, .int i), (0, .ref b), (1, .ref (wAd w (7, 11, 6, 0))), (2, .ref (wAd w (11, 12, 0, 0))), (3, .ref (wAd w (14, 13, 0, 0)))] [] := by
  refine r_aload_n C (k := 2) rfl rfl dL_law_1023 ?_
  refine r_aload_n C (k := 1) rfl rfl dL_law_1024 ?_
  refine r_iload C (k := 0) rfl dL_law_1025 ?_
  refine r_iconst C (v := 1) rfl dL_law_1027 ?_
  refine r_iadd C dL_law_1028 ?_
  refine r_sld C hX h1.1 h1.2 dL_law_1029 ?_
  refine r_aload_n C (k := 4) rfl rfl dL_law_1030 ?_
  refine r_callH C (ny := 3) (d' := 8) (mc := 0) (ms := 0) [.ref (wAd w (7, 11, 6, 0)), .int p1, .ref (wAd w (14, 13, 0, 0))] (kL_pendingCount hW hS hO (Ω := (S, τ, o)) rfl p1 hF) cwL_pendingCount rfl wm1_0 wm5_144 ⟨by decide, by decide, by decide +kernel⟩ wm5_143 rfl (kR rfl) (by decide) (kR rfl) rfl dL_law_1031 hq ?_
  refine r_istore C (lo' := [(5, .int 0), (4, .int i), (0, .ref b), (1, .ref (wAd w (7, 11, 6, 0))), (2, .ref (wAd w (11, 12, 0, 0))), (3, .ref (wAd w (14, 13, 0, 0)))]) (by decide) rfl dL_law_1034 ?_
  refine r_aload_n C (k := 4) rfl rfl dL_law_1036 ?_
  refine r_aload_n C (k := 2) rfl rfl dL_law_1037 ?_
  refine r_iload C (k := 1) rfl dL_law_1038 ?_
  refine r_iconst C (v := 1) rfl dL_law_1040 ?_
  refine r_iadd C dL_law_1041 ?_
  refine r_sld C hX h1.1 h1.2 dL_law_1042 ?_
  refine r_callV C (d' := 2) [.int p1] (c_X11_pendingCount hM (Ω := (S, τ, (vp_updL o 0 v.toInt64))) rfl p1 hG rfl) myX11_pendingCount wm8_189 ⟨_, _, _, _, (hM.ok k11), rfl, rfl, rfl, rfl⟩ rfl (kR rfl) (by decide) (kR rfl) rfl dL_law_1043 ?_
  refine r_istore C (lo' := [(6, .int v), (5, .int 0), (4, .int i), (0, .ref b), (1, .ref (wAd w (7, 11, 6, 0))), (2, .ref (wAd w (11, 12, 0, 0))), (3, .ref (wAd w (14, 13, 0, 0)))]) (by decide) rfl dL_law_1046 ?_
  refine r_aload_n C (k := 5) rfl rfl dL_law_1048 ?_
  refine r_callV C (d' := 0) [] (c_X11_thrown hM (Ω := (S, τ', (vp_updL o 0 v.toInt64))) rfl ht) myX11_thrown wm7_137 ⟨_, _, _, _, (hM.ok k11), rfl, rfl, rfl, rfl⟩ rfl (kR rfl) (by decide) (kR rfl) rfl dL_law_1049 ?_
  refine r_iload C (k := 1) rfl dL_law_1052 ?_
  refine r_icmp_eq C (tgt := 1059) rfl dL_law_1054 (fun _ => ?_) (fun h => absurd rfl h)
  refine r_iload C (k := 1) rfl dL_law_1059 ?_
  refine r_if_ne C (tgt := 1076) rfl dL_law_1061 (fun h => absurd rfl h) (fun _ => ?_)
  refine r_aload_n C (k := 6) rfl rfl dL_law_1064 ?_
  refine r_iconst C (v := 0) rfl dL_law_1065 ?_
  refine r_lald C (o := (vp_updL o 0 v.toInt64)) (hM.1 |> fun _ => hW.2.2.2.1 _ hO) rfl dL_law_1066 ?_
  refine r_iload C (k := 0) rfl dL_law_1067 ?_
  refine r_i2l C (v := v.toInt64) rfl dL_law_1069 ?_
  refine r_lcmp C dL_law_1070 ?_
  refine r_if_eq C (tgt := 1076) rfl dL_law_1071 (fun _ => ?_) (fun h => absurd (lgself _) h)
  refine r_goto C (tgt := 3008) rfl dL_law_1076 ?_
  refine r_lo [2, 3, 4, 5, 6] (lo' := [(4, .int i), (0, .ref b), (1, .ref (wAd w (7, 11, 6, 0))), (2, .ref (wAd w (11, 12, 0, 0))), (3, .ref (wAd w (14, 13, 0, 0)))]) rfl ?_
  exact kk
theorem la19X2 {w : WP} (hW : gW w) (hM : gWM w) (hS : gS w) (hZ : gZ w) (hO : wFr w (14, 13, 0, 0)) {X : CX} (C : gC w X cL_law "HedgeMessagesLaw" (some .boolean) 15 9) {b L : Nat} {xs : Nat → Int32} (hX : gSc X b L xs) {S : Nat → Nat → HV} {τ : HV} {o : Nat → Int64} {i : Int32} {p1 : Int32} (h1 : vp_in (i + 1) L ∧ xs (i + 1).toNatClampNeg = p1)  (hF : F_X10_pendingCount p1 S = some (.inr 2)) {b9 : Int32} {τ' : HV} (hG : F_X11_pendingCount p1 τ = some (b9, τ')) (ht : F_X11_thrown τ' = 1) {Q1 : State → Prop} {c n : Nat} (hq1 : qOk X (Q1, c + 1, n + 6)) (kk : gU w X (Q1, c + 1, n + 6) (cA w (S, τ', o)) 3008 [(4, .int i), (0, .ref b), (1, .ref (wAd w (7, 11, 6, 0))), (2, .ref (wAd w (11, 12, 0, 0))), (3, .ref (wAd w (14, 13, 0, 0)))] []) : gU w X (Q1, c, n) (cA w (S, τ, o)) 1023 [(4, .int i), (0, .ref b), (1, .ref (wAd w (7, 11, 6, 0))), (2, .ref (wAd w (11, 12, 0, 0))), (3, .ref (wAd w (14, 13, 0, 0)))] [] := by
  have hq : qOk X (Q1, c + 1, n + 6) := hq1
  refine r_aload_n C (k := 2) rfl rfl dL_law_1023 ?_
  refine r_aload_n C (k := 1) rfl rfl dL_law_1024 ?_
  refine r_iload C (k := 0) rfl dL_law_1025 ?_
  refine r_iconst C (v := 1) rfl dL_law_1027 ?_
  refine r_iadd C dL_law_1028 ?_
  refine r_sld C hX h1.1 h1.2 dL_law_1029 ?_
  refine r_aload_n C (k := 4) rfl rfl dL_law_1030 ?_
  refine r_callH C (ny := 3) (d' := 8) (mc := 1) (ms := 6) [.ref (wAd w (7, 11, 6, 0)), .int p1, .ref (wAd w (14, 13, 0, 0))] (xL_pendingCount_2 hW hS hZ (Ω := (S, τ, o)) rfl p1 hF) cwL_pendingCount rfl wm1_0 wm5_144 ⟨by decide, by decide, by decide +kernel⟩ wm5_143 rfl (kR rfl) (by decide) (kR rfl) rfl dL_law_1031 hq1 ?_
  refine r_istore C (lo' := [(5, .int 1), (4, .int i), (0, .ref b), (1, .ref (wAd w (7, 11, 6, 0))), (2, .ref (wAd w (11, 12, 0, 0))), (3, .ref (wAd w (14, 13, 0, 0)))]) (by decide) rfl dL_law_1034 ?_
  refine r_aload_n C (k := 4) rfl rfl dL_law_1036 ?_
  refine r_aload_n C (k := 2) rfl rfl dL_law_1037 ?_
  refine r_iload C (k := 1) rfl dL_law_1038 ?_
  refine r_iconst C (v := 1) rfl dL_law_1040 ?_
  refine r_iadd C dL_law_1041 ?_
  refine r_sld C hX h1.1 h1.2 dL_law_1042 ?_
  refine r_callV C (d' := 2) [.int p1] (c_X11_pendingCount hM (Ω := (S, τ, o)) rfl p1 hG rfl) myX11_pendingCount wm8_189 ⟨_, _, _, _, (hM.ok k11), rfl, rfl, rfl, rfl⟩ rfl (kR rfl) (by decide) (kR rfl) rfl dL_law_1043 ?_
  refine r_istore C (lo' := [(6, .int b9), (5, .int 1), (4, .int i), (0, .ref b), (1, .ref (wAd w (7, 11, 6, 0))), (2, .ref (wAd w (11, 12, 0, 0))), (3, .ref (wAd w (14, 13, 0, 0)))]) (by decide) rfl dL_law_1046 ?_
  refine r_aload_n C (k := 5) rfl rfl dL_law_1048 ?_
  refine r_callV C (d' := 0) [] (c_X11_thrown hM (Ω := (S, τ', o)) rfl ht) myX11_thrown wm7_137 ⟨_, _, _, _, (hM.ok k11), rfl, rfl, rfl, rfl⟩ rfl (kR rfl) (by decide) (kR rfl) rfl dL_law_1049 ?_
  refine r_iload C (k := 1) rfl dL_law_1052 ?_
  refine r_icmp_eq C (tgt := 1059) rfl dL_law_1054 (fun _ => ?_) (fun h => absurd rfl h)
  refine r_iload C (k := 1) rfl dL_law_1059 ?_
  refine r_if_ne C (tgt := 1076) rfl dL_law_1061 (fun _ => ?_) (fun h => absurd h (by decide))
  refine r_goto C (tgt := 3008) rfl dL_law_1076 ?_
  refine r_lo [2, 3, 4, 5, 6] (lo' := [(4, .int i), (0, .ref b), (1, .ref (wAd w (7, 11, 6, 0))), (2, .ref (wAd w (11, 12, 0, 0))), (3, .ref (wAd w (14, 13, 0, 0)))]) rfl ?_
  exact kk
theorem la20N {w : WP} (hW : gW w) (hM : gWM w) (hS : gS w) (hZ : gZ w) (hO : wFr w (14, 13, 0, 0)) {X : CX} (C : gC w X cL_law "HedgeMessagesLaw" (some .boolean) 15 9) {b L : Nat} {xs : Nat → Int32} (hX : gSc X b L xs) {S : Nat → Nat → HV} {τ : HV} {o : Nat → Int64} {i : Int32} {p1 : Int32} (h1 : vp_in (i + 1) L ∧ xs (i + 1).toNatClampNeg = p1) {p2 : Int32} (h2 : vp_in (i + 2) L ∧ xs (i + 2).toNatClampNeg = p2) {p3 : Int32} (h3 : vp_in (i + 3) L ∧ xs (i + 3).toNatClampNeg = p3) {v : Int32} (hF : F_X10_pendingLetter p1 p2 p3 S = some (.inl v)) {τ' : HV} (hG : F_X11_pendingLetter p1 p2 p3 τ = some (v, τ')) (ht : F_X11_thrown τ' = 0) {Q1 : State → Prop} {c n : Nat} (hq : qOk X (Q1, c, n)) (kk : gU w X (Q1, c, n) (cA w (S, τ', (vp_updL o 0 v.toInt64))) 3008 [(4, .int i), (0, .ref b), (1, .ref (wAd w (7, 11, 6, 0))), (2, .ref (wAd w (11, 12, 0, 0))), (3, .ref (wAd w (14, 13, 0, 0)))] []) : gU w X (Q1, c, n) (cA w (S, τ, o)) 1079 [(4, .int i), (0, .ref b), (1, .ref (wAd w (7, 11, 6, 0))), (2, .ref (wAd w (11, 12, 0, 0))), (3, .ref (wAd w (14, 13, 0, 0)))] [] := by
  refine r_aload_n C (k := 2) rfl rfl dL_law_1079 ?_
  refine r_aload_n C (k := 1) rfl rfl dL_law_1080 ?_
  refine r_iload C (k := 0) rfl dL_law_1081 ?_
  refine r_iconst C (v := 1) rfl dL_law_1083 ?_
  refine r_iadd C dL_law_1084 ?_
  refine r_sld C hX h1.1 h1.2 dL_law_1085 ?_
  refine r_aload_n C (k := 1) rfl rfl dL_law_1086 ?_
  refine r_iload C (k := 0) rfl dL_law_1087 ?_
  refine r_iconst C (v := 2) rfl dL_law_1089 ?_
  refine r_iadd C dL_law_1090 ?_
  refine r_sld C hX h2.1 h2.2 dL_law_1091 ?_
  refine r_aload_n C (k := 1) rfl rfl dL_law_1092 ?_
  refine r_iload C (k := 0) rfl dL_law_1093 ?_
  refine r_iconst C (v := 3) rfl dL_law_1095 ?_
  refine r_iadd C dL_law_1096 ?_
  refine r_sld C hX h3.1 h3.2 dL_law_1097 ?_
  refine r_aload_n C (k := 4) rfl rfl dL_law_1098 ?_
  refine r_callH C (ny := 5) (d' := 8) (mc := 0) (ms := 0) [.ref (wAd w (7, 11, 6, 0)), .int p1, .int p2, .int p3, .ref (wAd w (14, 13, 0, 0))] (kL_pendingLetter hW hS hO (Ω := (S, τ, o)) rfl p1 p2 p3 hF) cwL_pendingLetter rfl wm1_0 wm5_155 ⟨by decide, by decide, by decide +kernel⟩ wm5_154 rfl (kR rfl) (by decide) (kR rfl) rfl dL_law_1099 hq ?_
  refine r_istore C (lo' := [(5, .int 0), (4, .int i), (0, .ref b), (1, .ref (wAd w (7, 11, 6, 0))), (2, .ref (wAd w (11, 12, 0, 0))), (3, .ref (wAd w (14, 13, 0, 0)))]) (by decide) rfl dL_law_1102 ?_
  refine r_aload_n C (k := 4) rfl rfl dL_law_1104 ?_
  refine r_aload_n C (k := 2) rfl rfl dL_law_1105 ?_
  refine r_iload C (k := 1) rfl dL_law_1106 ?_
  refine r_iconst C (v := 1) rfl dL_law_1108 ?_
  refine r_iadd C dL_law_1109 ?_
  refine r_sld C hX h1.1 h1.2 dL_law_1110 ?_
  refine r_aload_n C (k := 2) rfl rfl dL_law_1111 ?_
  refine r_iload C (k := 1) rfl dL_law_1112 ?_
  refine r_iconst C (v := 2) rfl dL_law_1114 ?_
  refine r_iadd C dL_law_1115 ?_
  refine r_sld C hX h2.1 h2.2 dL_law_1116 ?_
  refine r_aload_n C (k := 2) rfl rfl dL_law_1117 ?_
  refine r_iload C (k := 1) rfl dL_law_1118 ?_
  refine r_iconst C (v := 3) rfl dL_law_1120 ?_
  refine r_iadd C dL_law_1121 ?_
  refine r_sld C hX h3.1 h3.2 dL_law_1122 ?_
  refine r_callV C (d' := 2) [.int p1, .int p2, .int p3] (c_X11_pendingLetter hM (Ω := (S, τ, (vp_updL o 0 v.toInt64))) rfl p1 p2 p3 hG rfl) myX11_pendingLetter wm8_196 ⟨_, _, _, _, (hM.ok k11), rfl, rfl, rfl, rfl⟩ rfl (kR rfl) (by decide) (kR rfl) rfl dL_law_1123 ?_
  refine r_istore C (lo' := [(6, .int v), (5, .int 0), (4, .int i), (0, .ref b), (1, .ref (wAd w (7, 11, 6, 0))), (2, .ref (wAd w (11, 12, 0, 0))), (3, .ref (wAd w (14, 13, 0, 0)))]) (by decide) rfl dL_law_1126 ?_
  refine r_aload_n C (k := 5) rfl rfl dL_law_1128 ?_
  refine r_callV C (d' := 0) [] (c_X11_thrown hM (Ω := (S, τ', (vp_updL o 0 v.toInt64))) rfl ht) myX11_thrown wm7_137 ⟨_, _, _, _, (hM.ok k11), rfl, rfl, rfl, rfl⟩ rfl (kR rfl) (by decide) (kR rfl) rfl dL_law_1129 ?_
  refine r_iload C (k := 1) rfl dL_law_1132 ?_
  refine r_icmp_eq C (tgt := 1139) rfl dL_law_1134 (fun _ => ?_) (fun h => absurd rfl h)
  refine r_iload C (k := 1) rfl dL_law_1139 ?_
  refine r_if_ne C (tgt := 1156) rfl dL_law_1141 (fun h => absurd rfl h) (fun _ => ?_)
  refine r_aload_n C (k := 6) rfl rfl dL_law_1144 ?_
  refine r_iconst C (v := 0) rfl dL_law_1145 ?_
  refine r_lald C (o := (vp_updL o 0 v.toInt64)) (hM.1 |> fun _ => hW.2.2.2.1 _ hO) rfl dL_law_1146 ?_
  refine r_iload C (k := 0) rfl dL_law_1147 ?_
  refine r_i2l C (v := v.toInt64) rfl dL_law_1149 ?_
  refine r_lcmp C dL_law_1150 ?_
  refine r_if_eq C (tgt := 1156) rfl dL_law_1151 (fun _ => ?_) (fun h => absurd (lgself _) h)
  refine r_goto C (tgt := 3008) rfl dL_law_1156 ?_
  refine r_lo [2, 3, 4, 5, 6] (lo' := [(4, .int i), (0, .ref b), (1, .ref (wAd w (7, 11, 6, 0))), (2, .ref (wAd w (11, 12, 0, 0))), (3, .ref (wAd w (14, 13, 0, 0)))]) rfl ?_
  exact kk
theorem la20X2 {w : WP} (hW : gW w) (hM : gWM w) (hS : gS w) (hZ : gZ w) (hO : wFr w (14, 13, 0, 0)) {X : CX} (C : gC w X cL_law "HedgeMessagesLaw" (some .boolean) 15 9) {b L : Nat} {xs : Nat → Int32} (hX : gSc X b L xs) {S : Nat → Nat → HV} {τ : HV} {o : Nat → Int64} {i : Int32} {p1 : Int32} (h1 : vp_in (i + 1) L ∧ xs (i + 1).toNatClampNeg = p1) {p2 : Int32} (h2 : vp_in (i + 2) L ∧ xs (i + 2).toNatClampNeg = p2) {p3 : Int32} (h3 : vp_in (i + 3) L ∧ xs (i + 3).toNatClampNeg = p3)  (hF : F_X10_pendingLetter p1 p2 p3 S = some (.inr 2)) {b9 : Int32} {τ' : HV} (hG : F_X11_pendingLetter p1 p2 p3 τ = some (b9, τ')) (ht : F_X11_thrown τ' = 1) {Q1 : State → Prop} {c n : Nat} (hq1 : qOk X (Q1, c + 1, n + 6)) (kk : gU w X (Q1, c + 1, n + 6) (cA w (S, τ', o)) 3008 [(4, .int i), (0, .ref b), (1, .ref (wAd w (7, 11, 6, 0))), (2, .ref (wAd w (11, 12, 0, 0))), (3, .ref (wAd w (14, 13, 0, 0)))] []) : gU w X (Q1, c, n) (cA w (S, τ, o)) 1079 [(4, .int i), (0, .ref b), (1, .ref (wAd w (7, 11, 6, 0))), (2, .ref (wAd w (11, 12, 0, 0))), (3, .ref (wAd w (14, 13, 0, 0)))] [] := by
  have hq : qOk X (Q1, c + 1, n + 6) := hq1
  refine r_aload_n C (k := 2) rfl rfl dL_law_1079 ?_
  refine r_aload_n C (k := 1) rfl rfl dL_law_1080 ?_
  refine r_iload C (k := 0) rfl dL_law_1081 ?_
  refine r_iconst C (v := 1) rfl dL_law_1083 ?_
  refine r_iadd C dL_law_1084 ?_
  refine r_sld C hX h1.1 h1.2 dL_law_1085 ?_
  refine r_aload_n C (k := 1) rfl rfl dL_law_1086 ?_
  refine r_iload C (k := 0) rfl dL_law_1087 ?_
  refine r_iconst C (v := 2) rfl dL_law_1089 ?_
  refine r_iadd C dL_law_1090 ?_
  refine r_sld C hX h2.1 h2.2 dL_law_1091 ?_
  refine r_aload_n C (k := 1) rfl rfl dL_law_1092 ?_
  refine r_iload C (k := 0) rfl dL_law_1093 ?_
  refine r_iconst C (v := 3) rfl dL_law_1095 ?_
  refine r_iadd C dL_law_1096 ?_
  refine r_sld C hX h3.1 h3.2 dL_law_1097 ?_
  refine r_aload_n C (k := 4) rfl rfl dL_law_1098 ?_
  refine r_callH C (ny := 5) (d' := 8) (mc := 1) (ms := 6) [.ref (wAd w (7, 11, 6, 0)), .int p1, .int p2, .int p3, .ref (wAd w (14, 13, 0, 0))] (xL_pendingLetter_2 hW hS hZ (Ω := (S, τ, o)) rfl p1 p2 p3 hF) cwL_pendingLetter rfl wm1_0 wm5_155 ⟨by decide, by decide, by decide +kernel⟩ wm5_154 rfl (kR rfl) (by decide) (kR rfl) rfl dL_law_1099 hq1 ?_
  refine r_istore C (lo' := [(5, .int 1), (4, .int i), (0, .ref b), (1, .ref (wAd w (7, 11, 6, 0))), (2, .ref (wAd w (11, 12, 0, 0))), (3, .ref (wAd w (14, 13, 0, 0)))]) (by decide) rfl dL_law_1102 ?_
  refine r_aload_n C (k := 4) rfl rfl dL_law_1104 ?_
  refine r_aload_n C (k := 2) rfl rfl dL_law_1105 ?_
  refine r_iload C (k := 1) rfl dL_law_1106 ?_
  refine r_iconst C (v := 1) rfl dL_law_1108 ?_
  refine r_iadd C dL_law_1109 ?_
  refine r_sld C hX h1.1 h1.2 dL_law_1110 ?_
  refine r_aload_n C (k := 2) rfl rfl dL_law_1111 ?_
  refine r_iload C (k := 1) rfl dL_law_1112 ?_
  refine r_iconst C (v := 2) rfl dL_law_1114 ?_
  refine r_iadd C dL_law_1115 ?_
  refine r_sld C hX h2.1 h2.2 dL_law_1116 ?_
  refine r_aload_n C (k := 2) rfl rfl dL_law_1117 ?_
  refine r_iload C (k := 1) rfl dL_law_1118 ?_
  refine r_iconst C (v := 3) rfl dL_law_1120 ?_
  refine r_iadd C dL_law_1121 ?_
  refine r_sld C hX h3.1 h3.2 dL_law_1122 ?_
  refine r_callV C (d' := 2) [.int p1, .int p2, .int p3] (c_X11_pendingLetter hM (Ω := (S, τ, o)) rfl p1 p2 p3 hG rfl) myX11_pendingLetter wm8_196 ⟨_, _, _, _, (hM.ok k11), rfl, rfl, rfl, rfl⟩ rfl (kR rfl) (by decide) (kR rfl) rfl dL_law_1123 ?_
  refine r_istore C (lo' := [(6, .int b9), (5, .int 1), (4, .int i), (0, .ref b), (1, .ref (wAd w (7, 11, 6, 0))), (2, .ref (wAd w (11, 12, 0, 0))), (3, .ref (wAd w (14, 13, 0, 0)))]) (by decide) rfl dL_law_1126 ?_
  refine r_aload_n C (k := 5) rfl rfl dL_law_1128 ?_
  refine r_callV C (d' := 0) [] (c_X11_thrown hM (Ω := (S, τ', o)) rfl ht) myX11_thrown wm7_137 ⟨_, _, _, _, (hM.ok k11), rfl, rfl, rfl, rfl⟩ rfl (kR rfl) (by decide) (kR rfl) rfl dL_law_1129 ?_
  refine r_iload C (k := 1) rfl dL_law_1132 ?_
  refine r_icmp_eq C (tgt := 1139) rfl dL_law_1134 (fun _ => ?_) (fun h => absurd rfl h)
  refine r_iload C (k := 1) rfl dL_law_1139 ?_
  refine r_if_ne C (tgt := 1156) rfl dL_law_1141 (fun _ => ?_) (fun h => absurd h (by decide))
  refine r_goto C (tgt := 3008) rfl dL_law_1156 ?_
  refine r_lo [2, 3, 4, 5, 6] (lo' := [(4, .int i), (0, .ref b), (1, .ref (wAd w (7, 11, 6, 0))), (2, .ref (wAd w (11, 12, 0, 0))), (3, .ref (wAd w (14, 13, 0, 0)))]) rfl ?_
  exact kk
theorem la21N {w : WP} (hW : gW w) (hM : gWM w) (hS : gS w) (hZ : gZ w) (hO : wFr w (14, 13, 0, 0)) {X : CX} (C : gC w X cL_law "HedgeMessagesLaw" (some .boolean) 15 9) {b L : Nat} {xs : Nat → Int32} (hX : gSc X b L xs) {S : Nat → Nat → HV} {τ : HV} {o : Nat → Int64} {i : Int32} {p1 : Int32} (h1 : vp_in (i + 1) L ∧ xs (i + 1).toNatClampNeg = p1) {v : Int32} (hF : F_X10_lettersWritten p1 S = some (.inl v)) {τ' : HV} (hG : F_X11_lettersWritten p1 τ = some (v, τ')) (ht : F_X11_thrown τ' = 0) {Q1 : State → Prop} {c n : Nat} (hq : qOk X (Q1, c, n)) (kk : gU w X (Q1, c, n) (cA w (S, τ', (vp_updL o 0 v.toInt64))) 3008 [(4, .int i), (0, .ref b), (1, .ref (wAd w (7, 11, 6, 0))), (2, .ref (wAd w (11, 12, 0, 0))), (3, .ref (wAd w (14, 13, 0, 0)))] []) : gU w X (Q1, c, n) (cA w (S, τ, o)) 1159 [(4, .int i), (0, .ref b), (1, .ref (wAd w (7, 11, 6, 0))), (2, .ref (wAd w (11, 12, 0, 0))), (3, .ref (wAd w (14, 13, 0, 0)))] [] := by
  refine r_aload_n C (k := 2) rfl rfl dL_law_1159 ?_
  refine r_aload_n C (k := 1) rfl rfl dL_law_1160 ?_
  refine r_iload C (k := 0) rfl dL_law_1161 ?_
  refine r_iconst C (v := 1) rfl dL_law_1163 ?_
  refine r_iadd C dL_law_1164 ?_
  refine r_sld C hX h1.1 h1.2 dL_law_1165 ?_
  refine r_aload_n C (k := 4) rfl rfl dL_law_1166 ?_
  refine r_callH C (ny := 3) (d' := 8) (mc := 0) (ms := 0) [.ref (wAd w (7, 11, 6, 0)), .int p1, .ref (wAd w (14, 13, 0, 0))] (kL_lettersWritten hW hS hO (Ω := (S, τ, o)) rfl p1 hF) cwL_lettersWritten rfl wm1_0 wm5_167 ⟨by decide, by decide, by decide +kernel⟩ wm5_166 rfl (kR rfl) (by decide) (kR rfl) rfl dL_law_1167 hq ?_
  refine r_istore C (lo' := [(5, .int 0), (4, .int i), (0, .ref b), (1, .ref (wAd w (7, 11, 6, 0))), (2, .ref (wAd w (11, 12, 0, 0))), (3, .ref (wAd w (14, 13, 0, 0)))]) (by decide) rfl dL_law_1170 ?_
  refine r_aload_n C (k := 4) rfl rfl dL_law_1172 ?_
  refine r_aload_n C (k := 2) rfl rfl dL_law_1173 ?_
  refine r_iload C (k := 1) rfl dL_law_1174 ?_
  refine r_iconst C (v := 1) rfl dL_law_1176 ?_
  refine r_iadd C dL_law_1177 ?_
  refine r_sld C hX h1.1 h1.2 dL_law_1178 ?_
  refine r_callV C (d' := 2) [.int p1] (c_X11_lettersWritten hM (Ω := (S, τ, (vp_updL o 0 v.toInt64))) rfl p1 hG rfl) myX11_lettersWritten wm8_200 ⟨_, _, _, _, (hM.ok k11), rfl, rfl, rfl, rfl⟩ rfl (kR rfl) (by decide) (kR rfl) rfl dL_law_1179 ?_
  refine r_istore C (lo' := [(6, .int v), (5, .int 0), (4, .int i), (0, .ref b), (1, .ref (wAd w (7, 11, 6, 0))), (2, .ref (wAd w (11, 12, 0, 0))), (3, .ref (wAd w (14, 13, 0, 0)))]) (by decide) rfl dL_law_1182 ?_
  refine r_aload_n C (k := 5) rfl rfl dL_law_1184 ?_
  refine r_callV C (d' := 0) [] (c_X11_thrown hM (Ω := (S, τ', (vp_updL o 0 v.toInt64))) rfl ht) myX11_thrown wm7_137 ⟨_, _, _, _, (hM.ok k11), rfl, rfl, rfl, rfl⟩ rfl (kR rfl) (by decide) (kR rfl) rfl dL_law_1185 ?_
  refine r_iload C (k := 1) rfl dL_law_1188 ?_
  refine r_icmp_eq C (tgt := 1195) rfl dL_law_1190 (fun _ => ?_) (fun h => absurd rfl h)
  refine r_iload C (k := 1) rfl dL_law_1195 ?_
  refine r_if_ne C (tgt := 1212) rfl dL_law_1197 (fun h => absurd rfl h) (fun _ => ?_)
  refine r_aload_n C (k := 6) rfl rfl dL_law_1200 ?_
  refine r_iconst C (v := 0) rfl dL_law_1201 ?_
  refine r_lald C (o := (vp_updL o 0 v.toInt64)) (hM.1 |> fun _ => hW.2.2.2.1 _ hO) rfl dL_law_1202 ?_
  refine r_iload C (k := 0) rfl dL_law_1203 ?_
  refine r_i2l C (v := v.toInt64) rfl dL_law_1205 ?_
  refine r_lcmp C dL_law_1206 ?_
  refine r_if_eq C (tgt := 1212) rfl dL_law_1207 (fun _ => ?_) (fun h => absurd (lgself _) h)
  refine r_goto C (tgt := 3008) rfl dL_law_1212 ?_
  refine r_lo [2, 3, 4, 5, 6] (lo' := [(4, .int i), (0, .ref b), (1, .ref (wAd w (7, 11, 6, 0))), (2, .ref (wAd w (11, 12, 0, 0))), (3, .ref (wAd w (14, 13, 0, 0)))]) rfl ?_
  exact kk
theorem la21X2 {w : WP} (hW : gW w) (hM : gWM w) (hS : gS w) (hZ : gZ w) (hO : wFr w (14, 13, 0, 0)) {X : CX} (C : gC w X cL_law "HedgeMessagesLaw" (some .boolean) 15 9) {b L : Nat} {xs : Nat → Int32} (hX : gSc X b L xs) {S : Nat → Nat → HV} {τ : HV} {o : Nat → Int64} {i : Int32} {p1 : Int32} (h1 : vp_in (i + 1) L ∧ xs (i + 1).toNatClampNeg = p1)  (hF : F_X10_lettersWritten p1 S = some (.inr 2)) {b9 : Int32} {τ' : HV} (hG : F_X11_lettersWritten p1 τ = some (b9, τ')) (ht : F_X11_thrown τ' = 1) {Q1 : State → Prop} {c n : Nat} (hq1 : qOk X (Q1, c + 1, n + 6)) (kk : gU w X (Q1, c + 1, n + 6) (cA w (S, τ', o)) 3008 [(4, .int i), (0, .ref b), (1, .ref (wAd w (7, 11, 6, 0))), (2, .ref (wAd w (11, 12, 0, 0))), (3, .ref (wAd w (14, 13, 0, 0)))] []) : gU w X (Q1, c, n) (cA w (S, τ, o)) 1159 [(4, .int i), (0, .ref b), (1, .ref (wAd w (7, 11, 6, 0))), (2, .ref (wAd w (11, 12, 0, 0))), (3, .ref (wAd w (14, 13, 0, 0)))] [] := by
  have hq : qOk X (Q1, c + 1, n + 6) := hq1
  refine r_aload_n C (k := 2) rfl rfl dL_law_1159 ?_
  refine r_aload_n C (k := 1) rfl rfl dL_law_1160 ?_
  refine r_iload C (k := 0) rfl dL_law_1161 ?_
  refine r_iconst C (v := 1) rfl dL_law_1163 ?_
  refine r_iadd C dL_law_1164 ?_
  refine r_sld C hX h1.1 h1.2 dL_law_1165 ?_
  refine r_aload_n C (k := 4) rfl rfl dL_law_1166 ?_
  refine r_callH C (ny := 3) (d' := 8) (mc := 1) (ms := 6) [.ref (wAd w (7, 11, 6, 0)), .int p1, .ref (wAd w (14, 13, 0, 0))] (xL_lettersWritten_2 hW hS hZ (Ω := (S, τ, o)) rfl p1 hF) cwL_lettersWritten rfl wm1_0 wm5_167 ⟨by decide, by decide, by decide +kernel⟩ wm5_166 rfl (kR rfl) (by decide) (kR rfl) rfl dL_law_1167 hq1 ?_
  refine r_istore C (lo' := [(5, .int 1), (4, .int i), (0, .ref b), (1, .ref (wAd w (7, 11, 6, 0))), (2, .ref (wAd w (11, 12, 0, 0))), (3, .ref (wAd w (14, 13, 0, 0)))]) (by decide) rfl dL_law_1170 ?_
  refine r_aload_n C (k := 4) rfl rfl dL_law_1172 ?_
  refine r_aload_n C (k := 2) rfl rfl dL_law_1173 ?_
  refine r_iload C (k := 1) rfl dL_law_1174 ?_
  refine r_iconst C (v := 1) rfl dL_law_1176 ?_
  refine r_iadd C dL_law_1177 ?_
  refine r_sld C hX h1.1 h1.2 dL_law_1178 ?_
  refine r_callV C (d' := 2) [.int p1] (c_X11_lettersWritten hM (Ω := (S, τ, o)) rfl p1 hG rfl) myX11_lettersWritten wm8_200 ⟨_, _, _, _, (hM.ok k11), rfl, rfl, rfl, rfl⟩ rfl (kR rfl) (by decide) (kR rfl) rfl dL_law_1179 ?_
  refine r_istore C (lo' := [(6, .int b9), (5, .int 1), (4, .int i), (0, .ref b), (1, .ref (wAd w (7, 11, 6, 0))), (2, .ref (wAd w (11, 12, 0, 0))), (3, .ref (wAd w (14, 13, 0, 0)))]) (by decide) rfl dL_law_1182 ?_
  refine r_aload_n C (k := 5) rfl rfl dL_law_1184 ?_
  refine r_callV C (d' := 0) [] (c_X11_thrown hM (Ω := (S, τ', o)) rfl ht) myX11_thrown wm7_137 ⟨_, _, _, _, (hM.ok k11), rfl, rfl, rfl, rfl⟩ rfl (kR rfl) (by decide) (kR rfl) rfl dL_law_1185 ?_
  refine r_iload C (k := 1) rfl dL_law_1188 ?_
  refine r_icmp_eq C (tgt := 1195) rfl dL_law_1190 (fun _ => ?_) (fun h => absurd rfl h)
  refine r_iload C (k := 1) rfl dL_law_1195 ?_
  refine r_if_ne C (tgt := 1212) rfl dL_law_1197 (fun _ => ?_) (fun h => absurd h (by decide))
  refine r_goto C (tgt := 3008) rfl dL_law_1212 ?_
  refine r_lo [2, 3, 4, 5, 6] (lo' := [(4, .int i), (0, .ref b), (1, .ref (wAd w (7, 11, 6, 0))), (2, .ref (wAd w (11, 12, 0, 0))), (3, .ref (wAd w (14, 13, 0, 0)))]) rfl ?_
  exact kk
