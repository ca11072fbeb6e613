theorem dL_acts_368 : decode cL_acts 368 = .ok (.istore 12, 2) := by decide +kernel
theorem dL_acts_370 : decode cL_acts 370 = .ok (.aload_n 1, 1) := by decide +kernel
theorem dL_acts_371 : decode cL_acts 371 = .ok (.iload 12, 2) := by decide +kernel
theorem dL_acts_373 : decode cL_acts 373 = .ok (.dup2, 1) := by decide +kernel
theorem dL_acts_374 : decode cL_acts 374 = .ok (.iaload, 1) := by decide +kernel
theorem dL_acts_375 : decode cL_acts 375 = .ok (.sipush 10000, 3) := by decide +kernel
theorem dL_acts_378 : decode cL_acts 378 = .ok (.iadd, 1) := by decide +kernel
theorem dL_acts_379 : decode cL_acts 379 = .ok (.iastore, 1) := by decide +kernel
theorem dL_acts_380 : decode cL_acts 380 = .ok (.iconst 2, 1) := by decide +kernel
theorem dL_acts_381 : decode cL_acts 381 = .ok (.aload_n 1, 1) := by decide +kernel
theorem dL_acts_382 : decode cL_acts 382 = .ok (.aload_n 3, 1) := by decide +kernel
theorem dL_acts_383 : decode cL_acts 383 = .ok (.iload 4, 2) := by decide +kernel
theorem dL_acts_385 : decode cL_acts 385 = .ok (.invokestatic 69, 3) := by decide +kernel
theorem dL_acts_388 : decode cL_acts 388 = .ok (.imul, 1) := by decide +kernel
theorem dL_acts_389 : decode cL_acts 389 = .ok (.aload_n 3, 1) := by decide +kernel
theorem dL_acts_390 : decode cL_acts 390 = .ok (.iload 4, 2) := by decide +kernel
theorem dL_acts_392 : decode cL_acts 392 = .ok (.iaload, 1) := by decide +kernel
theorem dL_acts_393 : decode cL_acts 393 = .ok (.if_icmp .le 11, 3) := by decide +kernel
theorem dL_acts_396 : decode cL_acts 396 = .ok (.aload_n 1, 1) := by decide +kernel
theorem dL_acts_397 : decode cL_acts 397 = .ok (.aload_n 2, 1) := by decide +kernel
theorem dL_acts_398 : decode cL_acts 398 = .ok (.aload_n 3, 1) := by decide +kernel
theorem dL_acts_399 : decode cL_acts 399 = .ok (.iload 4, 2) := by decide +kernel
theorem dL_acts_401 : decode cL_acts 401 = .ok (.invokestatic 73, 3) := by decide +kernel
theorem dL_acts_404 : decode cL_acts 404 = .ok (.aload_n 0, 1) := by decide +kernel
theorem dL_acts_405 : decode cL_acts 405 = .ok (.iload 4, 2) := by decide +kernel
theorem dL_acts_407 : decode cL_acts 407 = .ok (.iload 9, 2) := by decide +kernel
theorem dL_acts_409 : decode cL_acts 409 = .ok (.invokestatic 114, 3) := by decide +kernel
theorem dL_acts_412 : decode cL_acts 412 = .ok (.iload 10, 2) := by decide +kernel
theorem dL_acts_414 : decode cL_acts 414 = .ok (.ifCond .eq 7, 3) := by decide +kernel
theorem dL_acts_417 : decode cL_acts 417 = .ok (.iconst 1, 1) := by decide +kernel
theorem dL_acts_418 : decode cL_acts 418 = .ok (.goto 4, 3) := by decide +kernel
theorem dL_acts_421 : decode cL_acts 421 = .ok (.iconst 0, 1) := by decide +kernel
theorem dL_acts_422 : decode cL_acts 422 = .ok (.if_icmp .ne 7, 3) := by decide +kernel
theorem dL_acts_425 : decode cL_acts 425 = .ok (.iconst 1, 1) := by decide +kernel
theorem dL_acts_426 : decode cL_acts 426 = .ok (.goto 4, 3) := by decide +kernel
theorem dL_acts_429 : decode cL_acts 429 = .ok (.iconst 0, 1) := by decide +kernel
theorem dL_acts_430 : decode cL_acts 430 = .ok (.ireturn, 1) := by decide +kernel
theorem dL_acts_431 : decode cL_acts 431 = .ok (.iconst 1, 1) := by decide +kernel
theorem dL_acts_432 : decode cL_acts 432 = .ok (.iload 5, 2) := by decide +kernel
theorem dL_acts_434 : decode cL_acts 434 = .ok (.bipush 9, 2) := by decide +kernel
theorem dL_acts_436 : decode cL_acts 436 = .ok (.ishr, 1) := by decide +kernel
theorem dL_acts_437 : decode cL_acts 437 = .ok (.sipush 999, 3) := by decide +kernel
theorem dL_acts_440 : decode cL_acts 440 = .ok (.invokestatic 100, 3) := by decide +kernel
theorem dL_acts_443 : decode cL_acts 443 = .ok (.iadd, 1) := by decide +kernel
theorem dL_acts_444 : decode cL_acts 444 = .ok (.istore 12, 2) := by decide +kernel
theorem dL_acts_446 : decode cL_acts 446 = .ok (.iconst 1, 1) := by decide +kernel
theorem dL_acts_447 : decode cL_acts 447 = .ok (.iload 5, 2) := by decide +kernel
theorem dL_acts_449 : decode cL_acts 449 = .ok (.bipush 12, 2) := by decide +kernel
theorem dL_acts_451 : decode cL_acts 451 = .ok (.ishr, 1) := by decide +kernel
theorem dL_acts_452 : decode cL_acts 452 = .ok (.bipush 24, 2) := by decide +kernel
theorem dL_acts_454 : decode cL_acts 454 = .ok (.invokestatic 100, 3) := by decide +kernel
theorem dL_acts_457 : decode cL_acts 457 = .ok (.iadd, 1) := by decide +kernel
theorem dL_acts_458 : decode cL_acts 458 = .ok (.istore 13, 2) := by decide +kernel
theorem dL_acts_460 : decode cL_acts 460 = .ok (.iconst 0, 1) := by decide +kernel
theorem dL_acts_461 : decode cL_acts 461 = .ok (.istore 14, 2) := by decide +kernel
theorem dL_acts_463 : decode cL_acts 463 = .ok (.iload 7, 2) := by decide +kernel
theorem dL_acts_465 : decode cL_acts 465 = .ok (.istore 15, 2) := by decide +kernel
theorem dL_acts_467 : decode cL_acts 467 = .ok (.iconst 0, 1) := by decide +kernel
theorem dL_acts_468 : decode cL_acts 468 = .ok (.istore 16, 2) := by decide +kernel
theorem dL_acts_470 : decode cL_acts 470 = .ok (.iload 16, 2) := by decide +kernel
theorem dL_acts_472 : decode cL_acts 472 = .ok (.iload 13, 2) := by decide +kernel
theorem dL_acts_474 : decode cL_acts 474 = .ok (.if_icmp .ge 62, 3) := by decide +kernel
theorem dL_acts_477 : decode cL_acts 477 = .ok (.iload 15, 2) := by decide +kernel
theorem dL_acts_479 : decode cL_acts 479 = .ok (.sipush 10000, 3) := by decide +kernel
theorem dL_acts_482 : decode cL_acts 482 = .ok (.if_icmp .ge 54, 3) := by decide +kernel
theorem dL_acts_485 : decode cL_acts 485 = .ok (.aload_n 1, 1) := by decide +kernel
theorem dL_acts_486 : decode cL_acts 486 = .ok (.aload_n 3, 1) := by decide +kernel
theorem dL_acts_487 : decode cL_acts 487 = .ok (.iload 4, 2) := by decide +kernel
theorem dL_acts_489 : decode cL_acts 489 = .ok (.invokestatic 81, 3) := by decide +kernel
theorem dL_acts_492 : decode cL_acts 492 = .ok (.bipush 24, 2) := by decide +kernel
theorem dL_acts_494 : decode cL_acts 494 = .ok (.if_icmp .ge 42, 3) := by decide +kernel
theorem dL_acts_497 : decode cL_acts 497 = .ok (.aload_n 1, 1) := by decide +kernel
theorem dL_acts_498 : decode cL_acts 498 = .ok (.aload_n 2, 1) := by decide +kernel
theorem dL_acts_499 : decode cL_acts 499 = .ok (.aload_n 3, 1) := by decide +kernel
theorem dL_acts_500 : decode cL_acts 500 = .ok (.iload 4, 2) := by decide +kernel
theorem dL_acts_502 : decode cL_acts 502 = .ok (.iload 15, 2) := by decide +kernel
theorem dL_acts_504 : decode cL_acts 504 = .ok (.invokestatic 103, 3) := by decide +kernel
theorem dL_acts_507 : decode cL_acts 507 = .ok (.ifCond .ne 16, 3) := by decide +kernel
theorem dL_acts_510 : decode cL_acts 510 = .ok (.aload_n 1, 1) := by decide +kernel
theorem dL_acts_511 : decode cL_acts 511 = .ok (.aload_n 2, 1) := by decide +kernel
theorem dL_acts_512 : decode cL_acts 512 = .ok (.aload_n 3, 1) := by decide +kernel
theorem dL_acts_513 : decode cL_acts 513 = .ok (.iload 4, 2) := by decide +kernel
theorem dL_acts_515 : decode cL_acts 515 = .ok (.iload 15, 2) := by decide +kernel
theorem dL_acts_517 : decode cL_acts 517 = .ok (.invokestatic 110, 3) := by decide +kernel
theorem dL_acts_520 : decode cL_acts 520 = .ok (.iinc 14 1, 3) := by decide +kernel
theorem dL_acts_523 : decode cL_acts 523 = .ok (.iload 15, 2) := by decide +kernel
theorem dL_acts_525 : decode cL_acts 525 = .ok (.iload 12, 2) := by decide +kernel
theorem dL_acts_527 : decode cL_acts 527 = .ok (.iadd, 1) := by decide +kernel
theorem dL_acts_528 : decode cL_acts 528 = .ok (.istore 15, 2) := by decide +kernel
theorem dL_acts_530 : decode cL_acts 530 = .ok (.iinc 16 1, 3) := by decide +kernel
theorem dL_acts_533 : decode cL_acts 533 = .ok (.goto (-63), 3) := by decide +kernel
theorem dL_acts_536 : decode cL_acts 536 = .ok (.aload_n 0, 1) := by decide +kernel
theorem dL_acts_537 : decode cL_acts 537 = .ok (.iload 4, 2) := by decide +kernel
theorem dL_acts_539 : decode cL_acts 539 = .ok (.iload 7, 2) := by decide +kernel
theorem dL_acts_541 : decode cL_acts 541 = .ok (.iload 12, 2) := by decide +kernel
theorem dL_acts_543 : decode cL_acts 543 = .ok (.iload 13, 2) := by decide +kernel
theorem dL_acts_545 : decode cL_acts 545 = .ok (.invokestatic 117, 3) := by decide +kernel
theorem dL_acts_548 : decode cL_acts 548 = .ok (.iload 14, 2) := by decide +kernel
theorem dL_acts_550 : decode cL_acts 550 = .ok (.if_icmp .ne 7, 3) := by decide +kernel
theorem dL_acts_553 : decode cL_acts 553 = .ok (.iconst 1, 1) := by decide +kernel
theorem dL_acts_554 : decode cL_acts 554 = .ok (.goto 4, 3) := by decide +kernel
theorem dL_acts_557 : decode cL_acts 557 = .ok (.iconst 0, 1) := by decide +kernel
theorem dL_acts_558 : decode cL_acts 558 = .ok (.ireturn, 1) := by decide +kernel
theorem dL_acts_559 : decode cL_acts 559 = .ok (.bipush 10, 2) := by decide +kernel
theorem dL_acts_561 : decode cL_acts 561 = .ok (.aload_n 3, 1) := by decide +kernel
theorem dL_acts_562 : decode cL_acts 562 = .ok (.bipush 17, 2) := by decide +kernel
theorem dL_acts_564 : decode cL_acts 564 = .ok (.iaload, 1) := by decide +kernel
theorem dL_acts_565 : decode cL_acts 565 = .ok (.imul, 1) := by decide +kernel
theorem dL_acts_566 : decode cL_acts 566 = .ok (.aload_n 3, 1) := by decide +kernel
theorem dL_acts_567 : decode cL_acts 567 = .ok (.bipush 18, 2) := by decide +kernel
theorem dL_acts_569 : decode cL_acts 569 = .ok (.iaload, 1) := by decide +kernel
theorem dL_acts_570 : decode cL_acts 570 = .ok (.iadd, 1) := by decide +kernel
theorem dL_acts_571 : decode cL_acts 571 = .ok (.istore 16, 2) := by decide +kernel
theorem dL_acts_573 : decode cL_acts 573 = .ok (.aload_n 3, 1) := by decide +kernel
theorem dL_acts_574 : decode cL_acts 574 = .ok (.bipush 17, 2) := by decide +kernel
theorem dL_acts_576 : decode cL_acts 576 = .ok (.iconst 1, 1) := by decide +kernel
theorem dL_acts_577 : decode cL_acts 577 = .ok (.iload 5, 2) := by decide +kernel
theorem dL_acts_579 : decode cL_acts 579 = .ok (.iconst 5, 1) := by decide +kernel
theorem dL_acts_580 : decode cL_acts 580 = .ok (.ishr, 1) := by decide +kernel
theorem dL_acts_581 : decode cL_acts 581 = .ok (.bipush 8, 2) := by decide +kernel
theorem dL_acts_583 : decode cL_acts 583 = .ok (.invokestatic 100, 3) := by decide +kernel
theorem dL_acts_586 : decode cL_acts 586 = .ok (.iadd, 1) := by decide +kernel
theorem dL_acts_587 : decode cL_acts 587 = .ok (.iastore, 1) := by decide +kernel
theorem dL_acts_588 : decode cL_acts 588 = .ok (.aload_n 3, 1) := by decide +kernel
theorem dL_acts_589 : decode cL_acts 589 = .ok (.bipush 18, 2) := by decide +kernel
theorem dL_acts_591 : decode cL_acts 591 = .ok (.iconst 2, 1) := by decide +kernel
theorem dL_acts_592 : decode cL_acts 592 = .ok (.iload 5, 2) := by decide +kernel
theorem dL_acts_594 : decode cL_acts 594 = .ok (.bipush 9, 2) := by decide +kernel
theorem dL_acts_596 : decode cL_acts 596 = .ok (.ishr, 1) := by decide +kernel
theorem dL_acts_597 : decode cL_acts 597 = .ok (.iconst 4, 1) := by decide +kernel
theorem dL_acts_598 : decode cL_acts 598 = .ok (.invokestatic 100, 3) := by decide +kernel
theorem dL_acts_601 : decode cL_acts 601 = .ok (.iadd, 1) := by decide +kernel
theorem dL_acts_602 : decode cL_acts 602 = .ok (.iastore, 1) := by decide +kernel
theorem dL_acts_603 : decode cL_acts 603 = .ok (.aload_n 0, 1) := by decide +kernel
theorem dL_acts_604 : decode cL_acts 604 = .ok (.aload_n 3, 1) := by decide +kernel
theorem dL_acts_605 : decode cL_acts 605 = .ok (.bipush 17, 2) := by decide +kernel
theorem dL_acts_607 : decode cL_acts 607 = .ok (.iaload, 1) := by decide +kernel
theorem dL_acts_608 : decode cL_acts 608 = .ok (.aload_n 3, 1) := by decide +kernel
theorem dL_acts_609 : decode cL_acts 609 = .ok (.bipush 18, 2) := by decide +kernel
theorem dL_acts_611 : decode cL_acts 611 = .ok (.iaload, 1) := by decide +kernel
theorem dL_acts_612 : decode cL_acts 612 = .ok (.invokestatic 121, 3) := by decide +kernel
theorem dL_acts_615 : decode cL_acts 615 = .ok (.iload 16, 2) := by decide +kernel
theorem dL_acts_617 : decode cL_acts 617 = .ok (.if_icmp .ne 7, 3) := by decide +kernel
theorem dL_acts_620 : decode cL_acts 620 = .ok (.iconst 1, 1) := by decide +kernel
theorem dL_acts_621 : decode cL_acts 621 = .ok (.goto 4, 3) := by decide +kernel
theorem dL_acts_624 : decode cL_acts 624 = .ok (.iconst 0, 1) := by decide +kernel
theorem dL_acts_625 : decode cL_acts 625 = .ok (.ireturn, 1) := by decide +kernel
theorem dL_acts_626 : decode cL_acts 626 = .ok (.aload_n 1, 1) := by decide +kernel
theorem dL_acts_627 : decode cL_acts 627 = .ok (.aload_n 2, 1) := by decide +kernel
theorem dL_acts_628 : decode cL_acts 628 = .ok (.aload_n 3, 1) := by decide +kernel
theorem dL_acts_629 : decode cL_acts 629 = .ok (.iload 4, 2) := by decide +kernel
theorem dL_acts_631 : decode cL_acts 631 = .ok (.invokestatic 73, 3) := by decide +kernel
theorem dL_acts_634 : decode cL_acts 634 = .ok (.aload_n 0, 1) := by decide +kernel
theorem dL_acts_635 : decode cL_acts 635 = .ok (.iload 4, 2) := by decide +kernel
theorem dL_acts_637 : decode cL_acts 637 = .ok (.invokestatic 124, 3) := by decide +kernel
theorem dL_acts_640 : decode cL_acts 640 = .ok (.aload_n 3, 1) := by decide +kernel
theorem dL_acts_641 : decode cL_acts 641 = .ok (.iload 4, 2) := by decide +kernel
theorem dL_acts_643 : decode cL_acts 643 = .ok (.iaload, 1) := by decide +kernel
theorem dL_acts_644 : decode cL_acts 644 = .ok (.if_icmp .lt 7, 3) := by decide +kernel
theorem dL_acts_647 : decode cL_acts 647 = .ok (.iconst 1, 1) := by decide +kernel
theorem dL_acts_648 : decode cL_acts 648 = .ok (.goto 4, 3) := by decide +kernel
theorem dL_acts_651 : decode cL_acts 651 = .ok (.iconst 0, 1) := by decide +kernel
theorem dL_acts_652 : decode cL_acts 652 = .ok (.ireturn, 1) := by decide +kernel
theorem dL_law_0 : decode cL_law 0 = .ok (.new 10, 3) := by decide +kernel
theorem dL_law_3 : decode cL_law 3 = .ok (.dup, 1) := by decide +kernel
theorem dL_law_4 : decode cL_law 4 = .ok (.invokespecial 127, 3) := by decide +kernel
theorem dL_law_7 : decode cL_law 7 = .ok (.astore_n 1, 1) := by decide +kernel
theorem dL_law_8 : decode cL_law 8 = .ok (.bipush 24, 2) := by decide +kernel
theorem dL_law_10 : decode cL_law 10 = .ok (.newarray .int, 2) := by decide +kernel
theorem dL_law_12 : decode cL_law 12 = .ok (.astore_n 2, 1) := by decide +kernel
theorem dL_law_13 : decode cL_law 13 = .ok (.bipush 24, 2) := by decide +kernel
theorem dL_law_15 : decode cL_law 15 = .ok (.newarray .int, 2) := by decide +kernel
theorem dL_law_17 : decode cL_law 17 = .ok (.astore_n 3, 1) := by decide +kernel
theorem dL_law_18 : decode cL_law 18 = .ok (.bipush 24, 2) := by decide +kernel
theorem dL_law_20 : decode cL_law 20 = .ok (.newarray .int, 2) := by decide +kernel
theorem dL_law_22 : decode cL_law 22 = .ok (.astore 4, 2) := by decide +kernel
theorem dL_law_24 : decode cL_law 24 = .ok (.bipush 24, 2) := by decide +kernel
theorem dL_law_26 : decode cL_law 26 = .ok (.newarray .int, 2) := by decide +kernel
theorem dL_law_28 : decode cL_law 28 = .ok (.astore 5, 2) := by decide +kernel
theorem dL_law_30 : decode cL_law 30 = .ok (.bipush 20, 2) := by decide +kernel
theorem dL_law_32 : decode cL_law 32 = .ok (.newarray .int, 2) := by decide +kernel
theorem dL_law_34 : decode cL_law 34 = .ok (.astore 6, 2) := by decide +kernel
theorem dL_law_36 : decode cL_law 36 = .ok (.aload 6, 2) := by decide +kernel
theorem dL_law_38 : decode cL_law 38 = .ok (.bipush 16, 2) := by decide +kernel
theorem dL_law_40 : decode cL_law 40 = .ok (.iconst 3, 1) := by decide +kernel
theorem dL_law_41 : decode cL_law 41 = .ok (.iastore, 1) := by decide +kernel
theorem dL_law_42 : decode cL_law 42 = .ok (.aload 6, 2) := by decide +kernel
theorem dL_law_44 : decode cL_law 44 = .ok (.bipush 17, 2) := by decide +kernel
theorem dL_law_46 : decode cL_law 46 = .ok (.iconst 4, 1) := by decide +kernel
theorem dL_law_47 : decode cL_law 47 = .ok (.iastore, 1) := by decide +kernel
theorem dL_law_48 : decode cL_law 48 = .ok (.aload 6, 2) := by decide +kernel
theorem dL_law_50 : decode cL_law 50 = .ok (.bipush 18, 2) := by decide +kernel
theorem dL_law_52 : decode cL_law 52 = .ok (.iconst 2, 1) := by decide +kernel
theorem dL_law_53 : decode cL_law 53 = .ok (.iastore, 1) := by decide +kernel
theorem dL_law_54 : decode cL_law 54 = .ok (.aload_n 0, 1) := by decide +kernel
theorem dL_law_55 : decode cL_law 55 = .ok (.iconst 0, 1) := by decide +kernel
theorem dL_law_56 : decode cL_law 56 = .ok (.invokestatic 128, 3) := by decide +kernel
theorem dL_law_59 : decode cL_law 59 = .ok (.iconst 2, 1) := by decide +kernel
theorem dL_law_60 : decode cL_law 60 = .ok (.invokestatic 100, 3) := by decide +kernel
theorem dL_law_63 : decode cL_law 63 = .ok (.ifCond .ne 7, 3) := by decide +kernel
theorem dL_law_66 : decode cL_law 66 = .ok (.iconst 1, 1) := by decide +kernel
theorem dL_law_67 : decode cL_law 67 = .ok (.goto 4, 3) := by decide +kernel
theorem dL_law_70 : decode cL_law 70 = .ok (.iconst 0, 1) := by decide +kernel
theorem dL_law_71 : decode cL_law 71 = .ok (.istore 7, 2) := by decide +kernel
theorem dL_law_73 : decode cL_law 73 = .ok (.aload_n 1, 1) := by decide +kernel
theorem dL_law_74 : decode cL_law 74 = .ok (.iconst 0, 1) := by decide +kernel
theorem dL_law_75 : decode cL_law 75 = .ok (.iload 7, 2) := by decide +kernel
theorem dL_law_77 : decode cL_law 77 = .ok (.ifCond .eq 7, 3) := by decide +kernel
theorem dL_law_80 : decode cL_law 80 = .ok (.iconst 1, 1) := by decide +kernel
theorem dL_law_81 : decode cL_law 81 = .ok (.goto 4, 3) := by decide +kernel
theorem dL_law_84 : decode cL_law 84 = .ok (.iconst 2, 1) := by decide +kernel
theorem dL_law_85 : decode cL_law 85 = .ok (.invokestatic 132, 3) := by decide +kernel
theorem dL_law_88 : decode cL_law 88 = .ok (.iconst 1, 1) := by decide +kernel
theorem dL_law_89 : decode cL_law 89 = .ok (.if_icmp .ne 44, 3) := by decide +kernel
theorem dL_law_92 : decode cL_law 92 = .ok (.aload_n 1, 1) := by decide +kernel
theorem dL_law_93 : decode cL_law 93 = .ok (.aload_n 0, 1) := by decide +kernel
theorem dL_law_94 : decode cL_law 94 = .ok (.iconst 0, 1) := by decide +kernel
theorem dL_law_95 : decode cL_law 95 = .ok (.invokestatic 128, 3) := by decide +kernel
theorem dL_law_98 : decode cL_law 98 = .ok (.iconst 1, 1) := by decide +kernel
theorem dL_law_99 : decode cL_law 99 = .ok (.ishr, 1) := by decide +kernel
theorem dL_law_100 : decode cL_law 100 = .ok (.iconst 2, 1) := by decide +kernel
theorem dL_law_101 : decode cL_law 101 = .ok (.invokestatic 100, 3) := by decide +kernel
theorem dL_law_104 : decode cL_law 104 = .ok (.iload 7, 2) := by decide +kernel
theorem dL_law_106 : decode cL_law 106 = .ok (.ifCond .eq 7, 3) := by decide +kernel
theorem dL_law_109 : decode cL_law 109 = .ok (.iconst 2, 1) := by decide +kernel
theorem dL_law_110 : decode cL_law 110 = .ok (.goto 4, 3) := by decide +kernel
theorem dL_law_113 : decode cL_law 113 = .ok (.iconst 1, 1) := by decide +kernel
theorem dL_law_114 : decode cL_law 114 = .ok (.invokestatic 132, 3) := by decide +kernel
theorem dL_law_117 : decode cL_law 117 = .ok (.iconst 2, 1) := by decide +kernel
theorem dL_law_118 : decode cL_law 118 = .ok (.if_icmp .ne 15, 3) := by decide +kernel
theorem dL_law_121 : decode cL_law 121 = .ok (.aload_n 1, 1) := by decide +kernel
theorem dL_law_122 : decode cL_law 122 = .ok (.invokevirtual 135, 3) := by decide +kernel
theorem dL_law_125 : decode cL_law 125 = .ok (.iconst 3, 1) := by decide +kernel
theorem dL_law_126 : decode cL_law 126 = .ok (.if_icmp .ne 7, 3) := by decide +kernel
theorem dL_law_129 : decode cL_law 129 = .ok (.iconst 1, 1) := by decide +kernel
theorem dL_law_130 : decode cL_law 130 = .ok (.goto 4, 3) := by decide +kernel
theorem dL_law_133 : decode cL_law 133 = .ok (.iconst 0, 1) := by decide +kernel
theorem dL_law_134 : decode cL_law 134 = .ok (.istore 8, 2) := by decide +kernel
theorem dL_law_136 : decode cL_law 136 = .ok (.bipush 8, 2) := by decide +kernel
theorem dL_law_138 : decode cL_law 138 = .ok (.aload_n 0, 1) := by decide +kernel
theorem dL_law_139 : decode cL_law 139 = .ok (.iconst 0, 1) := by decide +kernel
theorem dL_law_140 : decode cL_law 140 = .ok (.invokestatic 128, 3) := by decide +kernel
theorem dL_law_143 : decode cL_law 143 = .ok (.iconst 3, 1) := by decide +kernel
theorem dL_law_144 : decode cL_law 144 = .ok (.ishr, 1) := by decide +kernel
theorem dL_law_145 : decode cL_law 145 = .ok (.bipush 60, 2) := by decide +kernel
theorem dL_law_147 : decode cL_law 147 = .ok (.invokestatic 100, 3) := by decide +kernel
theorem dL_law_150 : decode cL_law 150 = .ok (.iadd, 1) := by decide +kernel
theorem dL_law_151 : decode cL_law 151 = .ok (.istore 9, 2) := by decide +kernel
theorem dL_law_153 : decode cL_law 153 = .ok (.iconst 0, 1) := by decide +kernel
theorem dL_law_154 : decode cL_law 154 = .ok (.istore 10, 2) := by decide +kernel
theorem dL_law_156 : decode cL_law 156 = .ok (.iload 10, 2) := by decide +kernel
theorem dL_law_158 : decode cL_law 158 = .ok (.iload 9, 2) := by decide +kernel
theorem dL_law_160 : decode cL_law 160 = .ok (.if_icmp .ge 108, 3) := by decide +kernel
theorem dL_law_163 : decode cL_law 163 = .ok (.iload 8, 2) := by decide +kernel
theorem dL_law_165 : decode cL_law 165 = .ok (.ifCond .eq 103, 3) := by decide +kernel
theorem dL_law_168 : decode cL_law 168 = .ok (.aload_n 0, 1) := by decide +kernel
theorem dL_law_169 : decode cL_law 169 = .ok (.iconst 1, 1) := by decide +kernel
theorem dL_law_170 : decode cL_law 170 = .ok (.iload 10, 2) := by decide +kernel
theorem dL_law_172 : decode cL_law 172 = .ok (.iadd, 1) := by decide +kernel
theorem dL_law_173 : decode cL_law 173 = .ok (.invokestatic 128, 3) := by decide +kernel
theorem dL_law_176 : decode cL_law 176 = .ok (.sipush 7919, 3) := by decide +kernel
theorem dL_law_179 : decode cL_law 179 = .ok (.iload 10, 2) := by decide +kernel
theorem dL_law_181 : decode cL_law 181 = .ok (.imul, 1) := by decide +kernel
theorem dL_law_182 : decode cL_law 182 = .ok (.ixor, 1) := by decide +kernel
theorem dL_law_183 : decode cL_law 183 = .ok (.istore 11, 2) := by decide +kernel
theorem dL_law_185 : decode cL_law 185 = .ok (.iload 11, 2) := by decide +kernel
theorem dL_law_187 : decode cL_law 187 = .ok (.bipush 20, 2) := by decide +kernel
theorem dL_law_189 : decode cL_law 189 = .ok (.ishr, 1) := by decide +kernel
theorem dL_law_190 : decode cL_law 190 = .ok (.iconst 3, 1) := by decide +kernel
theorem dL_law_191 : decode cL_law 191 = .ok (.invokestatic 100, 3) := by decide +kernel
theorem dL_law_194 : decode cL_law 194 = .ok (.istore 12, 2) := by decide +kernel
theorem dL_law_196 : decode cL_law 196 = .ok (.iload 12, 2) := by decide +kernel
theorem dL_law_198 : decode cL_law 198 = .ok (.ifCond .ne 7, 3) := by decide +kernel
theorem dL_law_201 : decode cL_law 201 = .ok (.aload_n 2, 1) := by decide +kernel
theorem dL_law_202 : decode cL_law 202 = .ok (.goto 15, 3) := by decide +kernel
theorem dL_law_205 : decode cL_law 205 = .ok (.iload 12, 2) := by decide +kernel
theorem dL_law_207 : decode cL_law 207 = .ok (.iconst 1, 1) := by decide +kernel
theorem dL_law_208 : decode cL_law 208 = .ok (.if_icmp .ne 7, 3) := by decide +kernel
theorem dL_law_211 : decode cL_law 211 = .ok (.aload_n 3, 1) := by decide +kernel
theorem dL_law_212 : decode cL_law 212 = .ok (.goto 5, 3) := by decide +kernel
theorem dL_law_215 : decode cL_law 215 = .ok (.aload 4, 2) := by decide +kernel
theorem dL_law_217 : decode cL_law 217 = .ok (.astore 13, 2) := by decide +kernel
theorem dL_law_219 : decode cL_law 219 = .ok (.aload_n 1, 1) := by decide +kernel
theorem dL_law_220 : decode cL_law 220 = .ok (.aload 13, 2) := by decide +kernel
theorem dL_law_222 : decode cL_law 222 = .ok (.aload 5, 2) := by decide +kernel
theorem dL_law_224 : decode cL_law 224 = .ok (.aload 6, 2) := by decide +kernel
theorem dL_law_226 : decode cL_law 226 = .ok (.iload 12, 2) := by decide +kernel
theorem dL_law_228 : decode cL_law 228 = .ok (.iload 11, 2) := by decide +kernel
theorem dL_law_230 : decode cL_law 230 = .ok (.invokestatic 139, 3) := by decide +kernel
theorem dL_law_233 : decode cL_law 233 = .ok (.ifCond .eq 26, 3) := by decide +kernel
theorem dL_law_236 : decode cL_law 236 = .ok (.aload_n 1, 1) := by decide +kernel
theorem dL_law_237 : decode cL_law 237 = .ok (.aload 13, 2) := by decide +kernel
theorem dL_law_239 : decode cL_law 239 = .ok (.aload 5, 2) := by decide +kernel
theorem dL_law_241 : decode cL_law 241 = .ok (.aload 6, 2) := by decide +kernel
theorem dL_law_243 : decode cL_law 243 = .ok (.iload 12, 2) := by decide +kernel
theorem dL_law_245 : decode cL_law 245 = .ok (.iload 11, 2) := by decide +kernel
theorem dL_law_247 : decode cL_law 247 = .ok (.iconst 4, 1) := by decide +kernel
theorem dL_law_248 : decode cL_law 248 = .ok (.ishr, 1) := by decide +kernel
theorem dL_law_249 : decode cL_law 249 = .ok (.invokestatic 143, 3) := by decide +kernel
theorem dL_law_252 : decode cL_law 252 = .ok (.ifCond .eq 7, 3) := by decide +kernel
theorem dL_law_255 : decode cL_law 255 = .ok (.iconst 1, 1) := by decide +kernel
theorem dL_law_256 : decode cL_law 256 = .ok (.goto 4, 3) := by decide +kernel
theorem dL_law_259 : decode cL_law 259 = .ok (.iconst 0, 1) := by decide +kernel
theorem dL_law_260 : decode cL_law 260 = .ok (.istore 8, 2) := by decide +kernel
theorem dL_law_262 : decode cL_law 262 = .ok (.iinc 10 1, 3) := by decide +kernel
theorem dL_law_265 : decode cL_law 265 = .ok (.goto (-109), 3) := by decide +kernel
theorem dL_law_268 : decode cL_law 268 = .ok (.iload 8, 2) := by decide +kernel
theorem dL_law_270 : decode cL_law 270 = .ok (.ifCond .eq 55, 3) := by decide +kernel
theorem dL_law_273 : decode cL_law 273 = .ok (.aload_n 1, 1) := by decide +kernel
theorem dL_law_274 : decode cL_law 274 = .ok (.aload_n 2, 1) := by decide +kernel
theorem dL_law_275 : decode cL_law 275 = .ok (.aload 5, 2) := by decide +kernel
theorem dL_law_277 : decode cL_law 277 = .ok (.aload 6, 2) := by decide +kernel
theorem dL_law_279 : decode cL_law 279 = .ok (.iconst 0, 1) := by decide +kernel
theorem dL_law_280 : decode cL_law 280 = .ok (.bipush 77, 2) := by decide +kernel
theorem dL_law_282 : decode cL_law 282 = .ok (.invokestatic 143, 3) := by decide +kernel
theorem dL_law_285 : decode cL_law 285 = .ok (.ifCond .eq 40, 3) := by decide +kernel
theorem dL_law_288 : decode cL_law 288 = .ok (.aload_n 1, 1) := by decide +kernel
theorem dL_law_289 : decode cL_law 289 = .ok (.aload_n 3, 1) := by decide +kernel
theorem dL_law_290 : decode cL_law 290 = .ok (.aload 5, 2) := by decide +kernel
theorem dL_law_292 : decode cL_law 292 = .ok (.aload 6, 2) := by decide +kernel
theorem dL_law_294 : decode cL_law 294 = .ok (.iconst 1, 1) := by decide +kernel
theorem dL_law_295 : decode cL_law 295 = .ok (.sipush 5000, 3) := by decide +kernel
theorem dL_law_298 : decode cL_law 298 = .ok (.invokestatic 143, 3) := by decide +kernel
theorem dL_law_301 : decode cL_law 301 = .ok (.ifCond .eq 24, 3) := by decide +kernel
theorem dL_law_304 : decode cL_law 304 = .ok (.aload_n 1, 1) := by decide +kernel
theorem dL_law_305 : decode cL_law 305 = .ok (.aload 4, 2) := by decide +kernel
theorem dL_law_307 : decode cL_law 307 = .ok (.aload 5, 2) := by decide +kernel
theorem dL_law_309 : decode cL_law 309 = .ok (.aload 6, 2) := by decide +kernel
theorem dL_law_311 : decode cL_law 311 = .ok (.iconst 2, 1) := by decide +kernel
theorem dL_law_312 : decode cL_law 312 = .ok (.sipush 9999, 3) := by decide +kernel
theorem dL_law_315 : decode cL_law 315 = .ok (.invokestatic 143, 3) := by decide +kernel
theorem dL_law_318 : decode cL_law 318 = .ok (.ifCond .eq 7, 3) := by decide +kernel
theorem dL_law_321 : decode cL_law 321 = .ok (.iconst 1, 1) := by decide +kernel
theorem dL_law_322 : decode cL_law 322 = .ok (.goto 4, 3) := by decide +kernel
theorem dL_law_325 : decode cL_law 325 = .ok (.iconst 0, 1) := by decide +kernel
theorem dL_law_326 : decode cL_law 326 = .ok (.ireturn, 1) := by decide +kernel
