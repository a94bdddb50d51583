theorem dX3_store_32 : decode cX3_store 32 = .ok (.getfield 7, 3) := by decide +kernel
theorem dX3_store_35 : decode cX3_store 35 = .ok (.iload_n 3, 1) := by decide +kernel
theorem dX3_store_36 : decode cX3_store 36 = .ok (.iload_n 2, 1) := by decide +kernel
theorem dX3_store_37 : decode cX3_store 37 = .ok (.invokestatic 104, 3) := by decide +kernel
theorem dX3_store_40 : decode cX3_store 40 = .ok (.iload 4, 2) := by decide +kernel
theorem dX3_store_42 : decode cX3_store 42 = .ok (.iastore, 1) := by decide +kernel
theorem dX3_store_43 : decode cX3_store 43 = .ok (.return_, 1) := by decide +kernel
theorem dX3_fetch_0 : decode cX3_fetch 0 = .ok (.aload_n 0, 1) := by decide +kernel
theorem dX3_fetch_1 : decode cX3_fetch 1 = .ok (.iload_n 1, 1) := by decide +kernel
theorem dX3_fetch_2 : decode cX3_fetch 2 = .ok (.invokevirtual 87, 3) := by decide +kernel
theorem dX3_fetch_5 : decode cX3_fetch 5 = .ok (.istore_n 2, 1) := by decide +kernel
theorem dX3_fetch_6 : decode cX3_fetch 6 = .ok (.aload_n 0, 1) := by decide +kernel
theorem dX3_fetch_7 : decode cX3_fetch 7 = .ok (.iload_n 1, 1) := by decide +kernel
theorem dX3_fetch_8 : decode cX3_fetch 8 = .ok (.invokevirtual 87, 3) := by decide +kernel
theorem dX3_fetch_11 : decode cX3_fetch 11 = .ok (.istore_n 3, 1) := by decide +kernel
theorem dX3_fetch_12 : decode cX3_fetch 12 = .ok (.aload_n 0, 1) := by decide +kernel
theorem dX3_fetch_13 : decode cX3_fetch 13 = .ok (.iload_n 1, 1) := by decide +kernel
theorem dX3_fetch_14 : decode cX3_fetch 14 = .ok (.aload_n 0, 1) := by decide +kernel
theorem dX3_fetch_15 : decode cX3_fetch 15 = .ok (.getfield 7, 3) := by decide +kernel
theorem dX3_fetch_18 : decode cX3_fetch 18 = .ok (.iload_n 3, 1) := by decide +kernel
theorem dX3_fetch_19 : decode cX3_fetch 19 = .ok (.iload_n 2, 1) := by decide +kernel
theorem dX3_fetch_20 : decode cX3_fetch 20 = .ok (.invokestatic 104, 3) := by decide +kernel
theorem dX3_fetch_23 : decode cX3_fetch 23 = .ok (.iaload, 1) := by decide +kernel
theorem dX3_fetch_24 : decode cX3_fetch 24 = .ok (.invokevirtual 97, 3) := by decide +kernel
theorem dX3_fetch_27 : decode cX3_fetch 27 = .ok (.return_, 1) := by decide +kernel
theorem dX3_execute_0 : decode cX3_execute 0 = .ok (.iload_n 2, 1) := by decide +kernel
theorem dX3_execute_1 : decode cX3_execute 1 = .ok (.bipush 48, 2) := by decide +kernel
theorem dX3_execute_3 : decode cX3_execute 3 = .ok (.bipush 57, 2) := by decide +kernel
theorem dX3_execute_5 : decode cX3_execute 5 = .ok (.invokestatic 44, 3) := by decide +kernel
theorem dX3_execute_8 : decode cX3_execute 8 = .ok (.ifCond .eq 13, 3) := by decide +kernel
theorem dX3_execute_11 : decode cX3_execute 11 = .ok (.aload_n 0, 1) := by decide +kernel
theorem dX3_execute_12 : decode cX3_execute 12 = .ok (.iload_n 1, 1) := by decide +kernel
theorem dX3_execute_13 : decode cX3_execute 13 = .ok (.iload_n 2, 1) := by decide +kernel
theorem dX3_execute_14 : decode cX3_execute 14 = .ok (.bipush 48, 2) := by decide +kernel
theorem dX3_execute_16 : decode cX3_execute 16 = .ok (.isub, 1) := by decide +kernel
theorem dX3_execute_17 : decode cX3_execute 17 = .ok (.invokevirtual 97, 3) := by decide +kernel
theorem dX3_execute_20 : decode cX3_execute 20 = .ok (.return_, 1) := by decide +kernel
theorem dX3_execute_21 : decode cX3_execute 21 = .ok (.iload_n 2, 1) := by decide +kernel
theorem dX3_execute_22 : decode cX3_execute 22 = .ok (.tableswitch 672 33 126 #[418, 672, 575, 455, 390, 672, 672, 672, 672, 390, 390, 672, 390, 599, 390, 672, 672, 672, 672, 672, 672, 672, 672, 672, 672, 439, 672, 484, 672, 464, 672, 662, 672, 672, 672, 672, 672, 672, 672, 672, 672, 672, 672, 672, 672, 672, 672, 672, 672, 672, 672, 672, 672, 672, 672, 672, 672, 672, 548, 447, 557, 494, 504, 390, 672, 672, 672, 672, 672, 672, 583, 672, 672, 672, 672, 672, 672, 672, 672, 591, 672, 566, 672, 638, 672, 474, 619, 672, 672, 672, 646, 526, 654, 611], 390) := by decide +kernel
theorem dX3_execute_412 : decode cX3_execute 412 = .ok (.aload_n 0, 1) := by decide +kernel
theorem dX3_execute_413 : decode cX3_execute 413 = .ok (.iload_n 1, 1) := by decide +kernel
theorem dX3_execute_414 : decode cX3_execute 414 = .ok (.invokevirtual 87, 3) := by decide +kernel
theorem dX3_execute_417 : decode cX3_execute 417 = .ok (.istore_n 3, 1) := by decide +kernel
theorem dX3_execute_418 : decode cX3_execute 418 = .ok (.aload_n 0, 1) := by decide +kernel
theorem dX3_execute_419 : decode cX3_execute 419 = .ok (.iload_n 1, 1) := by decide +kernel
theorem dX3_execute_420 : decode cX3_execute 420 = .ok (.invokevirtual 87, 3) := by decide +kernel
theorem dX3_execute_423 : decode cX3_execute 423 = .ok (.istore 4, 2) := by decide +kernel
theorem dX3_execute_425 : decode cX3_execute 425 = .ok (.aload_n 0, 1) := by decide +kernel
theorem dX3_execute_426 : decode cX3_execute 426 = .ok (.iload_n 1, 1) := by decide +kernel
theorem dX3_execute_427 : decode cX3_execute 427 = .ok (.iload_n 2, 1) := by decide +kernel
theorem dX3_execute_428 : decode cX3_execute 428 = .ok (.iload 4, 2) := by decide +kernel
theorem dX3_execute_430 : decode cX3_execute 430 = .ok (.iload_n 3, 1) := by decide +kernel
theorem dX3_execute_431 : decode cX3_execute 431 = .ok (.invokestatic 107, 3) := by decide +kernel
theorem dX3_execute_434 : decode cX3_execute 434 = .ok (.invokevirtual 97, 3) := by decide +kernel
theorem dX3_execute_437 : decode cX3_execute 437 = .ok (.goto 257, 3) := by decide +kernel
theorem dX3_execute_440 : decode cX3_execute 440 = .ok (.aload_n 0, 1) := by decide +kernel
theorem dX3_execute_441 : decode cX3_execute 441 = .ok (.iload_n 1, 1) := by decide +kernel
theorem dX3_execute_442 : decode cX3_execute 442 = .ok (.aload_n 0, 1) := by decide +kernel
theorem dX3_execute_443 : decode cX3_execute 443 = .ok (.iload_n 1, 1) := by decide +kernel
theorem dX3_execute_444 : decode cX3_execute 444 = .ok (.invokevirtual 87, 3) := by decide +kernel
theorem dX3_execute_447 : decode cX3_execute 447 = .ok (.ifCond .ne 7, 3) := by decide +kernel
theorem dX3_execute_450 : decode cX3_execute 450 = .ok (.iconst 1, 1) := by decide +kernel
theorem dX3_execute_451 : decode cX3_execute 451 = .ok (.goto 4, 3) := by decide +kernel
theorem dX3_execute_454 : decode cX3_execute 454 = .ok (.iconst 0, 1) := by decide +kernel
theorem dX3_execute_455 : decode cX3_execute 455 = .ok (.invokevirtual 97, 3) := by decide +kernel
theorem dX3_execute_458 : decode cX3_execute 458 = .ok (.goto 236, 3) := by decide +kernel
theorem dX3_execute_461 : decode cX3_execute 461 = .ok (.aload_n 0, 1) := by decide +kernel
theorem dX3_execute_462 : decode cX3_execute 462 = .ok (.iload_n 1, 1) := by decide +kernel
theorem dX3_execute_463 : decode cX3_execute 463 = .ok (.invokevirtual 111, 3) := by decide +kernel
theorem dX3_execute_466 : decode cX3_execute 466 = .ok (.goto 228, 3) := by decide +kernel
theorem dX3_execute_469 : decode cX3_execute 469 = .ok (.aload_n 0, 1) := by decide +kernel
theorem dX3_execute_470 : decode cX3_execute 470 = .ok (.iload_n 1, 1) := by decide +kernel
theorem dX3_execute_471 : decode cX3_execute 471 = .ok (.invokevirtual 114, 3) := by decide +kernel
theorem dX3_execute_474 : decode cX3_execute 474 = .ok (.goto 220, 3) := by decide +kernel
theorem dX3_execute_477 : decode cX3_execute 477 = .ok (.aload_n 0, 1) := by decide +kernel
theorem dX3_execute_478 : decode cX3_execute 478 = .ok (.iload_n 1, 1) := by decide +kernel
theorem dX3_execute_479 : decode cX3_execute 479 = .ok (.invokevirtual 87, 3) := by decide +kernel
theorem dX3_execute_482 : decode cX3_execute 482 = .ok (.pop, 1) := by decide +kernel
theorem dX3_execute_483 : decode cX3_execute 483 = .ok (.goto 211, 3) := by decide +kernel
theorem dX3_execute_486 : decode cX3_execute 486 = .ok (.aload_n 0, 1) := by decide +kernel
theorem dX3_execute_487 : decode cX3_execute 487 = .ok (.iload_n 1, 1) := by decide +kernel
theorem dX3_execute_488 : decode cX3_execute 488 = .ok (.iconst 2, 1) := by decide +kernel
theorem dX3_execute_489 : decode cX3_execute 489 = .ok (.iconst 0, 1) := by decide +kernel
theorem dX3_execute_490 : decode cX3_execute 490 = .ok (.invokevirtual 80, 3) := by decide +kernel
theorem dX3_execute_493 : decode cX3_execute 493 = .ok (.goto 201, 3) := by decide +kernel
theorem dX3_execute_496 : decode cX3_execute 496 = .ok (.aload_n 0, 1) := by decide +kernel
theorem dX3_execute_497 : decode cX3_execute 497 = .ok (.iload_n 1, 1) := by decide +kernel
theorem dX3_execute_498 : decode cX3_execute 498 = .ok (.iconst 2, 1) := by decide +kernel
theorem dX3_execute_499 : decode cX3_execute 499 = .ok (.iconst 1, 1) := by decide +kernel
theorem dX3_execute_500 : decode cX3_execute 500 = .ok (.invokevirtual 80, 3) := by decide +kernel
theorem dX3_execute_503 : decode cX3_execute 503 = .ok (.goto 191, 3) := by decide +kernel
theorem dX3_execute_506 : decode cX3_execute 506 = .ok (.aload_n 0, 1) := by decide +kernel
theorem dX3_execute_507 : decode cX3_execute 507 = .ok (.iload_n 1, 1) := by decide +kernel
theorem dX3_execute_508 : decode cX3_execute 508 = .ok (.iconst 2, 1) := by decide +kernel
theorem dX3_execute_509 : decode cX3_execute 509 = .ok (.iconst 2, 1) := by decide +kernel
theorem dX3_execute_510 : decode cX3_execute 510 = .ok (.invokevirtual 80, 3) := by decide +kernel
theorem dX3_execute_513 : decode cX3_execute 513 = .ok (.goto 181, 3) := by decide +kernel
theorem dX3_execute_516 : decode cX3_execute 516 = .ok (.aload_n 0, 1) := by decide +kernel
theorem dX3_execute_517 : decode cX3_execute 517 = .ok (.iload_n 1, 1) := by decide +kernel
theorem dX3_execute_518 : decode cX3_execute 518 = .ok (.iconst 2, 1) := by decide +kernel
theorem dX3_execute_519 : decode cX3_execute 519 = .ok (.iconst 3, 1) := by decide +kernel
theorem dX3_execute_520 : decode cX3_execute 520 = .ok (.invokevirtual 80, 3) := by decide +kernel
theorem dX3_execute_523 : decode cX3_execute 523 = .ok (.goto 171, 3) := by decide +kernel
theorem dX3_execute_526 : decode cX3_execute 526 = .ok (.aload_n 0, 1) := by decide +kernel
theorem dX3_execute_527 : decode cX3_execute 527 = .ok (.iload_n 1, 1) := by decide +kernel
theorem dX3_execute_528 : decode cX3_execute 528 = .ok (.iconst 2, 1) := by decide +kernel
theorem dX3_execute_529 : decode cX3_execute 529 = .ok (.aload_n 0, 1) := by decide +kernel
theorem dX3_execute_530 : decode cX3_execute 530 = .ok (.iload_n 1, 1) := by decide +kernel
theorem dX3_execute_531 : decode cX3_execute 531 = .ok (.invokevirtual 87, 3) := by decide +kernel
theorem dX3_execute_534 : decode cX3_execute 534 = .ok (.ifCond .ne 7, 3) := by decide +kernel
theorem dX3_execute_537 : decode cX3_execute 537 = .ok (.iconst 0, 1) := by decide +kernel
theorem dX3_execute_538 : decode cX3_execute 538 = .ok (.goto 4, 3) := by decide +kernel
theorem dX3_execute_541 : decode cX3_execute 541 = .ok (.iconst 2, 1) := by decide +kernel
theorem dX3_execute_542 : decode cX3_execute 542 = .ok (.invokevirtual 80, 3) := by decide +kernel
theorem dX3_execute_545 : decode cX3_execute 545 = .ok (.goto 149, 3) := by decide +kernel
theorem dX3_execute_548 : decode cX3_execute 548 = .ok (.aload_n 0, 1) := by decide +kernel
theorem dX3_execute_549 : decode cX3_execute 549 = .ok (.iload_n 1, 1) := by decide +kernel
theorem dX3_execute_550 : decode cX3_execute 550 = .ok (.iconst 2, 1) := by decide +kernel
theorem dX3_execute_551 : decode cX3_execute 551 = .ok (.aload_n 0, 1) := by decide +kernel
theorem dX3_execute_552 : decode cX3_execute 552 = .ok (.iload_n 1, 1) := by decide +kernel
theorem dX3_execute_553 : decode cX3_execute 553 = .ok (.invokevirtual 87, 3) := by decide +kernel
theorem dX3_execute_556 : decode cX3_execute 556 = .ok (.ifCond .ne 7, 3) := by decide +kernel
theorem dX3_execute_559 : decode cX3_execute 559 = .ok (.iconst 1, 1) := by decide +kernel
theorem dX3_execute_560 : decode cX3_execute 560 = .ok (.goto 4, 3) := by decide +kernel
theorem dX3_execute_563 : decode cX3_execute 563 = .ok (.iconst 3, 1) := by decide +kernel
theorem dX3_execute_564 : decode cX3_execute 564 = .ok (.invokevirtual 80, 3) := by decide +kernel
theorem dX3_execute_567 : decode cX3_execute 567 = .ok (.goto 127, 3) := by decide +kernel
theorem dX3_execute_570 : decode cX3_execute 570 = .ok (.aload_n 0, 1) := by decide +kernel
theorem dX3_execute_571 : decode cX3_execute 571 = .ok (.iload_n 1, 1) := by decide +kernel
theorem dX3_execute_572 : decode cX3_execute 572 = .ok (.iconst 3, 1) := by decide +kernel
theorem dX3_execute_573 : decode cX3_execute 573 = .ok (.invokevirtual 93, 3) := by decide +kernel
theorem dX3_execute_576 : decode cX3_execute 576 = .ok (.goto 118, 3) := by decide +kernel
theorem dX3_execute_579 : decode cX3_execute 579 = .ok (.aload_n 0, 1) := by decide +kernel
theorem dX3_execute_580 : decode cX3_execute 580 = .ok (.iload_n 1, 1) := by decide +kernel
theorem dX3_execute_581 : decode cX3_execute 581 = .ok (.iconst 1, 1) := by decide +kernel
theorem dX3_execute_582 : decode cX3_execute 582 = .ok (.invokevirtual 93, 3) := by decide +kernel
theorem dX3_execute_585 : decode cX3_execute 585 = .ok (.goto 109, 3) := by decide +kernel
theorem dX3_execute_588 : decode cX3_execute 588 = .ok (.aload_n 0, 1) := by decide +kernel
theorem dX3_execute_589 : decode cX3_execute 589 = .ok (.iload_n 1, 1) := by decide +kernel
theorem dX3_execute_590 : decode cX3_execute 590 = .ok (.iconst 2, 1) := by decide +kernel
theorem dX3_execute_591 : decode cX3_execute 591 = .ok (.invokevirtual 93, 3) := by decide +kernel
theorem dX3_execute_594 : decode cX3_execute 594 = .ok (.goto 100, 3) := by decide +kernel
theorem dX3_execute_597 : decode cX3_execute 597 = .ok (.aload_n 0, 1) := by decide +kernel
theorem dX3_execute_598 : decode cX3_execute 598 = .ok (.iload_n 1, 1) := by decide +kernel
theorem dX3_execute_599 : decode cX3_execute 599 = .ok (.invokevirtual 100, 3) := by decide +kernel
theorem dX3_execute_602 : decode cX3_execute 602 = .ok (.goto 92, 3) := by decide +kernel
theorem dX3_execute_605 : decode cX3_execute 605 = .ok (.aload_n 0, 1) := by decide +kernel
theorem dX3_execute_606 : decode cX3_execute 606 = .ok (.iload_n 1, 1) := by decide +kernel
theorem dX3_execute_607 : decode cX3_execute 607 = .ok (.invokevirtual 117, 3) := by decide +kernel
theorem dX3_execute_610 : decode cX3_execute 610 = .ok (.goto 84, 3) := by decide +kernel
theorem dX3_execute_613 : decode cX3_execute 613 = .ok (.aload_n 0, 1) := by decide +kernel
theorem dX3_execute_614 : decode cX3_execute 614 = .ok (.iload_n 1, 1) := by decide +kernel
theorem dX3_execute_615 : decode cX3_execute 615 = .ok (.invokevirtual 120, 3) := by decide +kernel
theorem dX3_execute_618 : decode cX3_execute 618 = .ok (.goto 76, 3) := by decide +kernel
theorem dX3_execute_621 : decode cX3_execute 621 = .ok (.aload_n 0, 1) := by decide +kernel
theorem dX3_execute_622 : decode cX3_execute 622 = .ok (.aload_n 0, 1) := by decide +kernel
theorem dX3_execute_623 : decode cX3_execute 623 = .ok (.iload_n 1, 1) := by decide +kernel
theorem dX3_execute_624 : decode cX3_execute 624 = .ok (.invokevirtual 87, 3) := by decide +kernel
theorem dX3_execute_627 : decode cX3_execute 627 = .ok (.invokevirtual 123, 3) := by decide +kernel
theorem dX3_execute_630 : decode cX3_execute 630 = .ok (.goto 64, 3) := by decide +kernel
theorem dX3_execute_633 : decode cX3_execute 633 = .ok (.aload_n 0, 1) := by decide +kernel
theorem dX3_execute_634 : decode cX3_execute 634 = .ok (.iload_n 1, 1) := by decide +kernel
theorem dX3_execute_635 : decode cX3_execute 635 = .ok (.invokevirtual 126, 3) := by decide +kernel
theorem dX3_execute_638 : decode cX3_execute 638 = .ok (.goto 56, 3) := by decide +kernel
theorem dX3_execute_641 : decode cX3_execute 641 = .ok (.aload_n 0, 1) := by decide +kernel
theorem dX3_execute_642 : decode cX3_execute 642 = .ok (.iload_n 1, 1) := by decide +kernel
theorem dX3_execute_643 : decode cX3_execute 643 = .ok (.iconst 4, 1) := by decide +kernel
theorem dX3_execute_644 : decode cX3_execute 644 = .ok (.aload_n 0, 1) := by decide +kernel
theorem dX3_execute_645 : decode cX3_execute 645 = .ok (.iload_n 1, 1) := by decide +kernel
theorem dX3_execute_646 : decode cX3_execute 646 = .ok (.invokevirtual 87, 3) := by decide +kernel
theorem dX3_execute_649 : decode cX3_execute 649 = .ok (.bipush 9, 2) := by decide +kernel
theorem dX3_execute_651 : decode cX3_execute 651 = .ok (.invokestatic 90, 3) := by decide +kernel
theorem dX3_execute_654 : decode cX3_execute 654 = .ok (.invokevirtual 80, 3) := by decide +kernel
theorem dX3_execute_657 : decode cX3_execute 657 = .ok (.goto 37, 3) := by decide +kernel
theorem dX3_execute_660 : decode cX3_execute 660 = .ok (.aload_n 0, 1) := by decide +kernel
theorem dX3_execute_661 : decode cX3_execute 661 = .ok (.iload_n 1, 1) := by decide +kernel
theorem dX3_execute_662 : decode cX3_execute 662 = .ok (.invokevirtual 129, 3) := by decide +kernel
theorem dX3_execute_665 : decode cX3_execute 665 = .ok (.goto 29, 3) := by decide +kernel
theorem dX3_execute_668 : decode cX3_execute 668 = .ok (.aload_n 0, 1) := by decide +kernel
theorem dX3_execute_669 : decode cX3_execute 669 = .ok (.iload_n 1, 1) := by decide +kernel
theorem dX3_execute_670 : decode cX3_execute 670 = .ok (.invokevirtual 132, 3) := by decide +kernel
theorem dX3_execute_673 : decode cX3_execute 673 = .ok (.goto 21, 3) := by decide +kernel
theorem dX3_execute_676 : decode cX3_execute 676 = .ok (.aload_n 0, 1) := by decide +kernel
theorem dX3_execute_677 : decode cX3_execute 677 = .ok (.iload_n 1, 1) := by decide +kernel
theorem dX3_execute_678 : decode cX3_execute 678 = .ok (.invokevirtual 135, 3) := by decide +kernel
theorem dX3_execute_681 : decode cX3_execute 681 = .ok (.goto 13, 3) := by decide +kernel
theorem dX3_execute_684 : decode cX3_execute 684 = .ok (.aload_n 0, 1) := by decide +kernel
theorem dX3_execute_685 : decode cX3_execute 685 = .ok (.iload_n 1, 1) := by decide +kernel
theorem dX3_execute_686 : decode cX3_execute 686 = .ok (.iconst 3, 1) := by decide +kernel
theorem dX3_execute_687 : decode cX3_execute 687 = .ok (.iconst 1, 1) := by decide +kernel
theorem dX3_execute_688 : decode cX3_execute 688 = .ok (.invokevirtual 80, 3) := by decide +kernel
theorem dX3_execute_691 : decode cX3_execute 691 = .ok (.goto 3, 3) := by decide +kernel
theorem dX3_execute_694 : decode cX3_execute 694 = .ok (.return_, 1) := by decide +kernel
theorem dX3_takeTurn_0 : decode cX3_takeTurn 0 = .ok (.aload_n 0, 1) := by decide +kernel
theorem dX3_takeTurn_1 : decode cX3_takeTurn 1 = .ok (.iload_n 1, 1) := by decide +kernel
theorem dX3_takeTurn_2 : decode cX3_takeTurn 2 = .ok (.iconst 3, 1) := by decide +kernel
theorem dX3_takeTurn_3 : decode cX3_takeTurn 3 = .ok (.invokevirtual 69, 3) := by decide +kernel
theorem dX3_takeTurn_6 : decode cX3_takeTurn 6 = .ok (.ifCond .eq 4, 3) := by decide +kernel
theorem dX3_takeTurn_9 : decode cX3_takeTurn 9 = .ok (.return_, 1) := by decide +kernel
theorem dX3_takeTurn_10 : decode cX3_takeTurn 10 = .ok (.aload_n 0, 1) := by decide +kernel
theorem dX3_takeTurn_11 : decode cX3_takeTurn 11 = .ok (.iload_n 1, 1) := by decide +kernel
theorem dX3_takeTurn_12 : decode cX3_takeTurn 12 = .ok (.iconst 4, 1) := by decide +kernel
theorem dX3_takeTurn_13 : decode cX3_takeTurn 13 = .ok (.invokevirtual 69, 3) := by decide +kernel
theorem dX3_takeTurn_16 : decode cX3_takeTurn 16 = .ok (.ifCond .le 18, 3) := by decide +kernel
theorem dX3_takeTurn_19 : decode cX3_takeTurn 19 = .ok (.aload_n 0, 1) := by decide +kernel
theorem dX3_takeTurn_20 : decode cX3_takeTurn 20 = .ok (.iload_n 1, 1) := by decide +kernel
theorem dX3_takeTurn_21 : decode cX3_takeTurn 21 = .ok (.iconst 4, 1) := by decide +kernel
theorem dX3_takeTurn_22 : decode cX3_takeTurn 22 = .ok (.aload_n 0, 1) := by decide +kernel
theorem dX3_takeTurn_23 : decode cX3_takeTurn 23 = .ok (.iload_n 1, 1) := by decide +kernel
theorem dX3_takeTurn_24 : decode cX3_takeTurn 24 = .ok (.iconst 4, 1) := by decide +kernel
theorem dX3_takeTurn_25 : decode cX3_takeTurn 25 = .ok (.invokevirtual 69, 3) := by decide +kernel
theorem dX3_takeTurn_28 : decode cX3_takeTurn 28 = .ok (.iconst 1, 1) := by decide +kernel
theorem dX3_takeTurn_29 : decode cX3_takeTurn 29 = .ok (.isub, 1) := by decide +kernel
theorem dX3_takeTurn_30 : decode cX3_takeTurn 30 = .ok (.invokevirtual 80, 3) := by decide +kernel
theorem dX3_takeTurn_33 : decode cX3_takeTurn 33 = .ok (.return_, 1) := by decide +kernel
theorem dX3_takeTurn_34 : decode cX3_takeTurn 34 = .ok (.aload_n 0, 1) := by decide +kernel
theorem dX3_takeTurn_35 : decode cX3_takeTurn 35 = .ok (.iload_n 1, 1) := by decide +kernel
theorem dX3_takeTurn_36 : decode cX3_takeTurn 36 = .ok (.aload_n 0, 1) := by decide +kernel
theorem dX3_takeTurn_37 : decode cX3_takeTurn 37 = .ok (.getfield 7, 3) := by decide +kernel
theorem dX3_takeTurn_40 : decode cX3_takeTurn 40 = .ok (.bipush 72, 2) := by decide +kernel
theorem dX3_takeTurn_42 : decode cX3_takeTurn 42 = .ok (.bipush 12, 2) := by decide +kernel
theorem dX3_takeTurn_44 : decode cX3_takeTurn 44 = .ok (.aload_n 0, 1) := by decide +kernel
theorem dX3_takeTurn_45 : decode cX3_takeTurn 45 = .ok (.iload_n 1, 1) := by decide +kernel
theorem dX3_takeTurn_46 : decode cX3_takeTurn 46 = .ok (.iconst 1, 1) := by decide +kernel
theorem dX3_takeTurn_47 : decode cX3_takeTurn 47 = .ok (.invokevirtual 69, 3) := by decide +kernel
theorem dX3_takeTurn_50 : decode cX3_takeTurn 50 = .ok (.imul, 1) := by decide +kernel
theorem dX3_takeTurn_51 : decode cX3_takeTurn 51 = .ok (.iadd, 1) := by decide +kernel
theorem dX3_takeTurn_52 : decode cX3_takeTurn 52 = .ok (.aload_n 0, 1) := by decide +kernel
theorem dX3_takeTurn_53 : decode cX3_takeTurn 53 = .ok (.iload_n 1, 1) := by decide +kernel
theorem dX3_takeTurn_54 : decode cX3_takeTurn 54 = .ok (.iconst 0, 1) := by decide +kernel
theorem dX3_takeTurn_55 : decode cX3_takeTurn 55 = .ok (.invokevirtual 69, 3) := by decide +kernel
theorem dX3_takeTurn_58 : decode cX3_takeTurn 58 = .ok (.iadd, 1) := by decide +kernel
theorem dX3_takeTurn_59 : decode cX3_takeTurn 59 = .ok (.iaload, 1) := by decide +kernel
theorem dX3_takeTurn_60 : decode cX3_takeTurn 60 = .ok (.invokevirtual 138, 3) := by decide +kernel
theorem dX3_takeTurn_63 : decode cX3_takeTurn 63 = .ok (.aload_n 0, 1) := by decide +kernel
theorem dX3_takeTurn_64 : decode cX3_takeTurn 64 = .ok (.iload_n 1, 1) := by decide +kernel
theorem dX3_takeTurn_65 : decode cX3_takeTurn 65 = .ok (.iconst 3, 1) := by decide +kernel
theorem dX3_takeTurn_66 : decode cX3_takeTurn 66 = .ok (.invokevirtual 69, 3) := by decide +kernel
theorem dX3_takeTurn_69 : decode cX3_takeTurn 69 = .ok (.ifCond .ne 8, 3) := by decide +kernel
theorem dX3_takeTurn_72 : decode cX3_takeTurn 72 = .ok (.aload_n 0, 1) := by decide +kernel
theorem dX3_takeTurn_73 : decode cX3_takeTurn 73 = .ok (.iload_n 1, 1) := by decide +kernel
theorem dX3_takeTurn_74 : decode cX3_takeTurn 74 = .ok (.invokevirtual 100, 3) := by decide +kernel
theorem dX3_takeTurn_77 : decode cX3_takeTurn 77 = .ok (.return_, 1) := by decide +kernel
theorem dX3_step_0 : decode cX3_step 0 = .ok (.aload_n 0, 1) := by decide +kernel
theorem dX3_step_1 : decode cX3_step 1 = .ok (.getfield 7, 3) := by decide +kernel
theorem dX3_step_4 : decode cX3_step 4 = .ok (.sipush 145, 3) := by decide +kernel
theorem dX3_step_7 : decode cX3_step 7 = .ok (.iaload, 1) := by decide +kernel
theorem dX3_step_8 : decode cX3_step 8 = .ok (.istore_n 1, 1) := by decide +kernel
theorem dX3_step_9 : decode cX3_step 9 = .ok (.iconst 0, 1) := by decide +kernel
theorem dX3_step_10 : decode cX3_step 10 = .ok (.istore_n 2, 1) := by decide +kernel
theorem dX3_step_11 : decode cX3_step 11 = .ok (.iload_n 2, 1) := by decide +kernel
theorem dX3_step_12 : decode cX3_step 12 = .ok (.iload_n 1, 1) := by decide +kernel
theorem dX3_step_13 : decode cX3_step 13 = .ok (.if_icmp .ge 25, 3) := by decide +kernel
theorem dX3_step_16 : decode cX3_step 16 = .ok (.aload_n 0, 1) := by decide +kernel
theorem dX3_step_17 : decode cX3_step 17 = .ok (.getfield 38, 3) := by decide +kernel
theorem dX3_step_20 : decode cX3_step 20 = .ok (.iload_n 2, 1) := by decide +kernel
theorem dX3_step_21 : decode cX3_step 21 = .ok (.aload_n 0, 1) := by decide +kernel
theorem dX3_step_22 : decode cX3_step 22 = .ok (.getfield 7, 3) := by decide +kernel
theorem dX3_step_25 : decode cX3_step 25 = .ok (.sipush 146, 3) := by decide +kernel
theorem dX3_step_28 : decode cX3_step 28 = .ok (.iload_n 2, 1) := by decide +kernel
theorem dX3_step_29 : decode cX3_step 29 = .ok (.iadd, 1) := by decide +kernel
theorem dX3_step_30 : decode cX3_step 30 = .ok (.iaload, 1) := by decide +kernel
theorem dX3_step_31 : decode cX3_step 31 = .ok (.iastore, 1) := by decide +kernel
theorem dX3_step_32 : decode cX3_step 32 = .ok (.iinc 2 1, 3) := by decide +kernel
theorem dX3_step_35 : decode cX3_step 35 = .ok (.goto (-24), 3) := by decide +kernel
theorem dX3_step_38 : decode cX3_step 38 = .ok (.iconst 0, 1) := by decide +kernel
theorem dX3_step_39 : decode cX3_step 39 = .ok (.istore_n 2, 1) := by decide +kernel
theorem dX3_step_40 : decode cX3_step 40 = .ok (.iload_n 2, 1) := by decide +kernel
theorem dX3_step_41 : decode cX3_step 41 = .ok (.iload_n 1, 1) := by decide +kernel
theorem dX3_step_42 : decode cX3_step 42 = .ok (.if_icmp .ge 19, 3) := by decide +kernel
theorem dX3_step_45 : decode cX3_step 45 = .ok (.aload_n 0, 1) := by decide +kernel
theorem dX3_step_46 : decode cX3_step 46 = .ok (.aload_n 0, 1) := by decide +kernel
theorem dX3_step_47 : decode cX3_step 47 = .ok (.getfield 38, 3) := by decide +kernel
theorem dX3_step_50 : decode cX3_step 50 = .ok (.iload_n 2, 1) := by decide +kernel
theorem dX3_step_51 : decode cX3_step 51 = .ok (.iaload, 1) := by decide +kernel
theorem dX3_step_52 : decode cX3_step 52 = .ok (.invokevirtual 141, 3) := by decide +kernel
theorem dX3_step_55 : decode cX3_step 55 = .ok (.iinc 2 1, 3) := by decide +kernel
theorem dX3_step_58 : decode cX3_step 58 = .ok (.goto (-18), 3) := by decide +kernel
theorem dX3_step_61 : decode cX3_step 61 = .ok (.aload_n 0, 1) := by decide +kernel
theorem dX3_step_62 : decode cX3_step 62 = .ok (.getfield 7, 3) := by decide +kernel
theorem dX3_step_65 : decode cX3_step 65 = .ok (.sipush 144, 3) := by decide +kernel
theorem dX3_step_68 : decode cX3_step 68 = .ok (.dup2, 1) := by decide +kernel
theorem dX3_step_69 : decode cX3_step 69 = .ok (.iaload, 1) := by decide +kernel
theorem dX3_step_70 : decode cX3_step 70 = .ok (.iconst 1, 1) := by decide +kernel
theorem dX3_step_71 : decode cX3_step 71 = .ok (.iadd, 1) := by decide +kernel
theorem dX3_step_72 : decode cX3_step 72 = .ok (.iastore, 1) := by decide +kernel
theorem dX3_step_73 : decode cX3_step 73 = .ok (.return_, 1) := by decide +kernel
theorem dX3_isHalted_0 : decode cX3_isHalted 0 = .ok (.iconst 1, 1) := by decide +kernel
theorem dX3_isHalted_1 : decode cX3_isHalted 1 = .ok (.istore_n 1, 1) := by decide +kernel
theorem dX3_isHalted_2 : decode cX3_isHalted 2 = .ok (.iconst 0, 1) := by decide +kernel
theorem dX3_isHalted_3 : decode cX3_isHalted 3 = .ok (.istore_n 2, 1) := by decide +kernel
theorem dX3_isHalted_4 : decode cX3_isHalted 4 = .ok (.iload_n 2, 1) := by decide +kernel
theorem dX3_isHalted_5 : decode cX3_isHalted 5 = .ok (.aload_n 0, 1) := by decide +kernel
theorem dX3_isHalted_6 : decode cX3_isHalted 6 = .ok (.getfield 7, 3) := by decide +kernel
theorem dX3_isHalted_9 : decode cX3_isHalted 9 = .ok (.sipush 145, 3) := by decide +kernel
theorem dX3_isHalted_12 : decode cX3_isHalted 12 = .ok (.iaload, 1) := by decide +kernel
theorem dX3_isHalted_13 : decode cX3_isHalted 13 = .ok (.if_icmp .ge 28, 3) := by decide +kernel
theorem dX3_isHalted_16 : decode cX3_isHalted 16 = .ok (.iload_n 1, 1) := by decide +kernel
theorem dX3_isHalted_17 : decode cX3_isHalted 17 = .ok (.ifCond .eq 16, 3) := by decide +kernel
theorem dX3_isHalted_20 : decode cX3_isHalted 20 = .ok (.aload_n 0, 1) := by decide +kernel
theorem dX3_isHalted_21 : decode cX3_isHalted 21 = .ok (.iload_n 2, 1) := by decide +kernel
theorem dX3_isHalted_22 : decode cX3_isHalted 22 = .ok (.iconst 3, 1) := by decide +kernel
theorem dX3_isHalted_23 : decode cX3_isHalted 23 = .ok (.invokevirtual 69, 3) := by decide +kernel
theorem dX3_isHalted_26 : decode cX3_isHalted 26 = .ok (.ifCond .eq 7, 3) := by decide +kernel
theorem dX3_isHalted_29 : decode cX3_isHalted 29 = .ok (.iconst 1, 1) := by decide +kernel
theorem dX3_isHalted_30 : decode cX3_isHalted 30 = .ok (.goto 4, 3) := by decide +kernel
theorem dX3_isHalted_33 : decode cX3_isHalted 33 = .ok (.iconst 0, 1) := by decide +kernel
theorem dX3_isHalted_34 : decode cX3_isHalted 34 = .ok (.istore_n 1, 1) := by decide +kernel
theorem dX3_isHalted_35 : decode cX3_isHalted 35 = .ok (.iinc 2 1, 3) := by decide +kernel
theorem dX3_isHalted_38 : decode cX3_isHalted 38 = .ok (.goto (-34), 3) := by decide +kernel
theorem dX3_isHalted_41 : decode cX3_isHalted 41 = .ok (.iload_n 1, 1) := by decide +kernel
theorem dX3_isHalted_42 : decode cX3_isHalted 42 = .ok (.ireturn, 1) := by decide +kernel
theorem dX3_isAtBreakpoint_0 : decode cX3_isAtBreakpoint 0 = .ok (.iconst 0, 1) := by decide +kernel
theorem dX3_isAtBreakpoint_1 : decode cX3_isAtBreakpoint 1 = .ok (.istore_n 1, 1) := by decide +kernel
theorem dX3_isAtBreakpoint_2 : decode cX3_isAtBreakpoint 2 = .ok (.iconst 0, 1) := by decide +kernel
theorem dX3_isAtBreakpoint_3 : decode cX3_isAtBreakpoint 3 = .ok (.istore_n 2, 1) := by decide +kernel
theorem dX3_isAtBreakpoint_4 : decode cX3_isAtBreakpoint 4 = .ok (.iload_n 2, 1) := by decide +kernel
theorem dX3_isAtBreakpoint_5 : decode cX3_isAtBreakpoint 5 = .ok (.aload_n 0, 1) := by decide +kernel
theorem dX3_isAtBreakpoint_6 : decode cX3_isAtBreakpoint 6 = .ok (.getfield 7, 3) := by decide +kernel
theorem dX3_isAtBreakpoint_9 : decode cX3_isAtBreakpoint 9 = .ok (.sipush 145, 3) := by decide +kernel
theorem dX3_isAtBreakpoint_12 : decode cX3_isAtBreakpoint 12 = .ok (.iaload, 1) := by decide +kernel
theorem dX3_isAtBreakpoint_13 : decode cX3_isAtBreakpoint 13 = .ok (.if_icmp .ge 61, 3) := by decide +kernel
theorem dX3_isAtBreakpoint_16 : decode cX3_isAtBreakpoint 16 = .ok (.iload_n 1, 1) := by decide +kernel
theorem dX3_isAtBreakpoint_17 : decode cX3_isAtBreakpoint 17 = .ok (.ifCond .ne 45, 3) := by decide +kernel
theorem dX3_isAtBreakpoint_20 : decode cX3_isAtBreakpoint 20 = .ok (.aload_n 0, 1) := by decide +kernel
theorem dX3_isAtBreakpoint_21 : decode cX3_isAtBreakpoint 21 = .ok (.iload_n 2, 1) := by decide +kernel
theorem dX3_isAtBreakpoint_22 : decode cX3_isAtBreakpoint 22 = .ok (.iconst 3, 1) := by decide +kernel
theorem dX3_isAtBreakpoint_23 : decode cX3_isAtBreakpoint 23 = .ok (.invokevirtual 69, 3) := by decide +kernel
theorem dX3_isAtBreakpoint_26 : decode cX3_isAtBreakpoint 26 = .ok (.ifCond .ne 40, 3) := by decide +kernel
theorem dX3_isAtBreakpoint_29 : decode cX3_isAtBreakpoint 29 = .ok (.aload_n 0, 1) := by decide +kernel
theorem dX3_isAtBreakpoint_30 : decode cX3_isAtBreakpoint 30 = .ok (.iload_n 2, 1) := by decide +kernel
theorem dX3_isAtBreakpoint_31 : decode cX3_isAtBreakpoint 31 = .ok (.iconst 4, 1) := by decide +kernel
theorem dX3_isAtBreakpoint_32 : decode cX3_isAtBreakpoint 32 = .ok (.invokevirtual 69, 3) := by decide +kernel
theorem dX3_isAtBreakpoint_35 : decode cX3_isAtBreakpoint 35 = .ok (.ifCond .ne 31, 3) := by decide +kernel
theorem dX3_isAtBreakpoint_38 : decode cX3_isAtBreakpoint 38 = .ok (.aload_n 0, 1) := by decide +kernel
theorem dX3_isAtBreakpoint_39 : decode cX3_isAtBreakpoint 39 = .ok (.getfield 32, 3) := by decide +kernel
theorem dX3_isAtBreakpoint_42 : decode cX3_isAtBreakpoint 42 = .ok (.bipush 12, 2) := by decide +kernel
theorem dX3_isAtBreakpoint_44 : decode cX3_isAtBreakpoint 44 = .ok (.aload_n 0, 1) := by decide +kernel
theorem dX3_isAtBreakpoint_45 : decode cX3_isAtBreakpoint 45 = .ok (.iload_n 2, 1) := by decide +kernel
theorem dX3_isAtBreakpoint_46 : decode cX3_isAtBreakpoint 46 = .ok (.iconst 1, 1) := by decide +kernel
theorem dX3_isAtBreakpoint_47 : decode cX3_isAtBreakpoint 47 = .ok (.invokevirtual 69, 3) := by decide +kernel
theorem dX3_isAtBreakpoint_50 : decode cX3_isAtBreakpoint 50 = .ok (.imul, 1) := by decide +kernel
theorem dX3_isAtBreakpoint_51 : decode cX3_isAtBreakpoint 51 = .ok (.aload_n 0, 1) := by decide +kernel
theorem dX3_isAtBreakpoint_52 : decode cX3_isAtBreakpoint 52 = .ok (.iload_n 2, 1) := by decide +kernel
theorem dX3_isAtBreakpoint_53 : decode cX3_isAtBreakpoint 53 = .ok (.iconst 0, 1) := by decide +kernel
theorem dX3_isAtBreakpoint_54 : decode cX3_isAtBreakpoint 54 = .ok (.invokevirtual 69, 3) := by decide +kernel
theorem dX3_isAtBreakpoint_57 : decode cX3_isAtBreakpoint 57 = .ok (.iadd, 1) := by decide +kernel
theorem dX3_isAtBreakpoint_58 : decode cX3_isAtBreakpoint 58 = .ok (.baload, 1) := by decide +kernel
theorem dX3_isAtBreakpoint_59 : decode cX3_isAtBreakpoint 59 = .ok (.ifCond .eq 7, 3) := by decide +kernel
theorem dX3_isAtBreakpoint_62 : decode cX3_isAtBreakpoint 62 = .ok (.iconst 1, 1) := by decide +kernel
theorem dX3_isAtBreakpoint_63 : decode cX3_isAtBreakpoint 63 = .ok (.goto 4, 3) := by decide +kernel
theorem dX3_isAtBreakpoint_66 : decode cX3_isAtBreakpoint 66 = .ok (.iconst 0, 1) := by decide +kernel
theorem dX3_isAtBreakpoint_67 : decode cX3_isAtBreakpoint 67 = .ok (.istore_n 1, 1) := by decide +kernel
theorem dX3_isAtBreakpoint_68 : decode cX3_isAtBreakpoint 68 = .ok (.iinc 2 1, 3) := by decide +kernel
theorem dX3_isAtBreakpoint_71 : decode cX3_isAtBreakpoint 71 = .ok (.goto (-67), 3) := by decide +kernel
theorem dX3_isAtBreakpoint_74 : decode cX3_isAtBreakpoint 74 = .ok (.iload_n 1, 1) := by decide +kernel
theorem dX3_isAtBreakpoint_75 : decode cX3_isAtBreakpoint 75 = .ok (.ireturn, 1) := by decide +kernel
theorem dX3_perform_0 : decode cX3_perform 0 = .ok (.iload_n 1, 1) := by decide +kernel
theorem dX3_perform_1 : decode cX3_perform 1 = .ok (.iconst 1, 1) := by decide +kernel
theorem dX3_perform_2 : decode cX3_perform 2 = .ok (.sipush 200, 3) := by decide +kernel
theorem dX3_perform_5 : decode cX3_perform 5 = .ok (.invokestatic 44, 3) := by decide +kernel
theorem dX3_perform_8 : decode cX3_perform 8 = .ok (.ifCond .ne 5, 3) := by decide +kernel
theorem dX3_perform_11 : decode cX3_perform 11 = .ok (.iconst (-1), 1) := by decide +kernel
theorem dX3_perform_12 : decode cX3_perform 12 = .ok (.ireturn, 1) := by decide +kernel
theorem dX3_perform_13 : decode cX3_perform 13 = .ok (.aload_n 0, 1) := by decide +kernel
theorem dX3_perform_14 : decode cX3_perform 14 = .ok (.invokevirtual 144, 3) := by decide +kernel
theorem dX3_perform_17 : decode cX3_perform 17 = .ok (.ifCond .eq 6, 3) := by decide +kernel
theorem dX3_perform_20 : decode cX3_perform 20 = .ok (.bipush (-2), 2) := by decide +kernel
theorem dX3_perform_22 : decode cX3_perform 22 = .ok (.ireturn, 1) := by decide +kernel
theorem dX3_perform_23 : decode cX3_perform 23 = .ok (.aload_n 0, 1) := by decide +kernel
theorem dX3_perform_24 : decode cX3_perform 24 = .ok (.invokevirtual 59, 3) := by decide +kernel
theorem dX3_perform_27 : decode cX3_perform 27 = .ok (.iconst 0, 1) := by decide +kernel
theorem dX3_perform_28 : decode cX3_perform 28 = .ok (.istore_n 3, 1) := by decide +kernel
theorem dX3_perform_29 : decode cX3_perform 29 = .ok (.iconst 1, 1) := by decide +kernel
theorem dX3_perform_30 : decode cX3_perform 30 = .ok (.istore 4, 2) := by decide +kernel
theorem dX3_perform_32 : decode cX3_perform 32 = .ok (.iload 4, 2) := by decide +kernel
theorem dX3_perform_34 : decode cX3_perform 34 = .ok (.ifCond .eq 43, 3) := by decide +kernel
theorem dX3_perform_37 : decode cX3_perform 37 = .ok (.aload_n 0, 1) := by decide +kernel
theorem dX3_perform_38 : decode cX3_perform 38 = .ok (.invokevirtual 148, 3) := by decide +kernel
theorem dX3_perform_41 : decode cX3_perform 41 = .ok (.iinc 3 1, 3) := by decide +kernel
theorem dX3_perform_44 : decode cX3_perform 44 = .ok (.iload_n 3, 1) := by decide +kernel
theorem dX3_perform_45 : decode cX3_perform 45 = .ok (.iload_n 1, 1) := by decide +kernel
theorem dX3_perform_46 : decode cX3_perform 46 = .ok (.if_icmp .ge 25, 3) := by decide +kernel
theorem dX3_perform_49 : decode cX3_perform 49 = .ok (.aload_n 0, 1) := by decide +kernel
theorem dX3_perform_50 : decode cX3_perform 50 = .ok (.invokevirtual 144, 3) := by decide +kernel
theorem dX3_perform_53 : decode cX3_perform 53 = .ok (.ifCond .ne 18, 3) := by decide +kernel
theorem dX3_perform_56 : decode cX3_perform 56 = .ok (.iload_n 2, 1) := by decide +kernel
theorem dX3_perform_57 : decode cX3_perform 57 = .ok (.ifCond .eq 10, 3) := by decide +kernel
theorem dX3_perform_60 : decode cX3_perform 60 = .ok (.aload_n 0, 1) := by decide +kernel
theorem dX3_perform_61 : decode cX3_perform 61 = .ok (.invokevirtual 151, 3) := by decide +kernel
theorem dX3_perform_64 : decode cX3_perform 64 = .ok (.ifCond .ne 7, 3) := by decide +kernel
theorem dX3_perform_67 : decode cX3_perform 67 = .ok (.iconst 1, 1) := by decide +kernel
theorem dX3_perform_68 : decode cX3_perform 68 = .ok (.goto 4, 3) := by decide +kernel
theorem dX3_perform_71 : decode cX3_perform 71 = .ok (.iconst 0, 1) := by decide +kernel
theorem dX3_perform_72 : decode cX3_perform 72 = .ok (.istore 4, 2) := by decide +kernel
theorem dX3_perform_74 : decode cX3_perform 74 = .ok (.goto (-42), 3) := by decide +kernel
theorem dX3_perform_77 : decode cX3_perform 77 = .ok (.aload_n 0, 1) := by decide +kernel
theorem dX3_perform_78 : decode cX3_perform 78 = .ok (.invokevirtual 62, 3) := by decide +kernel
theorem dX3_perform_81 : decode cX3_perform 81 = .ok (.iload_n 3, 1) := by decide +kernel
theorem dX3_perform_82 : decode cX3_perform 82 = .ok (.ireturn, 1) := by decide +kernel
theorem dX3_tick_0 : decode cX3_tick 0 = .ok (.aload_n 0, 1) := by decide +kernel
theorem dX3_tick_1 : decode cX3_tick 1 = .ok (.iload_n 1, 1) := by decide +kernel
theorem dX3_tick_2 : decode cX3_tick 2 = .ok (.iconst 0, 1) := by decide +kernel
theorem dX3_tick_3 : decode cX3_tick 3 = .ok (.invokevirtual 154, 3) := by decide +kernel
theorem dX3_tick_6 : decode cX3_tick 6 = .ok (.ireturn, 1) := by decide +kernel
theorem dX3_run_0 : decode cX3_run 0 = .ok (.aload_n 0, 1) := by decide +kernel
theorem dX3_run_1 : decode cX3_run 1 = .ok (.iload_n 1, 1) := by decide +kernel
theorem dX3_run_2 : decode cX3_run 2 = .ok (.iconst 1, 1) := by decide +kernel
theorem dX3_run_3 : decode cX3_run 3 = .ok (.invokevirtual 154, 3) := by decide +kernel
theorem dX3_run_6 : decode cX3_run 6 = .ok (.ireturn, 1) := by decide +kernel
theorem dX3_breakpoints_0 : decode cX3_breakpoints 0 = .ok (.iconst 0, 1) := by decide +kernel
theorem dX3_breakpoints_1 : decode cX3_breakpoints 1 = .ok (.istore_n 1, 1) := by decide +kernel
theorem dX3_breakpoints_2 : decode cX3_breakpoints 2 = .ok (.iconst 0, 1) := by decide +kernel
theorem dX3_breakpoints_3 : decode cX3_breakpoints 3 = .ok (.istore_n 2, 1) := by decide +kernel
theorem dX3_breakpoints_4 : decode cX3_breakpoints 4 = .ok (.iload_n 2, 1) := by decide +kernel
theorem dX3_breakpoints_5 : decode cX3_breakpoints 5 = .ok (.bipush 72, 2) := by decide +kernel
theorem dX3_breakpoints_7 : decode cX3_breakpoints 7 = .ok (.if_icmp .ge 26, 3) := by decide +kernel
theorem dX3_breakpoints_10 : decode cX3_breakpoints 10 = .ok (.iload_n 1, 1) := by decide +kernel
theorem dX3_breakpoints_11 : decode cX3_breakpoints 11 = .ok (.aload_n 0, 1) := by decide +kernel
theorem dX3_breakpoints_12 : decode cX3_breakpoints 12 = .ok (.getfield 32, 3) := by decide +kernel
theorem dX3_breakpoints_15 : decode cX3_breakpoints 15 = .ok (.iload_n 2, 1) := by decide +kernel
theorem dX3_breakpoints_16 : decode cX3_breakpoints 16 = .ok (.baload, 1) := by decide +kernel
theorem dX3_breakpoints_17 : decode cX3_breakpoints 17 = .ok (.ifCond .eq 7, 3) := by decide +kernel
theorem dX3_breakpoints_20 : decode cX3_breakpoints 20 = .ok (.iconst 1, 1) := by decide +kernel
theorem dX3_breakpoints_21 : decode cX3_breakpoints 21 = .ok (.goto 4, 3) := by decide +kernel
theorem dX3_breakpoints_24 : decode cX3_breakpoints 24 = .ok (.iconst 0, 1) := by decide +kernel
theorem dX3_breakpoints_25 : decode cX3_breakpoints 25 = .ok (.iadd, 1) := by decide +kernel
theorem dX3_breakpoints_26 : decode cX3_breakpoints 26 = .ok (.istore_n 1, 1) := by decide +kernel
theorem dX3_breakpoints_27 : decode cX3_breakpoints 27 = .ok (.iinc 2 1, 3) := by decide +kernel
theorem dX3_breakpoints_30 : decode cX3_breakpoints 30 = .ok (.goto (-26), 3) := by decide +kernel
theorem dX3_breakpoints_33 : decode cX3_breakpoints 33 = .ok (.iload_n 1, 1) := by decide +kernel
theorem dX3_breakpoints_34 : decode cX3_breakpoints 34 = .ok (.ireturn, 1) := by decide +kernel
theorem dX3_setBreakpoint_0 : decode cX3_setBreakpoint 0 = .ok (.iload_n 1, 1) := by decide +kernel
theorem dX3_setBreakpoint_1 : decode cX3_setBreakpoint 1 = .ok (.iload_n 2, 1) := by decide +kernel
theorem dX3_setBreakpoint_2 : decode cX3_setBreakpoint 2 = .ok (.invokestatic 65, 3) := by decide +kernel
theorem dX3_setBreakpoint_5 : decode cX3_setBreakpoint 5 = .ok (.ifCond .eq 12, 3) := by decide +kernel
theorem dX3_setBreakpoint_8 : decode cX3_setBreakpoint 8 = .ok (.iload_n 3, 1) := by decide +kernel
theorem dX3_setBreakpoint_9 : decode cX3_setBreakpoint 9 = .ok (.iconst 0, 1) := by decide +kernel
theorem dX3_setBreakpoint_10 : decode cX3_setBreakpoint 10 = .ok (.iconst 1, 1) := by decide +kernel
theorem dX3_setBreakpoint_11 : decode cX3_setBreakpoint 11 = .ok (.invokestatic 44, 3) := by decide +kernel
theorem dX3_setBreakpoint_14 : decode cX3_setBreakpoint 14 = .ok (.ifCond .ne 5, 3) := by decide +kernel
theorem dX3_setBreakpoint_17 : decode cX3_setBreakpoint 17 = .ok (.iconst (-1), 1) := by decide +kernel
theorem dX3_setBreakpoint_18 : decode cX3_setBreakpoint 18 = .ok (.ireturn, 1) := by decide +kernel
theorem dX3_setBreakpoint_19 : decode cX3_setBreakpoint 19 = .ok (.bipush 12, 2) := by decide +kernel
theorem dX3_setBreakpoint_21 : decode cX3_setBreakpoint 21 = .ok (.iload_n 2, 1) := by decide +kernel
theorem dX3_setBreakpoint_22 : decode cX3_setBreakpoint 22 = .ok (.imul, 1) := by decide +kernel
theorem dX3_setBreakpoint_23 : decode cX3_setBreakpoint 23 = .ok (.iload_n 1, 1) := by decide +kernel
theorem dX3_setBreakpoint_24 : decode cX3_setBreakpoint 24 = .ok (.iadd, 1) := by decide +kernel
theorem dX3_setBreakpoint_25 : decode cX3_setBreakpoint 25 = .ok (.istore 4, 2) := by decide +kernel
theorem dX3_setBreakpoint_27 : decode cX3_setBreakpoint 27 = .ok (.aload_n 0, 1) := by decide +kernel
theorem dX3_setBreakpoint_28 : decode cX3_setBreakpoint 28 = .ok (.getfield 32, 3) := by decide +kernel
theorem dX3_setBreakpoint_31 : decode cX3_setBreakpoint 31 = .ok (.iload 4, 2) := by decide +kernel
theorem dX3_setBreakpoint_33 : decode cX3_setBreakpoint 33 = .ok (.baload, 1) := by decide +kernel
theorem dX3_setBreakpoint_34 : decode cX3_setBreakpoint 34 = .ok (.iload_n 3, 1) := by decide +kernel
theorem dX3_setBreakpoint_35 : decode cX3_setBreakpoint 35 = .ok (.iconst 1, 1) := by decide +kernel
theorem dX3_setBreakpoint_36 : decode cX3_setBreakpoint 36 = .ok (.if_icmp .ne 7, 3) := by decide +kernel
theorem dX3_setBreakpoint_39 : decode cX3_setBreakpoint 39 = .ok (.iconst 1, 1) := by decide +kernel
theorem dX3_setBreakpoint_40 : decode cX3_setBreakpoint 40 = .ok (.goto 4, 3) := by decide +kernel
theorem dX3_setBreakpoint_43 : decode cX3_setBreakpoint 43 = .ok (.iconst 0, 1) := by decide +kernel
theorem dX3_setBreakpoint_44 : decode cX3_setBreakpoint 44 = .ok (.if_icmp .ne 6, 3) := by decide +kernel
theorem dX3_setBreakpoint_47 : decode cX3_setBreakpoint 47 = .ok (.bipush (-2), 2) := by decide +kernel
theorem dX3_setBreakpoint_49 : decode cX3_setBreakpoint 49 = .ok (.ireturn, 1) := by decide +kernel
theorem dX3_setBreakpoint_50 : decode cX3_setBreakpoint 50 = .ok (.aload_n 0, 1) := by decide +kernel
theorem dX3_setBreakpoint_51 : decode cX3_setBreakpoint 51 = .ok (.getfield 32, 3) := by decide +kernel
theorem dX3_setBreakpoint_54 : decode cX3_setBreakpoint 54 = .ok (.iload 4, 2) := by decide +kernel
theorem dX3_setBreakpoint_56 : decode cX3_setBreakpoint 56 = .ok (.iload_n 3, 1) := by decide +kernel
theorem dX3_setBreakpoint_57 : decode cX3_setBreakpoint 57 = .ok (.iconst 1, 1) := by decide +kernel
theorem dX3_setBreakpoint_58 : decode cX3_setBreakpoint 58 = .ok (.if_icmp .ne 7, 3) := by decide +kernel
theorem dX3_setBreakpoint_61 : decode cX3_setBreakpoint 61 = .ok (.iconst 1, 1) := by decide +kernel
theorem dX3_setBreakpoint_62 : decode cX3_setBreakpoint 62 = .ok (.goto 4, 3) := by decide +kernel
theorem dX3_setBreakpoint_65 : decode cX3_setBreakpoint 65 = .ok (.iconst 0, 1) := by decide +kernel
theorem dX3_setBreakpoint_66 : decode cX3_setBreakpoint 66 = .ok (.bastore, 1) := by decide +kernel
theorem dX3_setBreakpoint_67 : decode cX3_setBreakpoint 67 = .ok (.aload_n 0, 1) := by decide +kernel
theorem dX3_setBreakpoint_68 : decode cX3_setBreakpoint 68 = .ok (.invokevirtual 158, 3) := by decide +kernel
theorem dX3_setBreakpoint_71 : decode cX3_setBreakpoint 71 = .ok (.ireturn, 1) := by decide +kernel
theorem dX3_setAside_0 : decode cX3_setAside 0 = .ok (.iconst 0, 1) := by decide +kernel
theorem dX3_setAside_1 : decode cX3_setAside 1 = .ok (.istore_n 1, 1) := by decide +kernel
theorem dX3_setAside_2 : decode cX3_setAside 2 = .ok (.iload_n 1, 1) := by decide +kernel
theorem dX3_setAside_3 : decode cX3_setAside 3 = .ok (.sipush 289, 3) := by decide +kernel
theorem dX3_setAside_6 : decode cX3_setAside 6 = .ok (.if_icmp .ge 21, 3) := by decide +kernel
theorem dX3_setAside_9 : decode cX3_setAside 9 = .ok (.aload_n 0, 1) := by decide +kernel
theorem dX3_setAside_10 : decode cX3_setAside 10 = .ok (.getfield 16, 3) := by decide +kernel
theorem dX3_setAside_13 : decode cX3_setAside 13 = .ok (.iload_n 1, 1) := by decide +kernel
theorem dX3_setAside_14 : decode cX3_setAside 14 = .ok (.aload_n 0, 1) := by decide +kernel
theorem dX3_setAside_15 : decode cX3_setAside 15 = .ok (.getfield 7, 3) := by decide +kernel
theorem dX3_setAside_18 : decode cX3_setAside 18 = .ok (.iload_n 1, 1) := by decide +kernel
theorem dX3_setAside_19 : decode cX3_setAside 19 = .ok (.iaload, 1) := by decide +kernel
theorem dX3_setAside_20 : decode cX3_setAside 20 = .ok (.iastore, 1) := by decide +kernel
theorem dX3_setAside_21 : decode cX3_setAside 21 = .ok (.iinc 1 1, 3) := by decide +kernel
theorem dX3_setAside_24 : decode cX3_setAside 24 = .ok (.goto (-22), 3) := by decide +kernel
theorem dX3_setAside_27 : decode cX3_setAside 27 = .ok (.return_, 1) := by decide +kernel
theorem dX3_takeBack_0 : decode cX3_takeBack 0 = .ok (.iconst 0, 1) := by decide +kernel
theorem dX3_takeBack_1 : decode cX3_takeBack 1 = .ok (.istore_n 1, 1) := by decide +kernel
theorem dX3_takeBack_2 : decode cX3_takeBack 2 = .ok (.iload_n 1, 1) := by decide +kernel
theorem dX3_takeBack_3 : decode cX3_takeBack 3 = .ok (.sipush 289, 3) := by decide +kernel
theorem dX3_takeBack_6 : decode cX3_takeBack 6 = .ok (.if_icmp .ge 21, 3) := by decide +kernel
theorem dX3_takeBack_9 : decode cX3_takeBack 9 = .ok (.aload_n 0, 1) := by decide +kernel
theorem dX3_takeBack_10 : decode cX3_takeBack 10 = .ok (.getfield 7, 3) := by decide +kernel
theorem dX3_takeBack_13 : decode cX3_takeBack 13 = .ok (.iload_n 1, 1) := by decide +kernel
theorem dX3_takeBack_14 : decode cX3_takeBack 14 = .ok (.aload_n 0, 1) := by decide +kernel
theorem dX3_takeBack_15 : decode cX3_takeBack 15 = .ok (.getfield 16, 3) := by decide +kernel
theorem dX3_takeBack_18 : decode cX3_takeBack 18 = .ok (.iload_n 1, 1) := by decide +kernel
theorem dX3_takeBack_19 : decode cX3_takeBack 19 = .ok (.iaload, 1) := by decide +kernel
theorem dX3_takeBack_20 : decode cX3_takeBack 20 = .ok (.iastore, 1) := by decide +kernel
theorem dX3_takeBack_21 : decode cX3_takeBack 21 = .ok (.iinc 1 1, 3) := by decide +kernel
theorem dX3_takeBack_24 : decode cX3_takeBack 24 = .ok (.goto (-22), 3) := by decide +kernel
theorem dX3_takeBack_27 : decode cX3_takeBack 27 = .ok (.return_, 1) := by decide +kernel
theorem dX3_halts_0 : decode cX3_halts 0 = .ok (.aload_n 0, 1) := by decide +kernel
theorem dX3_halts_1 : decode cX3_halts 1 = .ok (.invokevirtual 161, 3) := by decide +kernel
theorem dX3_halts_4 : decode cX3_halts 4 = .ok (.iconst 0, 1) := by decide +kernel
theorem dX3_halts_5 : decode cX3_halts 5 = .ok (.istore_n 2, 1) := by decide +kernel
theorem dX3_halts_6 : decode cX3_halts 6 = .ok (.iload_n 2, 1) := by decide +kernel
theorem dX3_halts_7 : decode cX3_halts 7 = .ok (.iload_n 1, 1) := by decide +kernel
theorem dX3_halts_8 : decode cX3_halts 8 = .ok (.if_icmp .ge 20, 3) := by decide +kernel
theorem dX3_halts_11 : decode cX3_halts 11 = .ok (.aload_n 0, 1) := by decide +kernel
theorem dX3_halts_12 : decode cX3_halts 12 = .ok (.invokevirtual 144, 3) := by decide +kernel
theorem dX3_halts_15 : decode cX3_halts 15 = .ok (.ifCond .ne 13, 3) := by decide +kernel
theorem dX3_halts_18 : decode cX3_halts 18 = .ok (.aload_n 0, 1) := by decide +kernel
theorem dX3_halts_19 : decode cX3_halts 19 = .ok (.invokevirtual 148, 3) := by decide +kernel
theorem dX3_halts_22 : decode cX3_halts 22 = .ok (.iinc 2 1, 3) := by decide +kernel
theorem dX3_halts_25 : decode cX3_halts 25 = .ok (.goto (-19), 3) := by decide +kernel
theorem dX3_halts_28 : decode cX3_halts 28 = .ok (.aload_n 0, 1) := by decide +kernel
theorem dX3_halts_29 : decode cX3_halts 29 = .ok (.invokevirtual 144, 3) := by decide +kernel
theorem dX3_halts_32 : decode cX3_halts 32 = .ok (.ifCond .eq 7, 3) := by decide +kernel
theorem dX3_halts_35 : decode cX3_halts 35 = .ok (.iload_n 2, 1) := by decide +kernel
theorem dX3_halts_36 : decode cX3_halts 36 = .ok (.goto 5, 3) := by decide +kernel
theorem dX3_halts_39 : decode cX3_halts 39 = .ok (.bipush (-9), 2) := by decide +kernel
theorem dX3_halts_41 : decode cX3_halts 41 = .ok (.istore_n 3, 1) := by decide +kernel
theorem dX3_halts_42 : decode cX3_halts 42 = .ok (.aload_n 0, 1) := by decide +kernel
theorem dX3_halts_43 : decode cX3_halts 43 = .ok (.invokevirtual 164, 3) := by decide +kernel
theorem dX3_halts_46 : decode cX3_halts 46 = .ok (.iload_n 3, 1) := by decide +kernel
theorem dX3_halts_47 : decode cX3_halts 47 = .ok (.ireturn, 1) := by decide +kernel
theorem dX3_ticksToHalt_0 : decode cX3_ticksToHalt 0 = .ok (.iload_n 1, 1) := by decide +kernel
theorem dX3_ticksToHalt_1 : decode cX3_ticksToHalt 1 = .ok (.iconst 1, 1) := by decide +kernel
theorem dX3_ticksToHalt_2 : decode cX3_ticksToHalt 2 = .ok (.sipush 200, 3) := by decide +kernel
theorem dX3_ticksToHalt_5 : decode cX3_ticksToHalt 5 = .ok (.invokestatic 44, 3) := by decide +kernel
theorem dX3_ticksToHalt_8 : decode cX3_ticksToHalt 8 = .ok (.ifCond .eq 11, 3) := by decide +kernel
theorem dX3_ticksToHalt_11 : decode cX3_ticksToHalt 11 = .ok (.aload_n 0, 1) := by decide +kernel
theorem dX3_ticksToHalt_12 : decode cX3_ticksToHalt 12 = .ok (.iload_n 1, 1) := by decide +kernel
theorem dX3_ticksToHalt_13 : decode cX3_ticksToHalt 13 = .ok (.invokevirtual 167, 3) := by decide +kernel
theorem dX3_ticksToHalt_16 : decode cX3_ticksToHalt 16 = .ok (.goto 4, 3) := by decide +kernel
theorem dX3_ticksToHalt_19 : decode cX3_ticksToHalt 19 = .ok (.iconst (-1), 1) := by decide +kernel
theorem dX3_ticksToHalt_20 : decode cX3_ticksToHalt 20 = .ok (.ireturn, 1) := by decide +kernel
theorem dX3_isSameAsFirst_0 : decode cX3_isSameAsFirst 0 = .ok (.iconst 1, 1) := by decide +kernel
theorem dX3_isSameAsFirst_1 : decode cX3_isSameAsFirst 1 = .ok (.istore_n 1, 1) := by decide +kernel
theorem dX3_isSameAsFirst_2 : decode cX3_isSameAsFirst 2 = .ok (.bipush 72, 2) := by decide +kernel
theorem dX3_isSameAsFirst_4 : decode cX3_isSameAsFirst 4 = .ok (.istore_n 2, 1) := by decide +kernel
theorem dX3_isSameAsFirst_5 : decode cX3_isSameAsFirst 5 = .ok (.iload_n 2, 1) := by decide +kernel
theorem dX3_isSameAsFirst_6 : decode cX3_isSameAsFirst 6 = .ok (.sipush 267, 3) := by decide +kernel
theorem dX3_isSameAsFirst_9 : decode cX3_isSameAsFirst 9 = .ok (.if_icmp .ge 41, 3) := by decide +kernel
theorem dX3_isSameAsFirst_12 : decode cX3_isSameAsFirst 12 = .ok (.iload_n 1, 1) := by decide +kernel
theorem dX3_isSameAsFirst_13 : decode cX3_isSameAsFirst 13 = .ok (.ifCond .eq 37, 3) := by decide +kernel
theorem dX3_isSameAsFirst_16 : decode cX3_isSameAsFirst 16 = .ok (.iload_n 2, 1) := by decide +kernel
theorem dX3_isSameAsFirst_17 : decode cX3_isSameAsFirst 17 = .ok (.sipush 144, 3) := by decide +kernel
theorem dX3_isSameAsFirst_20 : decode cX3_isSameAsFirst 20 = .ok (.if_icmp .eq 18, 3) := by decide +kernel
theorem dX3_isSameAsFirst_23 : decode cX3_isSameAsFirst 23 = .ok (.aload_n 0, 1) := by decide +kernel
theorem dX3_isSameAsFirst_24 : decode cX3_isSameAsFirst 24 = .ok (.getfield 7, 3) := by decide +kernel
theorem dX3_isSameAsFirst_27 : decode cX3_isSameAsFirst 27 = .ok (.iload_n 2, 1) := by decide +kernel
theorem dX3_isSameAsFirst_28 : decode cX3_isSameAsFirst 28 = .ok (.iaload, 1) := by decide +kernel
theorem dX3_isSameAsFirst_29 : decode cX3_isSameAsFirst 29 = .ok (.aload_n 0, 1) := by decide +kernel
theorem dX3_isSameAsFirst_30 : decode cX3_isSameAsFirst 30 = .ok (.getfield 19, 3) := by decide +kernel
theorem dX3_isSameAsFirst_33 : decode cX3_isSameAsFirst 33 = .ok (.iload_n 2, 1) := by decide +kernel
theorem dX3_isSameAsFirst_34 : decode cX3_isSameAsFirst 34 = .ok (.iaload, 1) := by decide +kernel
theorem dX3_isSameAsFirst_35 : decode cX3_isSameAsFirst 35 = .ok (.if_icmp .ne 7, 3) := by decide +kernel
theorem dX3_isSameAsFirst_38 : decode cX3_isSameAsFirst 38 = .ok (.iconst 1, 1) := by decide +kernel
theorem dX3_isSameAsFirst_39 : decode cX3_isSameAsFirst 39 = .ok (.goto 4, 3) := by decide +kernel
theorem dX3_isSameAsFirst_42 : decode cX3_isSameAsFirst 42 = .ok (.iconst 0, 1) := by decide +kernel
theorem dX3_isSameAsFirst_43 : decode cX3_isSameAsFirst 43 = .ok (.istore_n 1, 1) := by decide +kernel
theorem dX3_isSameAsFirst_44 : decode cX3_isSameAsFirst 44 = .ok (.iinc 2 1, 3) := by decide +kernel
theorem dX3_isSameAsFirst_47 : decode cX3_isSameAsFirst 47 = .ok (.goto (-42), 3) := by decide +kernel
theorem dX3_isSameAsFirst_50 : decode cX3_isSameAsFirst 50 = .ok (.iload_n 1, 1) := by decide +kernel
theorem dX3_isSameAsFirst_51 : decode cX3_isSameAsFirst 51 = .ok (.ireturn, 1) := by decide +kernel
theorem dX3_findCycle_0 : decode cX3_findCycle 0 = .ok (.aload_n 0, 1) := by decide +kernel
theorem dX3_findCycle_1 : decode cX3_findCycle 1 = .ok (.bipush (-9), 2) := by decide +kernel
theorem dX3_findCycle_3 : decode cX3_findCycle 3 = .ok (.putfield 170, 3) := by decide +kernel
theorem dX3_findCycle_6 : decode cX3_findCycle 6 = .ok (.aload_n 0, 1) := by decide +kernel
theorem dX3_findCycle_7 : decode cX3_findCycle 7 = .ok (.bipush (-9), 2) := by decide +kernel
theorem dX3_findCycle_9 : decode cX3_findCycle 9 = .ok (.putfield 173, 3) := by decide +kernel
theorem dX3_findCycle_12 : decode cX3_findCycle 12 = .ok (.aload_n 0, 1) := by decide +kernel
theorem dX3_findCycle_13 : decode cX3_findCycle 13 = .ok (.iload_n 1, 1) := by decide +kernel
theorem dX3_findCycle_14 : decode cX3_findCycle 14 = .ok (.invokevirtual 167, 3) := by decide +kernel
theorem dX3_findCycle_17 : decode cX3_findCycle 17 = .ok (.bipush (-9), 2) := by decide +kernel
theorem dX3_findCycle_19 : decode cX3_findCycle 19 = .ok (.if_icmp .eq 4, 3) := by decide +kernel
theorem dX3_findCycle_22 : decode cX3_findCycle 22 = .ok (.return_, 1) := by decide +kernel
theorem dX3_findCycle_23 : decode cX3_findCycle 23 = .ok (.aload_n 0, 1) := by decide +kernel
theorem dX3_findCycle_24 : decode cX3_findCycle 24 = .ok (.invokevirtual 161, 3) := by decide +kernel
theorem dX3_findCycle_27 : decode cX3_findCycle 27 = .ok (.iconst 0, 1) := by decide +kernel
theorem dX3_findCycle_28 : decode cX3_findCycle 28 = .ok (.istore_n 2, 1) := by decide +kernel
theorem dX3_findCycle_29 : decode cX3_findCycle 29 = .ok (.iload_n 2, 1) := by decide +kernel
theorem dX3_findCycle_30 : decode cX3_findCycle 30 = .ok (.sipush 289, 3) := by decide +kernel
theorem dX3_findCycle_33 : decode cX3_findCycle 33 = .ok (.if_icmp .ge 21, 3) := by decide +kernel
theorem dX3_findCycle_36 : decode cX3_findCycle 36 = .ok (.aload_n 0, 1) := by decide +kernel
theorem dX3_findCycle_37 : decode cX3_findCycle 37 = .ok (.getfield 19, 3) := by decide +kernel
theorem dX3_findCycle_40 : decode cX3_findCycle 40 = .ok (.iload_n 2, 1) := by decide +kernel
theorem dX3_findCycle_41 : decode cX3_findCycle 41 = .ok (.aload_n 0, 1) := by decide +kernel
theorem dX3_findCycle_42 : decode cX3_findCycle 42 = .ok (.getfield 7, 3) := by decide +kernel
theorem dX3_findCycle_45 : decode cX3_findCycle 45 = .ok (.iload_n 2, 1) := by decide +kernel
theorem dX3_findCycle_46 : decode cX3_findCycle 46 = .ok (.iaload, 1) := by decide +kernel
theorem dX3_findCycle_47 : decode cX3_findCycle 47 = .ok (.iastore, 1) := by decide +kernel
theorem dX3_findCycle_48 : decode cX3_findCycle 48 = .ok (.iinc 2 1, 3) := by decide +kernel
theorem dX3_findCycle_51 : decode cX3_findCycle 51 = .ok (.goto (-22), 3) := by decide +kernel
theorem dX3_findCycle_54 : decode cX3_findCycle 54 = .ok (.iconst 0, 1) := by decide +kernel
theorem dX3_findCycle_55 : decode cX3_findCycle 55 = .ok (.istore_n 2, 1) := by decide +kernel
theorem dX3_findCycle_56 : decode cX3_findCycle 56 = .ok (.iload_n 2, 1) := by decide +kernel
theorem dX3_findCycle_57 : decode cX3_findCycle 57 = .ok (.iload_n 1, 1) := by decide +kernel
theorem dX3_findCycle_58 : decode cX3_findCycle 58 = .ok (.if_icmp .ge 150, 3) := by decide +kernel
theorem dX3_findCycle_61 : decode cX3_findCycle 61 = .ok (.aload_n 0, 1) := by decide +kernel
theorem dX3_findCycle_62 : decode cX3_findCycle 62 = .ok (.getfield 170, 3) := by decide +kernel
theorem dX3_findCycle_65 : decode cX3_findCycle 65 = .ok (.bipush (-9), 2) := by decide +kernel
theorem dX3_findCycle_67 : decode cX3_findCycle 67 = .ok (.if_icmp .ne 141, 3) := by decide +kernel
theorem dX3_findCycle_70 : decode cX3_findCycle 70 = .ok (.iconst 0, 1) := by decide +kernel
theorem dX3_findCycle_71 : decode cX3_findCycle 71 = .ok (.istore_n 3, 1) := by decide +kernel
theorem dX3_findCycle_72 : decode cX3_findCycle 72 = .ok (.iload_n 3, 1) := by decide +kernel
theorem dX3_findCycle_73 : decode cX3_findCycle 73 = .ok (.sipush 289, 3) := by decide +kernel
theorem dX3_findCycle_76 : decode cX3_findCycle 76 = .ok (.if_icmp .ge 21, 3) := by decide +kernel
theorem dX3_findCycle_79 : decode cX3_findCycle 79 = .ok (.aload_n 0, 1) := by decide +kernel
theorem dX3_findCycle_80 : decode cX3_findCycle 80 = .ok (.getfield 7, 3) := by decide +kernel
theorem dX3_findCycle_83 : decode cX3_findCycle 83 = .ok (.iload_n 3, 1) := by decide +kernel
theorem dX3_findCycle_84 : decode cX3_findCycle 84 = .ok (.aload_n 0, 1) := by decide +kernel
theorem dX3_findCycle_85 : decode cX3_findCycle 85 = .ok (.getfield 19, 3) := by decide +kernel
theorem dX3_findCycle_88 : decode cX3_findCycle 88 = .ok (.iload_n 3, 1) := by decide +kernel
theorem dX3_findCycle_89 : decode cX3_findCycle 89 = .ok (.iaload, 1) := by decide +kernel
theorem dX3_findCycle_90 : decode cX3_findCycle 90 = .ok (.iastore, 1) := by decide +kernel
theorem dX3_findCycle_91 : decode cX3_findCycle 91 = .ok (.iinc 3 1, 3) := by decide +kernel
theorem dX3_findCycle_94 : decode cX3_findCycle 94 = .ok (.goto (-22), 3) := by decide +kernel
theorem dX3_findCycle_97 : decode cX3_findCycle 97 = .ok (.iload_n 2, 1) := by decide +kernel
theorem dX3_findCycle_98 : decode cX3_findCycle 98 = .ok (.iconst 1, 1) := by decide +kernel
theorem dX3_findCycle_99 : decode cX3_findCycle 99 = .ok (.iadd, 1) := by decide +kernel
theorem dX3_findCycle_100 : decode cX3_findCycle 100 = .ok (.istore_n 3, 1) := by decide +kernel
theorem dX3_findCycle_101 : decode cX3_findCycle 101 = .ok (.iload_n 3, 1) := by decide +kernel
theorem dX3_findCycle_102 : decode cX3_findCycle 102 = .ok (.iload_n 1, 1) := by decide +kernel
theorem dX3_findCycle_103 : decode cX3_findCycle 103 = .ok (.if_icmp .gt 41, 3) := by decide +kernel
theorem dX3_findCycle_106 : decode cX3_findCycle 106 = .ok (.aload_n 0, 1) := by decide +kernel
theorem dX3_findCycle_107 : decode cX3_findCycle 107 = .ok (.getfield 170, 3) := by decide +kernel
theorem dX3_findCycle_110 : decode cX3_findCycle 110 = .ok (.bipush (-9), 2) := by decide +kernel
theorem dX3_findCycle_112 : decode cX3_findCycle 112 = .ok (.if_icmp .ne 32, 3) := by decide +kernel
theorem dX3_findCycle_115 : decode cX3_findCycle 115 = .ok (.aload_n 0, 1) := by decide +kernel
theorem dX3_findCycle_116 : decode cX3_findCycle 116 = .ok (.invokevirtual 148, 3) := by decide +kernel
theorem dX3_findCycle_119 : decode cX3_findCycle 119 = .ok (.aload_n 0, 1) := by decide +kernel
theorem dX3_findCycle_120 : decode cX3_findCycle 120 = .ok (.invokevirtual 176, 3) := by decide +kernel
theorem dX3_findCycle_123 : decode cX3_findCycle 123 = .ok (.ifCond .eq 15, 3) := by decide +kernel
theorem dX3_findCycle_126 : decode cX3_findCycle 126 = .ok (.aload_n 0, 1) := by decide +kernel
theorem dX3_findCycle_127 : decode cX3_findCycle 127 = .ok (.iload_n 2, 1) := by decide +kernel
theorem dX3_findCycle_128 : decode cX3_findCycle 128 = .ok (.putfield 170, 3) := by decide +kernel
theorem dX3_findCycle_131 : decode cX3_findCycle 131 = .ok (.aload_n 0, 1) := by decide +kernel
theorem dX3_findCycle_132 : decode cX3_findCycle 132 = .ok (.iload_n 3, 1) := by decide +kernel
theorem dX3_findCycle_133 : decode cX3_findCycle 133 = .ok (.iload_n 2, 1) := by decide +kernel
theorem dX3_findCycle_134 : decode cX3_findCycle 134 = .ok (.isub, 1) := by decide +kernel
theorem dX3_findCycle_135 : decode cX3_findCycle 135 = .ok (.putfield 173, 3) := by decide +kernel
theorem dX3_findCycle_138 : decode cX3_findCycle 138 = .ok (.iinc 3 1, 3) := by decide +kernel
theorem dX3_findCycle_141 : decode cX3_findCycle 141 = .ok (.goto (-40), 3) := by decide +kernel
theorem dX3_findCycle_144 : decode cX3_findCycle 144 = .ok (.iconst 0, 1) := by decide +kernel
theorem dX3_findCycle_145 : decode cX3_findCycle 145 = .ok (.istore_n 3, 1) := by decide +kernel
theorem dX3_findCycle_146 : decode cX3_findCycle 146 = .ok (.iload_n 3, 1) := by decide +kernel
theorem dX3_findCycle_147 : decode cX3_findCycle 147 = .ok (.sipush 289, 3) := by decide +kernel
theorem dX3_findCycle_150 : decode cX3_findCycle 150 = .ok (.if_icmp .ge 21, 3) := by decide +kernel
theorem dX3_findCycle_153 : decode cX3_findCycle 153 = .ok (.aload_n 0, 1) := by decide +kernel
theorem dX3_findCycle_154 : decode cX3_findCycle 154 = .ok (.getfield 7, 3) := by decide +kernel
theorem dX3_findCycle_157 : decode cX3_findCycle 157 = .ok (.iload_n 3, 1) := by decide +kernel
theorem dX3_findCycle_158 : decode cX3_findCycle 158 = .ok (.aload_n 0, 1) := by decide +kernel
theorem dX3_findCycle_159 : decode cX3_findCycle 159 = .ok (.getfield 19, 3) := by decide +kernel
theorem dX3_findCycle_162 : decode cX3_findCycle 162 = .ok (.iload_n 3, 1) := by decide +kernel
theorem dX3_findCycle_163 : decode cX3_findCycle 163 = .ok (.iaload, 1) := by decide +kernel
theorem dX3_findCycle_164 : decode cX3_findCycle 164 = .ok (.iastore, 1) := by decide +kernel
theorem dX3_findCycle_165 : decode cX3_findCycle 165 = .ok (.iinc 3 1, 3) := by decide +kernel
theorem dX3_findCycle_168 : decode cX3_findCycle 168 = .ok (.goto (-22), 3) := by decide +kernel
theorem dX3_findCycle_171 : decode cX3_findCycle 171 = .ok (.aload_n 0, 1) := by decide +kernel
theorem dX3_findCycle_172 : decode cX3_findCycle 172 = .ok (.invokevirtual 148, 3) := by decide +kernel
theorem dX3_findCycle_175 : decode cX3_findCycle 175 = .ok (.iconst 0, 1) := by decide +kernel
theorem dX3_findCycle_176 : decode cX3_findCycle 176 = .ok (.istore_n 3, 1) := by decide +kernel
theorem dX3_findCycle_177 : decode cX3_findCycle 177 = .ok (.iload_n 3, 1) := by decide +kernel
theorem dX3_findCycle_178 : decode cX3_findCycle 178 = .ok (.sipush 289, 3) := by decide +kernel
theorem dX3_findCycle_181 : decode cX3_findCycle 181 = .ok (.if_icmp .ge 21, 3) := by decide +kernel
theorem dX3_findCycle_184 : decode cX3_findCycle 184 = .ok (.aload_n 0, 1) := by decide +kernel
theorem dX3_findCycle_185 : decode cX3_findCycle 185 = .ok (.getfield 19, 3) := by decide +kernel
theorem dX3_findCycle_188 : decode cX3_findCycle 188 = .ok (.iload_n 3, 1) := by decide +kernel
theorem dX3_findCycle_189 : decode cX3_findCycle 189 = .ok (.aload_n 0, 1) := by decide +kernel
theorem dX3_findCycle_190 : decode cX3_findCycle 190 = .ok (.getfield 7, 3) := by decide +kernel
theorem dX3_findCycle_193 : decode cX3_findCycle 193 = .ok (.iload_n 3, 1) := by decide +kernel
theorem dX3_findCycle_194 : decode cX3_findCycle 194 = .ok (.iaload, 1) := by decide +kernel
theorem dX3_findCycle_195 : decode cX3_findCycle 195 = .ok (.iastore, 1) := by decide +kernel
theorem dX3_findCycle_196 : decode cX3_findCycle 196 = .ok (.iinc 3 1, 3) := by decide +kernel
theorem dX3_findCycle_199 : decode cX3_findCycle 199 = .ok (.goto (-22), 3) := by decide +kernel
theorem dX3_findCycle_202 : decode cX3_findCycle 202 = .ok (.iinc 2 1, 3) := by decide +kernel
theorem dX3_findCycle_205 : decode cX3_findCycle 205 = .ok (.goto (-149), 3) := by decide +kernel
theorem dX3_findCycle_208 : decode cX3_findCycle 208 = .ok (.aload_n 0, 1) := by decide +kernel
theorem dX3_findCycle_209 : decode cX3_findCycle 209 = .ok (.invokevirtual 164, 3) := by decide +kernel
theorem dX3_findCycle_212 : decode cX3_findCycle 212 = .ok (.return_, 1) := by decide +kernel
theorem dX3_cycleStart_0 : decode cX3_cycleStart 0 = .ok (.iload_n 1, 1) := by decide +kernel
theorem dX3_cycleStart_1 : decode cX3_cycleStart 1 = .ok (.iconst 1, 1) := by decide +kernel
theorem dX3_cycleStart_2 : decode cX3_cycleStart 2 = .ok (.sipush 200, 3) := by decide +kernel
theorem dX3_cycleStart_5 : decode cX3_cycleStart 5 = .ok (.invokestatic 44, 3) := by decide +kernel
theorem dX3_cycleStart_8 : decode cX3_cycleStart 8 = .ok (.ifCond .ne 5, 3) := by decide +kernel
theorem dX3_cycleStart_11 : decode cX3_cycleStart 11 = .ok (.iconst (-1), 1) := by decide +kernel
theorem dX3_cycleStart_12 : decode cX3_cycleStart 12 = .ok (.ireturn, 1) := by decide +kernel
theorem dX3_cycleStart_13 : decode cX3_cycleStart 13 = .ok (.aload_n 0, 1) := by decide +kernel
theorem dX3_cycleStart_14 : decode cX3_cycleStart 14 = .ok (.iload_n 1, 1) := by decide +kernel
theorem dX3_cycleStart_15 : decode cX3_cycleStart 15 = .ok (.invokevirtual 179, 3) := by decide +kernel
theorem dX3_cycleStart_18 : decode cX3_cycleStart 18 = .ok (.aload_n 0, 1) := by decide +kernel
theorem dX3_cycleStart_19 : decode cX3_cycleStart 19 = .ok (.getfield 170, 3) := by decide +kernel
theorem dX3_cycleStart_22 : decode cX3_cycleStart 22 = .ok (.ireturn, 1) := by decide +kernel
theorem dX3_cycleLength_0 : decode cX3_cycleLength 0 = .ok (.iload_n 1, 1) := by decide +kernel
theorem dX3_cycleLength_1 : decode cX3_cycleLength 1 = .ok (.iconst 1, 1) := by decide +kernel
theorem dX3_cycleLength_2 : decode cX3_cycleLength 2 = .ok (.sipush 200, 3) := by decide +kernel
theorem dX3_cycleLength_5 : decode cX3_cycleLength 5 = .ok (.invokestatic 44, 3) := by decide +kernel
theorem dX3_cycleLength_8 : decode cX3_cycleLength 8 = .ok (.ifCond .ne 5, 3) := by decide +kernel
theorem dX3_cycleLength_11 : decode cX3_cycleLength 11 = .ok (.iconst (-1), 1) := by decide +kernel
theorem dX3_cycleLength_12 : decode cX3_cycleLength 12 = .ok (.ireturn, 1) := by decide +kernel
theorem dX3_cycleLength_13 : decode cX3_cycleLength 13 = .ok (.aload_n 0, 1) := by decide +kernel
theorem dX3_cycleLength_14 : decode cX3_cycleLength 14 = .ok (.iload_n 1, 1) := by decide +kernel
theorem dX3_cycleLength_15 : decode cX3_cycleLength 15 = .ok (.invokevirtual 179, 3) := by decide +kernel
theorem dX3_cycleLength_18 : decode cX3_cycleLength 18 = .ok (.aload_n 0, 1) := by decide +kernel
theorem dX3_cycleLength_19 : decode cX3_cycleLength 19 = .ok (.getfield 173, 3) := by decide +kernel
theorem dX3_cycleLength_22 : decode cX3_cycleLength 22 = .ok (.ireturn, 1) := by decide +kernel
theorem dX3_cellAt_0 : decode cX3_cellAt 0 = .ok (.iload_n 1, 1) := by decide +kernel
theorem dX3_cellAt_1 : decode cX3_cellAt 1 = .ok (.iload_n 2, 1) := by decide +kernel
theorem dX3_cellAt_2 : decode cX3_cellAt 2 = .ok (.invokestatic 65, 3) := by decide +kernel
theorem dX3_cellAt_5 : decode cX3_cellAt 5 = .ok (.ifCond .eq 20, 3) := by decide +kernel
theorem dX3_cellAt_8 : decode cX3_cellAt 8 = .ok (.aload_n 0, 1) := by decide +kernel
theorem dX3_cellAt_9 : decode cX3_cellAt 9 = .ok (.getfield 7, 3) := by decide +kernel
theorem dX3_cellAt_12 : decode cX3_cellAt 12 = .ok (.bipush 72, 2) := by decide +kernel
theorem dX3_cellAt_14 : decode cX3_cellAt 14 = .ok (.bipush 12, 2) := by decide +kernel
theorem dX3_cellAt_16 : decode cX3_cellAt 16 = .ok (.iload_n 2, 1) := by decide +kernel
theorem dX3_cellAt_17 : decode cX3_cellAt 17 = .ok (.imul, 1) := by decide +kernel
theorem dX3_cellAt_18 : decode cX3_cellAt 18 = .ok (.iadd, 1) := by decide +kernel
theorem dX3_cellAt_19 : decode cX3_cellAt 19 = .ok (.iload_n 1, 1) := by decide +kernel
theorem dX3_cellAt_20 : decode cX3_cellAt 20 = .ok (.iadd, 1) := by decide +kernel
theorem dX3_cellAt_21 : decode cX3_cellAt 21 = .ok (.iaload, 1) := by decide +kernel
theorem dX3_cellAt_22 : decode cX3_cellAt 22 = .ok (.goto 4, 3) := by decide +kernel
theorem dX3_cellAt_25 : decode cX3_cellAt 25 = .ok (.iconst (-1), 1) := by decide +kernel
theorem dX3_cellAt_26 : decode cX3_cellAt 26 = .ok (.ireturn, 1) := by decide +kernel
theorem dX3_changedCells_0 : decode cX3_changedCells 0 = .ok (.iconst 0, 1) := by decide +kernel
theorem dX3_changedCells_1 : decode cX3_changedCells 1 = .ok (.istore_n 1, 1) := by decide +kernel
theorem dX3_changedCells_2 : decode cX3_changedCells 2 = .ok (.iconst 0, 1) := by decide +kernel
theorem dX3_changedCells_3 : decode cX3_changedCells 3 = .ok (.istore_n 2, 1) := by decide +kernel
theorem dX3_changedCells_4 : decode cX3_changedCells 4 = .ok (.iload_n 2, 1) := by decide +kernel
theorem dX3_changedCells_5 : decode cX3_changedCells 5 = .ok (.bipush 72, 2) := by decide +kernel
theorem dX3_changedCells_7 : decode cX3_changedCells 7 = .ok (.if_icmp .ge 35, 3) := by decide +kernel
theorem dX3_changedCells_10 : decode cX3_changedCells 10 = .ok (.iload_n 1, 1) := by decide +kernel
theorem dX3_changedCells_11 : decode cX3_changedCells 11 = .ok (.aload_n 0, 1) := by decide +kernel
theorem dX3_changedCells_12 : decode cX3_changedCells 12 = .ok (.getfield 7, 3) := by decide +kernel
theorem dX3_changedCells_15 : decode cX3_changedCells 15 = .ok (.iload_n 2, 1) := by decide +kernel
theorem dX3_changedCells_16 : decode cX3_changedCells 16 = .ok (.iaload, 1) := by decide +kernel
theorem dX3_changedCells_17 : decode cX3_changedCells 17 = .ok (.aload_n 0, 1) := by decide +kernel
theorem dX3_changedCells_18 : decode cX3_changedCells 18 = .ok (.getfield 7, 3) := by decide +kernel
theorem dX3_changedCells_21 : decode cX3_changedCells 21 = .ok (.bipush 72, 2) := by decide +kernel
theorem dX3_changedCells_23 : decode cX3_changedCells 23 = .ok (.iload_n 2, 1) := by decide +kernel
theorem dX3_changedCells_24 : decode cX3_changedCells 24 = .ok (.iadd, 1) := by decide +kernel
theorem dX3_changedCells_25 : decode cX3_changedCells 25 = .ok (.iaload, 1) := by decide +kernel
theorem dX3_changedCells_26 : decode cX3_changedCells 26 = .ok (.if_icmp .ne 7, 3) := by decide +kernel
theorem dX3_changedCells_29 : decode cX3_changedCells 29 = .ok (.iconst 0, 1) := by decide +kernel
theorem dX3_changedCells_30 : decode cX3_changedCells 30 = .ok (.goto 4, 3) := by decide +kernel
theorem dX3_changedCells_33 : decode cX3_changedCells 33 = .ok (.iconst 1, 1) := by decide +kernel
theorem dX3_changedCells_34 : decode cX3_changedCells 34 = .ok (.iadd, 1) := by decide +kernel
theorem dX3_changedCells_35 : decode cX3_changedCells 35 = .ok (.istore_n 1, 1) := by decide +kernel
theorem dX3_changedCells_36 : decode cX3_changedCells 36 = .ok (.iinc 2 1, 3) := by decide +kernel
theorem dX3_changedCells_39 : decode cX3_changedCells 39 = .ok (.goto (-35), 3) := by decide +kernel
theorem dX3_changedCells_42 : decode cX3_changedCells 42 = .ok (.iload_n 1, 1) := by decide +kernel
theorem dX3_changedCells_43 : decode cX3_changedCells 43 = .ok (.ireturn, 1) := by decide +kernel
theorem dX3_pointerCount_0 : decode cX3_pointerCount 0 = .ok (.aload_n 0, 1) := by decide +kernel
theorem dX3_pointerCount_1 : decode cX3_pointerCount 1 = .ok (.getfield 7, 3) := by decide +kernel
theorem dX3_pointerCount_4 : decode cX3_pointerCount 4 = .ok (.sipush 145, 3) := by decide +kernel
theorem dX3_pointerCount_7 : decode cX3_pointerCount 7 = .ok (.iaload, 1) := by decide +kernel
theorem dX3_pointerCount_8 : decode cX3_pointerCount 8 = .ok (.ireturn, 1) := by decide +kernel
theorem dX3_isPointer_0 : decode cX3_isPointer 0 = .ok (.iload_n 1, 1) := by decide +kernel
theorem dX3_isPointer_1 : decode cX3_isPointer 1 = .ok (.iconst 0, 1) := by decide +kernel
theorem dX3_isPointer_2 : decode cX3_isPointer 2 = .ok (.aload_n 0, 1) := by decide +kernel
theorem dX3_isPointer_3 : decode cX3_isPointer 3 = .ok (.getfield 7, 3) := by decide +kernel
theorem dX3_isPointer_6 : decode cX3_isPointer 6 = .ok (.sipush 145, 3) := by decide +kernel
theorem dX3_isPointer_9 : decode cX3_isPointer 9 = .ok (.iaload, 1) := by decide +kernel
theorem dX3_isPointer_10 : decode cX3_isPointer 10 = .ok (.iconst 1, 1) := by decide +kernel
theorem dX3_isPointer_11 : decode cX3_isPointer 11 = .ok (.isub, 1) := by decide +kernel
theorem dX3_isPointer_12 : decode cX3_isPointer 12 = .ok (.invokestatic 44, 3) := by decide +kernel
theorem dX3_isPointer_15 : decode cX3_isPointer 15 = .ok (.ireturn, 1) := by decide +kernel
theorem dX3_pointerAt_0 : decode cX3_pointerAt 0 = .ok (.aload_n 0, 1) := by decide +kernel
theorem dX3_pointerAt_1 : decode cX3_pointerAt 1 = .ok (.iload_n 1, 1) := by decide +kernel
theorem dX3_pointerAt_2 : decode cX3_pointerAt 2 = .ok (.invokevirtual 182, 3) := by decide +kernel
theorem dX3_pointerAt_5 : decode cX3_pointerAt 5 = .ok (.ifCond .eq 16, 3) := by decide +kernel
theorem dX3_pointerAt_8 : decode cX3_pointerAt 8 = .ok (.aload_n 0, 1) := by decide +kernel
theorem dX3_pointerAt_9 : decode cX3_pointerAt 9 = .ok (.getfield 7, 3) := by decide +kernel
theorem dX3_pointerAt_12 : decode cX3_pointerAt 12 = .ok (.sipush 146, 3) := by decide +kernel
theorem dX3_pointerAt_15 : decode cX3_pointerAt 15 = .ok (.iload_n 1, 1) := by decide +kernel
theorem dX3_pointerAt_16 : decode cX3_pointerAt 16 = .ok (.iadd, 1) := by decide +kernel
theorem dX3_pointerAt_17 : decode cX3_pointerAt 17 = .ok (.iaload, 1) := by decide +kernel
theorem dX3_pointerAt_18 : decode cX3_pointerAt 18 = .ok (.goto 4, 3) := by decide +kernel
theorem dX3_pointerAt_21 : decode cX3_pointerAt 21 = .ok (.iconst (-1), 1) := by decide +kernel
theorem dX3_pointerAt_22 : decode cX3_pointerAt 22 = .ok (.ireturn, 1) := by decide +kernel
theorem dX3_position_0 : decode cX3_position 0 = .ok (.aload_n 0, 1) := by decide +kernel
theorem dX3_position_1 : decode cX3_position 1 = .ok (.iload_n 1, 1) := by decide +kernel
theorem dX3_position_2 : decode cX3_position 2 = .ok (.invokevirtual 182, 3) := by decide +kernel
theorem dX3_position_5 : decode cX3_position 5 = .ok (.ifCond .eq 22, 3) := by decide +kernel
theorem dX3_position_8 : decode cX3_position 8 = .ok (.bipush 12, 2) := by decide +kernel
theorem dX3_position_10 : decode cX3_position 10 = .ok (.aload_n 0, 1) := by decide +kernel
theorem dX3_position_11 : decode cX3_position 11 = .ok (.iload_n 1, 1) := by decide +kernel
theorem dX3_position_12 : decode cX3_position 12 = .ok (.iconst 1, 1) := by decide +kernel
theorem dX3_position_13 : decode cX3_position 13 = .ok (.invokevirtual 69, 3) := by decide +kernel
theorem dX3_position_16 : decode cX3_position 16 = .ok (.imul, 1) := by decide +kernel
theorem dX3_position_17 : decode cX3_position 17 = .ok (.aload_n 0, 1) := by decide +kernel
theorem dX3_position_18 : decode cX3_position 18 = .ok (.iload_n 1, 1) := by decide +kernel
theorem dX3_position_19 : decode cX3_position 19 = .ok (.iconst 0, 1) := by decide +kernel
theorem dX3_position_20 : decode cX3_position 20 = .ok (.invokevirtual 69, 3) := by decide +kernel
theorem dX3_position_23 : decode cX3_position 23 = .ok (.iadd, 1) := by decide +kernel
theorem dX3_position_24 : decode cX3_position 24 = .ok (.goto 4, 3) := by decide +kernel
theorem dX3_position_27 : decode cX3_position 27 = .ok (.iconst (-1), 1) := by decide +kernel
theorem dX3_position_28 : decode cX3_position 28 = .ok (.ireturn, 1) := by decide +kernel
theorem dX3_direction_0 : decode cX3_direction 0 = .ok (.aload_n 0, 1) := by decide +kernel
theorem dX3_direction_1 : decode cX3_direction 1 = .ok (.iload_n 1, 1) := by decide +kernel
theorem dX3_direction_2 : decode cX3_direction 2 = .ok (.invokevirtual 182, 3) := by decide +kernel
theorem dX3_direction_5 : decode cX3_direction 5 = .ok (.ifCond .eq 12, 3) := by decide +kernel
theorem dX3_direction_8 : decode cX3_direction 8 = .ok (.aload_n 0, 1) := by decide +kernel
theorem dX3_direction_9 : decode cX3_direction 9 = .ok (.iload_n 1, 1) := by decide +kernel
theorem dX3_direction_10 : decode cX3_direction 10 = .ok (.iconst 2, 1) := by decide +kernel
theorem dX3_direction_11 : decode cX3_direction 11 = .ok (.invokevirtual 69, 3) := by decide +kernel
theorem dX3_direction_14 : decode cX3_direction 14 = .ok (.goto 4, 3) := by decide +kernel
theorem dX3_direction_17 : decode cX3_direction 17 = .ok (.iconst (-1), 1) := by decide +kernel
theorem dX3_direction_18 : decode cX3_direction 18 = .ok (.ireturn, 1) := by decide +kernel
theorem dX3_status_0 : decode cX3_status 0 = .ok (.aload_n 0, 1) := by decide +kernel
theorem dX3_status_1 : decode cX3_status 1 = .ok (.iload_n 1, 1) := by decide +kernel
theorem dX3_status_2 : decode cX3_status 2 = .ok (.invokevirtual 182, 3) := by decide +kernel
theorem dX3_status_5 : decode cX3_status 5 = .ok (.ifCond .eq 12, 3) := by decide +kernel
theorem dX3_status_8 : decode cX3_status 8 = .ok (.aload_n 0, 1) := by decide +kernel
theorem dX3_status_9 : decode cX3_status 9 = .ok (.iload_n 1, 1) := by decide +kernel
theorem dX3_status_10 : decode cX3_status 10 = .ok (.iconst 3, 1) := by decide +kernel
theorem dX3_status_11 : decode cX3_status 11 = .ok (.invokevirtual 69, 3) := by decide +kernel
theorem dX3_status_14 : decode cX3_status 14 = .ok (.goto 4, 3) := by decide +kernel
theorem dX3_status_17 : decode cX3_status 17 = .ok (.iconst (-1), 1) := by decide +kernel
theorem dX3_status_18 : decode cX3_status 18 = .ok (.ireturn, 1) := by decide +kernel
theorem dX3_sleep_0 : decode cX3_sleep 0 = .ok (.aload_n 0, 1) := by decide +kernel
theorem dX3_sleep_1 : decode cX3_sleep 1 = .ok (.iload_n 1, 1) := by decide +kernel
theorem dX3_sleep_2 : decode cX3_sleep 2 = .ok (.invokevirtual 182, 3) := by decide +kernel
theorem dX3_sleep_5 : decode cX3_sleep 5 = .ok (.ifCond .eq 12, 3) := by decide +kernel
theorem dX3_sleep_8 : decode cX3_sleep 8 = .ok (.aload_n 0, 1) := by decide +kernel
theorem dX3_sleep_9 : decode cX3_sleep 9 = .ok (.iload_n 1, 1) := by decide +kernel
theorem dX3_sleep_10 : decode cX3_sleep 10 = .ok (.iconst 4, 1) := by decide +kernel
theorem dX3_sleep_11 : decode cX3_sleep 11 = .ok (.invokevirtual 69, 3) := by decide +kernel
theorem dX3_sleep_14 : decode cX3_sleep 14 = .ok (.goto 4, 3) := by decide +kernel
theorem dX3_sleep_17 : decode cX3_sleep 17 = .ok (.iconst (-1), 1) := by decide +kernel
theorem dX3_sleep_18 : decode cX3_sleep 18 = .ok (.ireturn, 1) := by decide +kernel
theorem dX3_stackCount_0 : decode cX3_stackCount 0 = .ok (.aload_n 0, 1) := by decide +kernel
theorem dX3_stackCount_1 : decode cX3_stackCount 1 = .ok (.iload_n 1, 1) := by decide +kernel
theorem dX3_stackCount_2 : decode cX3_stackCount 2 = .ok (.invokevirtual 182, 3) := by decide +kernel
theorem dX3_stackCount_5 : decode cX3_stackCount 5 = .ok (.ifCond .eq 12, 3) := by decide +kernel
theorem dX3_stackCount_8 : decode cX3_stackCount 8 = .ok (.aload_n 0, 1) := by decide +kernel
theorem dX3_stackCount_9 : decode cX3_stackCount 9 = .ok (.iload_n 1, 1) := by decide +kernel
theorem dX3_stackCount_10 : decode cX3_stackCount 10 = .ok (.iconst 5, 1) := by decide +kernel
theorem dX3_stackCount_11 : decode cX3_stackCount 11 = .ok (.invokevirtual 69, 3) := by decide +kernel
theorem dX3_stackCount_14 : decode cX3_stackCount 14 = .ok (.goto 4, 3) := by decide +kernel
theorem dX3_stackCount_17 : decode cX3_stackCount 17 = .ok (.iconst (-1), 1) := by decide +kernel
theorem dX3_stackCount_18 : decode cX3_stackCount 18 = .ok (.ireturn, 1) := by decide +kernel
theorem dX3_isStack_0 : decode cX3_isStack 0 = .ok (.aload_n 0, 1) := by decide +kernel
theorem dX3_isStack_1 : decode cX3_isStack 1 = .ok (.iload_n 1, 1) := by decide +kernel
theorem dX3_isStack_2 : decode cX3_isStack 2 = .ok (.invokevirtual 182, 3) := by decide +kernel
theorem dX3_isStack_5 : decode cX3_isStack 5 = .ok (.ifCond .eq 23, 3) := by decide +kernel
theorem dX3_isStack_8 : decode cX3_isStack 8 = .ok (.iload_n 2, 1) := by decide +kernel
theorem dX3_isStack_9 : decode cX3_isStack 9 = .ok (.iconst 0, 1) := by decide +kernel
theorem dX3_isStack_10 : decode cX3_isStack 10 = .ok (.aload_n 0, 1) := by decide +kernel
theorem dX3_isStack_11 : decode cX3_isStack 11 = .ok (.iload_n 1, 1) := by decide +kernel
theorem dX3_isStack_12 : decode cX3_isStack 12 = .ok (.iconst 5, 1) := by decide +kernel
theorem dX3_isStack_13 : decode cX3_isStack 13 = .ok (.invokevirtual 69, 3) := by decide +kernel
theorem dX3_isStack_16 : decode cX3_isStack 16 = .ok (.iconst 1, 1) := by decide +kernel
theorem dX3_isStack_17 : decode cX3_isStack 17 = .ok (.isub, 1) := by decide +kernel
theorem dX3_isStack_18 : decode cX3_isStack 18 = .ok (.invokestatic 44, 3) := by decide +kernel
theorem dX3_isStack_21 : decode cX3_isStack 21 = .ok (.ifCond .eq 7, 3) := by decide +kernel
theorem dX3_isStack_24 : decode cX3_isStack 24 = .ok (.iconst 1, 1) := by decide +kernel
theorem dX3_isStack_25 : decode cX3_isStack 25 = .ok (.goto 4, 3) := by decide +kernel
theorem dX3_isStack_28 : decode cX3_isStack 28 = .ok (.iconst 0, 1) := by decide +kernel
theorem dX3_isStack_29 : decode cX3_isStack 29 = .ok (.ireturn, 1) := by decide +kernel
theorem dX3_stackSize_0 : decode cX3_stackSize 0 = .ok (.aload_n 0, 1) := by decide +kernel
theorem dX3_stackSize_1 : decode cX3_stackSize 1 = .ok (.iload_n 1, 1) := by decide +kernel
theorem dX3_stackSize_2 : decode cX3_stackSize 2 = .ok (.iload_n 2, 1) := by decide +kernel
theorem dX3_stackSize_3 : decode cX3_stackSize 3 = .ok (.invokevirtual 186, 3) := by decide +kernel
theorem dX3_stackSize_6 : decode cX3_stackSize 6 = .ok (.ifCond .eq 15, 3) := by decide +kernel
theorem dX3_stackSize_9 : decode cX3_stackSize 9 = .ok (.aload_n 0, 1) := by decide +kernel
theorem dX3_stackSize_10 : decode cX3_stackSize 10 = .ok (.iload_n 1, 1) := by decide +kernel
theorem dX3_stackSize_11 : decode cX3_stackSize 11 = .ok (.bipush 6, 2) := by decide +kernel
theorem dX3_stackSize_13 : decode cX3_stackSize 13 = .ok (.iload_n 2, 1) := by decide +kernel
theorem dX3_stackSize_14 : decode cX3_stackSize 14 = .ok (.iadd, 1) := by decide +kernel
theorem dX3_stackSize_15 : decode cX3_stackSize 15 = .ok (.invokevirtual 69, 3) := by decide +kernel
theorem dX3_stackSize_18 : decode cX3_stackSize 18 = .ok (.goto 4, 3) := by decide +kernel
theorem dX3_stackSize_21 : decode cX3_stackSize 21 = .ok (.iconst (-1), 1) := by decide +kernel
theorem dX3_stackSize_22 : decode cX3_stackSize 22 = .ok (.ireturn, 1) := by decide +kernel
theorem dX3_valueAt_0 : decode cX3_valueAt 0 = .ok (.aload_n 0, 1) := by decide +kernel
theorem dX3_valueAt_1 : decode cX3_valueAt 1 = .ok (.iload_n 1, 1) := by decide +kernel
theorem dX3_valueAt_2 : decode cX3_valueAt 2 = .ok (.iload_n 2, 1) := by decide +kernel
theorem dX3_valueAt_3 : decode cX3_valueAt 3 = .ok (.invokevirtual 186, 3) := by decide +kernel
theorem dX3_valueAt_6 : decode cX3_valueAt 6 = .ok (.ifCond .eq 22, 3) := by decide +kernel
theorem dX3_valueAt_9 : decode cX3_valueAt 9 = .ok (.iload_n 3, 1) := by decide +kernel
theorem dX3_valueAt_10 : decode cX3_valueAt 10 = .ok (.iconst 0, 1) := by decide +kernel
theorem dX3_valueAt_11 : decode cX3_valueAt 11 = .ok (.aload_n 0, 1) := by decide +kernel
theorem dX3_valueAt_12 : decode cX3_valueAt 12 = .ok (.iload_n 1, 1) := by decide +kernel
theorem dX3_valueAt_13 : decode cX3_valueAt 13 = .ok (.bipush 6, 2) := by decide +kernel
theorem dX3_valueAt_15 : decode cX3_valueAt 15 = .ok (.iload_n 2, 1) := by decide +kernel
theorem dX3_valueAt_16 : decode cX3_valueAt 16 = .ok (.iadd, 1) := by decide +kernel
theorem dX3_valueAt_17 : decode cX3_valueAt 17 = .ok (.invokevirtual 69, 3) := by decide +kernel
theorem dX3_valueAt_20 : decode cX3_valueAt 20 = .ok (.iconst 1, 1) := by decide +kernel
theorem dX3_valueAt_21 : decode cX3_valueAt 21 = .ok (.isub, 1) := by decide +kernel
theorem dX3_valueAt_22 : decode cX3_valueAt 22 = .ok (.invokestatic 44, 3) := by decide +kernel
theorem dX3_valueAt_25 : decode cX3_valueAt 25 = .ok (.ifCond .ne 5, 3) := by decide +kernel
theorem dX3_valueAt_28 : decode cX3_valueAt 28 = .ok (.iconst 0, 1) := by decide +kernel
theorem dX3_valueAt_29 : decode cX3_valueAt 29 = .ok (.ireturn, 1) := by decide +kernel
theorem dX3_valueAt_30 : decode cX3_valueAt 30 = .ok (.bipush 9, 2) := by decide +kernel
theorem dX3_valueAt_32 : decode cX3_valueAt 32 = .ok (.iload_n 3, 1) := by decide +kernel
theorem dX3_valueAt_33 : decode cX3_valueAt 33 = .ok (.iadd, 1) := by decide +kernel
theorem dX3_valueAt_34 : decode cX3_valueAt 34 = .ok (.istore 4, 2) := by decide +kernel
theorem dX3_valueAt_36 : decode cX3_valueAt 36 = .ok (.iconst 0, 1) := by decide +kernel
theorem dX3_valueAt_37 : decode cX3_valueAt 37 = .ok (.istore 5, 2) := by decide +kernel
theorem dX3_valueAt_39 : decode cX3_valueAt 39 = .ok (.iload 5, 2) := by decide +kernel
theorem dX3_valueAt_41 : decode cX3_valueAt 41 = .ok (.iload_n 2, 1) := by decide +kernel
theorem dX3_valueAt_42 : decode cX3_valueAt 42 = .ok (.if_icmp .ge 24, 3) := by decide +kernel
theorem dX3_valueAt_45 : decode cX3_valueAt 45 = .ok (.iload 4, 2) := by decide +kernel
theorem dX3_valueAt_47 : decode cX3_valueAt 47 = .ok (.aload_n 0, 1) := by decide +kernel
theorem dX3_valueAt_48 : decode cX3_valueAt 48 = .ok (.iload_n 1, 1) := by decide +kernel
theorem dX3_valueAt_49 : decode cX3_valueAt 49 = .ok (.bipush 6, 2) := by decide +kernel
theorem dX3_valueAt_51 : decode cX3_valueAt 51 = .ok (.iload 5, 2) := by decide +kernel
theorem dX3_valueAt_53 : decode cX3_valueAt 53 = .ok (.iadd, 1) := by decide +kernel
theorem dX3_valueAt_54 : decode cX3_valueAt 54 = .ok (.invokevirtual 69, 3) := by decide +kernel
theorem dX3_valueAt_57 : decode cX3_valueAt 57 = .ok (.iadd, 1) := by decide +kernel
theorem dX3_valueAt_58 : decode cX3_valueAt 58 = .ok (.istore 4, 2) := by decide +kernel
theorem dX3_valueAt_60 : decode cX3_valueAt 60 = .ok (.iinc 5 1, 3) := by decide +kernel
theorem dX3_valueAt_63 : decode cX3_valueAt 63 = .ok (.goto (-24), 3) := by decide +kernel
theorem dX3_valueAt_66 : decode cX3_valueAt 66 = .ok (.aload_n 0, 1) := by decide +kernel
theorem dX3_valueAt_67 : decode cX3_valueAt 67 = .ok (.iload_n 1, 1) := by decide +kernel
theorem dX3_valueAt_68 : decode cX3_valueAt 68 = .ok (.iload 4, 2) := by decide +kernel
theorem dX3_valueAt_70 : decode cX3_valueAt 70 = .ok (.invokevirtual 69, 3) := by decide +kernel
theorem dX3_valueAt_73 : decode cX3_valueAt 73 = .ok (.ireturn, 1) := by decide +kernel
theorem dX3_inputSize_0 : decode cX3_inputSize 0 = .ok (.aload_n 0, 1) := by decide +kernel
theorem dX3_inputSize_1 : decode cX3_inputSize 1 = .ok (.getfield 7, 3) := by decide +kernel
theorem dX3_inputSize_4 : decode cX3_inputSize 4 = .ok (.sipush 250, 3) := by decide +kernel
theorem dX3_inputSize_7 : decode cX3_inputSize 7 = .ok (.iaload, 1) := by decide +kernel
theorem dX3_inputSize_8 : decode cX3_inputSize 8 = .ok (.ireturn, 1) := by decide +kernel
theorem dX3_outputSize_0 : decode cX3_outputSize 0 = .ok (.aload_n 0, 1) := by decide +kernel
theorem dX3_outputSize_1 : decode cX3_outputSize 1 = .ok (.getfield 7, 3) := by decide +kernel
theorem dX3_outputSize_4 : decode cX3_outputSize 4 = .ok (.sipush 267, 3) := by decide +kernel
theorem dX3_outputSize_7 : decode cX3_outputSize 7 = .ok (.iaload, 1) := by decide +kernel
theorem dX3_outputSize_8 : decode cX3_outputSize 8 = .ok (.ireturn, 1) := by decide +kernel
theorem dX3_outputAt_0 : decode cX3_outputAt 0 = .ok (.iload_n 1, 1) := by decide +kernel
theorem dX3_outputAt_1 : decode cX3_outputAt 1 = .ok (.iconst 0, 1) := by decide +kernel
theorem dX3_outputAt_2 : decode cX3_outputAt 2 = .ok (.aload_n 0, 1) := by decide +kernel
theorem dX3_outputAt_3 : decode cX3_outputAt 3 = .ok (.getfield 7, 3) := by decide +kernel
theorem dX3_outputAt_6 : decode cX3_outputAt 6 = .ok (.sipush 267, 3) := by decide +kernel
theorem dX3_outputAt_9 : decode cX3_outputAt 9 = .ok (.iaload, 1) := by decide +kernel
theorem dX3_outputAt_10 : decode cX3_outputAt 10 = .ok (.iconst 1, 1) := by decide +kernel
theorem dX3_outputAt_11 : decode cX3_outputAt 11 = .ok (.isub, 1) := by decide +kernel
theorem dX3_outputAt_12 : decode cX3_outputAt 12 = .ok (.invokestatic 44, 3) := by decide +kernel
theorem dX3_outputAt_15 : decode cX3_outputAt 15 = .ok (.ifCond .eq 16, 3) := by decide +kernel
theorem dX3_outputAt_18 : decode cX3_outputAt 18 = .ok (.aload_n 0, 1) := by decide +kernel
theorem dX3_outputAt_19 : decode cX3_outputAt 19 = .ok (.getfield 7, 3) := by decide +kernel
theorem dX3_outputAt_22 : decode cX3_outputAt 22 = .ok (.sipush 268, 3) := by decide +kernel
theorem dX3_outputAt_25 : decode cX3_outputAt 25 = .ok (.iload_n 1, 1) := by decide +kernel
theorem dX3_outputAt_26 : decode cX3_outputAt 26 = .ok (.iadd, 1) := by decide +kernel
theorem dX3_outputAt_27 : decode cX3_outputAt 27 = .ok (.iaload, 1) := by decide +kernel
theorem dX3_outputAt_28 : decode cX3_outputAt 28 = .ok (.goto 4, 3) := by decide +kernel
theorem dX3_outputAt_31 : decode cX3_outputAt 31 = .ok (.iconst 0, 1) := by decide +kernel
theorem dX3_outputAt_32 : decode cX3_outputAt 32 = .ok (.ireturn, 1) := by decide +kernel
theorem dX3_outputTotal_0 : decode cX3_outputTotal 0 = .ok (.aload_n 0, 1) := by decide +kernel
theorem dX3_outputTotal_1 : decode cX3_outputTotal 1 = .ok (.getfield 7, 3) := by decide +kernel
theorem dX3_outputTotal_4 : decode cX3_outputTotal 4 = .ok (.sipush 288, 3) := by decide +kernel
theorem dX3_outputTotal_7 : decode cX3_outputTotal 7 = .ok (.iaload, 1) := by decide +kernel
theorem dX3_outputTotal_8 : decode cX3_outputTotal 8 = .ok (.ireturn, 1) := by decide +kernel
theorem dX3_tickCount_0 : decode cX3_tickCount 0 = .ok (.aload_n 0, 1) := by decide +kernel
theorem dX3_tickCount_1 : decode cX3_tickCount 1 = .ok (.getfield 7, 3) := by decide +kernel
theorem dX3_tickCount_4 : decode cX3_tickCount 4 = .ok (.sipush 144, 3) := by decide +kernel
theorem dX3_tickCount_7 : decode cX3_tickCount 7 = .ok (.iaload, 1) := by decide +kernel
theorem dX3_tickCount_8 : decode cX3_tickCount 8 = .ok (.ireturn, 1) := by decide +kernel
theorem dX3_save_0 : decode cX3_save 0 = .ok (.iload_n 1, 1) := by decide +kernel
theorem dX3_save_1 : decode cX3_save 1 = .ok (.iconst 0, 1) := by decide +kernel
theorem dX3_save_2 : decode cX3_save 2 = .ok (.iconst 1, 1) := by decide +kernel
theorem dX3_save_3 : decode cX3_save 3 = .ok (.invokestatic 44, 3) := by decide +kernel
theorem dX3_save_6 : decode cX3_save 6 = .ok (.ifCond .ne 5, 3) := by decide +kernel
theorem dX3_save_9 : decode cX3_save 9 = .ok (.iconst (-1), 1) := by decide +kernel
theorem dX3_save_10 : decode cX3_save 10 = .ok (.ireturn, 1) := by decide +kernel
theorem dX3_save_11 : decode cX3_save 11 = .ok (.iconst 0, 1) := by decide +kernel
theorem dX3_save_12 : decode cX3_save 12 = .ok (.istore_n 2, 1) := by decide +kernel
theorem dX3_save_13 : decode cX3_save 13 = .ok (.iload_n 2, 1) := by decide +kernel
theorem dX3_save_14 : decode cX3_save 14 = .ok (.sipush 289, 3) := by decide +kernel
theorem dX3_save_17 : decode cX3_save 17 = .ok (.if_icmp .ge 27, 3) := by decide +kernel
theorem dX3_save_20 : decode cX3_save 20 = .ok (.aload_n 0, 1) := by decide +kernel
theorem dX3_save_21 : decode cX3_save 21 = .ok (.getfield 25, 3) := by decide +kernel
theorem dX3_save_24 : decode cX3_save 24 = .ok (.sipush 289, 3) := by decide +kernel
theorem dX3_save_27 : decode cX3_save 27 = .ok (.iload_n 1, 1) := by decide +kernel
theorem dX3_save_28 : decode cX3_save 28 = .ok (.imul, 1) := by decide +kernel
theorem dX3_save_29 : decode cX3_save 29 = .ok (.iload_n 2, 1) := by decide +kernel
theorem dX3_save_30 : decode cX3_save 30 = .ok (.iadd, 1) := by decide +kernel
theorem dX3_save_31 : decode cX3_save 31 = .ok (.aload_n 0, 1) := by decide +kernel
theorem dX3_save_32 : decode cX3_save 32 = .ok (.getfield 7, 3) := by decide +kernel
theorem dX3_save_35 : decode cX3_save 35 = .ok (.iload_n 2, 1) := by decide +kernel
theorem dX3_save_36 : decode cX3_save 36 = .ok (.iaload, 1) := by decide +kernel
theorem dX3_save_37 : decode cX3_save 37 = .ok (.iastore, 1) := by decide +kernel
theorem dX3_save_38 : decode cX3_save 38 = .ok (.iinc 2 1, 3) := by decide +kernel
theorem dX3_save_41 : decode cX3_save 41 = .ok (.goto (-28), 3) := by decide +kernel
theorem dX3_save_44 : decode cX3_save 44 = .ok (.aload_n 0, 1) := by decide +kernel
theorem dX3_save_45 : decode cX3_save 45 = .ok (.getfield 28, 3) := by decide +kernel
theorem dX3_save_48 : decode cX3_save 48 = .ok (.iload_n 1, 1) := by decide +kernel
theorem dX3_save_49 : decode cX3_save 49 = .ok (.iconst 1, 1) := by decide +kernel
theorem dX3_save_50 : decode cX3_save 50 = .ok (.bastore, 1) := by decide +kernel
theorem dX3_save_51 : decode cX3_save 51 = .ok (.aload_n 0, 1) := by decide +kernel
theorem dX3_save_52 : decode cX3_save 52 = .ok (.getfield 7, 3) := by decide +kernel
theorem dX3_save_55 : decode cX3_save 55 = .ok (.sipush 144, 3) := by decide +kernel
theorem dX3_save_58 : decode cX3_save 58 = .ok (.iaload, 1) := by decide +kernel
theorem dX3_save_59 : decode cX3_save 59 = .ok (.ireturn, 1) := by decide +kernel
theorem dX3_restore_0 : decode cX3_restore 0 = .ok (.iload_n 1, 1) := by decide +kernel
theorem dX3_restore_1 : decode cX3_restore 1 = .ok (.iconst 0, 1) := by decide +kernel
theorem dX3_restore_2 : decode cX3_restore 2 = .ok (.iconst 1, 1) := by decide +kernel
theorem dX3_restore_3 : decode cX3_restore 3 = .ok (.invokestatic 44, 3) := by decide +kernel
theorem dX3_restore_6 : decode cX3_restore 6 = .ok (.ifCond .ne 5, 3) := by decide +kernel
theorem dX3_restore_9 : decode cX3_restore 9 = .ok (.iconst (-1), 1) := by decide +kernel
theorem dX3_restore_10 : decode cX3_restore 10 = .ok (.ireturn, 1) := by decide +kernel
theorem dX3_restore_11 : decode cX3_restore 11 = .ok (.aload_n 0, 1) := by decide +kernel
theorem dX3_restore_12 : decode cX3_restore 12 = .ok (.getfield 28, 3) := by decide +kernel
theorem dX3_restore_15 : decode cX3_restore 15 = .ok (.iload_n 1, 1) := by decide +kernel
theorem dX3_restore_16 : decode cX3_restore 16 = .ok (.baload, 1) := by decide +kernel
theorem dX3_restore_17 : decode cX3_restore 17 = .ok (.ifCond .ne 6, 3) := by decide +kernel
theorem dX3_restore_20 : decode cX3_restore 20 = .ok (.bipush (-2), 2) := by decide +kernel
theorem dX3_restore_22 : decode cX3_restore 22 = .ok (.ireturn, 1) := by decide +kernel
theorem dX3_restore_23 : decode cX3_restore 23 = .ok (.iconst 0, 1) := by decide +kernel
theorem dX3_restore_24 : decode cX3_restore 24 = .ok (.istore_n 2, 1) := by decide +kernel
theorem dX3_restore_25 : decode cX3_restore 25 = .ok (.iload_n 2, 1) := by decide +kernel
theorem dX3_restore_26 : decode cX3_restore 26 = .ok (.sipush 289, 3) := by decide +kernel
theorem dX3_restore_29 : decode cX3_restore 29 = .ok (.if_icmp .ge 27, 3) := by decide +kernel
theorem dX3_restore_32 : decode cX3_restore 32 = .ok (.aload_n 0, 1) := by decide +kernel
theorem dX3_restore_33 : decode cX3_restore 33 = .ok (.getfield 7, 3) := by decide +kernel
theorem dX3_restore_36 : decode cX3_restore 36 = .ok (.iload_n 2, 1) := by decide +kernel
theorem dX3_restore_37 : decode cX3_restore 37 = .ok (.aload_n 0, 1) := by decide +kernel
theorem dX3_restore_38 : decode cX3_restore 38 = .ok (.getfield 25, 3) := by decide +kernel
theorem dX3_restore_41 : decode cX3_restore 41 = .ok (.sipush 289, 3) := by decide +kernel
theorem dX3_restore_44 : decode cX3_restore 44 = .ok (.iload_n 1, 1) := by decide +kernel
theorem dX3_restore_45 : decode cX3_restore 45 = .ok (.imul, 1) := by decide +kernel
theorem dX3_restore_46 : decode cX3_restore 46 = .ok (.iload_n 2, 1) := by decide +kernel
theorem dX3_restore_47 : decode cX3_restore 47 = .ok (.iadd, 1) := by decide +kernel
theorem dX3_restore_48 : decode cX3_restore 48 = .ok (.iaload, 1) := by decide +kernel
theorem dX3_restore_49 : decode cX3_restore 49 = .ok (.iastore, 1) := by decide +kernel
theorem dX3_restore_50 : decode cX3_restore 50 = .ok (.iinc 2 1, 3) := by decide +kernel
theorem dX3_restore_53 : decode cX3_restore 53 = .ok (.goto (-28), 3) := by decide +kernel
theorem dX3_restore_56 : decode cX3_restore 56 = .ok (.aload_n 0, 1) := by decide +kernel
theorem dX3_restore_57 : decode cX3_restore 57 = .ok (.iconst 0, 1) := by decide +kernel
theorem dX3_restore_58 : decode cX3_restore 58 = .ok (.putfield 48, 3) := by decide +kernel
theorem dX3_restore_61 : decode cX3_restore 61 = .ok (.aload_n 0, 1) := by decide +kernel
theorem dX3_restore_62 : decode cX3_restore 62 = .ok (.getfield 7, 3) := by decide +kernel
theorem dX3_restore_65 : decode cX3_restore 65 = .ok (.sipush 144, 3) := by decide +kernel
theorem dX3_restore_68 : decode cX3_restore 68 = .ok (.iaload, 1) := by decide +kernel
theorem dX3_restore_69 : decode cX3_restore 69 = .ok (.ireturn, 1) := by decide +kernel
theorem dX3_undoDepth_0 : decode cX3_undoDepth 0 = .ok (.aload_n 0, 1) := by decide +kernel
theorem dX3_undoDepth_1 : decode cX3_undoDepth 1 = .ok (.getfield 48, 3) := by decide +kernel
theorem dX3_undoDepth_4 : decode cX3_undoDepth 4 = .ok (.ireturn, 1) := by decide +kernel
