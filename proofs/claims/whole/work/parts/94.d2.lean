theorem dLaw_478 : decode code 478 = .ok (.iadd, 1) := by decide +kernel
theorem dLaw_479 : decode code 479 = .ok (.iaload, 1) := by decide +kernel
theorem dLaw_480 : decode code 480 = .ok (.i2l, 1) := by decide +kernel
theorem dLaw_481 : decode code 481 = .ok (.ldc2_w 70, 3) := by decide +kernel
theorem dLaw_484 : decode code 484 = .ok (.land, 1) := by decide +kernel
theorem dLaw_485 : decode code 485 = .ok (.lor, 1) := by decide +kernel
theorem dLaw_486 : decode code 486 = .ok (.aload_n 3, 1) := by decide +kernel
theorem dLaw_487 : decode code 487 = .ok (.invokestatic 76, 3) := by decide +kernel
theorem dLaw_490 : decode code 490 = .ok (.istore 5, 2) := by decide +kernel
theorem dLaw_492 : decode code 492 = .ok (.aload_n 2, 1) := by decide +kernel
theorem dLaw_493 : decode code 493 = .ok (.aload_n 0, 1) := by decide +kernel
theorem dLaw_494 : decode code 494 = .ok (.iload 4, 2) := by decide +kernel
theorem dLaw_496 : decode code 496 = .ok (.iconst 1, 1) := by decide +kernel
theorem dLaw_497 : decode code 497 = .ok (.iadd, 1) := by decide +kernel
theorem dLaw_498 : decode code 498 = .ok (.iaload, 1) := by decide +kernel
theorem dLaw_499 : decode code 499 = .ok (.i2l, 1) := by decide +kernel
theorem dLaw_500 : decode code 500 = .ok (.bipush 32, 2) := by decide +kernel
theorem dLaw_502 : decode code 502 = .ok (.lshl, 1) := by decide +kernel
theorem dLaw_503 : decode code 503 = .ok (.aload_n 0, 1) := by decide +kernel
theorem dLaw_504 : decode code 504 = .ok (.iload 4, 2) := by decide +kernel
theorem dLaw_506 : decode code 506 = .ok (.iconst 2, 1) := by decide +kernel
theorem dLaw_507 : decode code 507 = .ok (.iadd, 1) := by decide +kernel
theorem dLaw_508 : decode code 508 = .ok (.iaload, 1) := by decide +kernel
theorem dLaw_509 : decode code 509 = .ok (.i2l, 1) := by decide +kernel
theorem dLaw_510 : decode code 510 = .ok (.ldc2_w 70, 3) := by decide +kernel
theorem dLaw_513 : decode code 513 = .ok (.land, 1) := by decide +kernel
theorem dLaw_514 : decode code 514 = .ok (.lor, 1) := by decide +kernel
theorem dLaw_515 : decode code 515 = .ok (.aload_n 0, 1) := by decide +kernel
theorem dLaw_516 : decode code 516 = .ok (.iload 4, 2) := by decide +kernel
theorem dLaw_518 : decode code 518 = .ok (.iconst 3, 1) := by decide +kernel
theorem dLaw_519 : decode code 519 = .ok (.iadd, 1) := by decide +kernel
theorem dLaw_520 : decode code 520 = .ok (.iaload, 1) := by decide +kernel
theorem dLaw_521 : decode code 521 = .ok (.i2l, 1) := by decide +kernel
theorem dLaw_522 : decode code 522 = .ok (.bipush 32, 2) := by decide +kernel
theorem dLaw_524 : decode code 524 = .ok (.lshl, 1) := by decide +kernel
theorem dLaw_525 : decode code 525 = .ok (.aload_n 0, 1) := by decide +kernel
theorem dLaw_526 : decode code 526 = .ok (.iload 4, 2) := by decide +kernel
theorem dLaw_528 : decode code 528 = .ok (.iconst 4, 1) := by decide +kernel
theorem dLaw_529 : decode code 529 = .ok (.iadd, 1) := by decide +kernel
theorem dLaw_530 : decode code 530 = .ok (.iaload, 1) := by decide +kernel
theorem dLaw_531 : decode code 531 = .ok (.i2l, 1) := by decide +kernel
theorem dLaw_532 : decode code 532 = .ok (.ldc2_w 70, 3) := by decide +kernel
theorem dLaw_535 : decode code 535 = .ok (.land, 1) := by decide +kernel
theorem dLaw_536 : decode code 536 = .ok (.lor, 1) := by decide +kernel
theorem dLaw_537 : decode code 537 = .ok (.invokevirtual 79, 3) := by decide +kernel
theorem dLaw_540 : decode code 540 = .ok (.istore 6, 2) := by decide +kernel
theorem dLaw_542 : decode code 542 = .ok (.aload_n 2, 1) := by decide +kernel
theorem dLaw_543 : decode code 543 = .ok (.invokevirtual 53, 3) := by decide +kernel
theorem dLaw_546 : decode code 546 = .ok (.iload 5, 2) := by decide +kernel
theorem dLaw_548 : decode code 548 = .ok (.if_icmp .eq 5, 3) := by decide +kernel
theorem dLaw_551 : decode code 551 = .ok (.iconst 0, 1) := by decide +kernel
theorem dLaw_552 : decode code 552 = .ok (.ireturn, 1) := by decide +kernel
theorem dLaw_553 : decode code 553 = .ok (.iload 5, 2) := by decide +kernel
theorem dLaw_555 : decode code 555 = .ok (.ifCond .ne 15, 3) := by decide +kernel
theorem dLaw_558 : decode code 558 = .ok (.aload_n 3, 1) := by decide +kernel
theorem dLaw_559 : decode code 559 = .ok (.iconst 0, 1) := by decide +kernel
theorem dLaw_560 : decode code 560 = .ok (.laload, 1) := by decide +kernel
theorem dLaw_561 : decode code 561 = .ok (.iload 6, 2) := by decide +kernel
theorem dLaw_563 : decode code 563 = .ok (.i2l, 1) := by decide +kernel
theorem dLaw_564 : decode code 564 = .ok (.lcmp, 1) := by decide +kernel
theorem dLaw_565 : decode code 565 = .ok (.ifCond .eq 5, 3) := by decide +kernel
theorem dLaw_568 : decode code 568 = .ok (.iconst 0, 1) := by decide +kernel
theorem dLaw_569 : decode code 569 = .ok (.ireturn, 1) := by decide +kernel
theorem dLaw_570 : decode code 570 = .ok (.goto 204, 3) := by decide +kernel
theorem dLaw_573 : decode code 573 = .ok (.aload_n 1, 1) := by decide +kernel
theorem dLaw_574 : decode code 574 = .ok (.aload_n 0, 1) := by decide +kernel
theorem dLaw_575 : decode code 575 = .ok (.iload 4, 2) := by decide +kernel
theorem dLaw_577 : decode code 577 = .ok (.iconst 1, 1) := by decide +kernel
theorem dLaw_578 : decode code 578 = .ok (.iadd, 1) := by decide +kernel
theorem dLaw_579 : decode code 579 = .ok (.iaload, 1) := by decide +kernel
theorem dLaw_580 : decode code 580 = .ok (.i2l, 1) := by decide +kernel
theorem dLaw_581 : decode code 581 = .ok (.bipush 32, 2) := by decide +kernel
theorem dLaw_583 : decode code 583 = .ok (.lshl, 1) := by decide +kernel
theorem dLaw_584 : decode code 584 = .ok (.aload_n 0, 1) := by decide +kernel
theorem dLaw_585 : decode code 585 = .ok (.iload 4, 2) := by decide +kernel
theorem dLaw_587 : decode code 587 = .ok (.iconst 2, 1) := by decide +kernel
theorem dLaw_588 : decode code 588 = .ok (.iadd, 1) := by decide +kernel
theorem dLaw_589 : decode code 589 = .ok (.iaload, 1) := by decide +kernel
theorem dLaw_590 : decode code 590 = .ok (.i2l, 1) := by decide +kernel
theorem dLaw_591 : decode code 591 = .ok (.ldc2_w 70, 3) := by decide +kernel
theorem dLaw_594 : decode code 594 = .ok (.land, 1) := by decide +kernel
theorem dLaw_595 : decode code 595 = .ok (.lor, 1) := by decide +kernel
theorem dLaw_596 : decode code 596 = .ok (.aload_n 3, 1) := by decide +kernel
theorem dLaw_597 : decode code 597 = .ok (.invokestatic 80, 3) := by decide +kernel
theorem dLaw_600 : decode code 600 = .ok (.istore 5, 2) := by decide +kernel
theorem dLaw_602 : decode code 602 = .ok (.aload_n 2, 1) := by decide +kernel
theorem dLaw_603 : decode code 603 = .ok (.aload_n 0, 1) := by decide +kernel
theorem dLaw_604 : decode code 604 = .ok (.iload 4, 2) := by decide +kernel
theorem dLaw_606 : decode code 606 = .ok (.iconst 1, 1) := by decide +kernel
theorem dLaw_607 : decode code 607 = .ok (.iadd, 1) := by decide +kernel
theorem dLaw_608 : decode code 608 = .ok (.iaload, 1) := by decide +kernel
theorem dLaw_609 : decode code 609 = .ok (.i2l, 1) := by decide +kernel
theorem dLaw_610 : decode code 610 = .ok (.bipush 32, 2) := by decide +kernel
theorem dLaw_612 : decode code 612 = .ok (.lshl, 1) := by decide +kernel
theorem dLaw_613 : decode code 613 = .ok (.aload_n 0, 1) := by decide +kernel
theorem dLaw_614 : decode code 614 = .ok (.iload 4, 2) := by decide +kernel
theorem dLaw_616 : decode code 616 = .ok (.iconst 2, 1) := by decide +kernel
theorem dLaw_617 : decode code 617 = .ok (.iadd, 1) := by decide +kernel
theorem dLaw_618 : decode code 618 = .ok (.iaload, 1) := by decide +kernel
theorem dLaw_619 : decode code 619 = .ok (.i2l, 1) := by decide +kernel
theorem dLaw_620 : decode code 620 = .ok (.ldc2_w 70, 3) := by decide +kernel
theorem dLaw_623 : decode code 623 = .ok (.land, 1) := by decide +kernel
theorem dLaw_624 : decode code 624 = .ok (.lor, 1) := by decide +kernel
theorem dLaw_625 : decode code 625 = .ok (.invokevirtual 83, 3) := by decide +kernel
theorem dLaw_628 : decode code 628 = .ok (.istore 6, 2) := by decide +kernel
theorem dLaw_630 : decode code 630 = .ok (.aload_n 2, 1) := by decide +kernel
theorem dLaw_631 : decode code 631 = .ok (.invokevirtual 53, 3) := by decide +kernel
theorem dLaw_634 : decode code 634 = .ok (.iload 5, 2) := by decide +kernel
theorem dLaw_636 : decode code 636 = .ok (.if_icmp .eq 5, 3) := by decide +kernel
theorem dLaw_639 : decode code 639 = .ok (.iconst 0, 1) := by decide +kernel
theorem dLaw_640 : decode code 640 = .ok (.ireturn, 1) := by decide +kernel
theorem dLaw_641 : decode code 641 = .ok (.iload 5, 2) := by decide +kernel
theorem dLaw_643 : decode code 643 = .ok (.ifCond .ne 15, 3) := by decide +kernel
theorem dLaw_646 : decode code 646 = .ok (.aload_n 3, 1) := by decide +kernel
theorem dLaw_647 : decode code 647 = .ok (.iconst 0, 1) := by decide +kernel
theorem dLaw_648 : decode code 648 = .ok (.laload, 1) := by decide +kernel
theorem dLaw_649 : decode code 649 = .ok (.iload 6, 2) := by decide +kernel
theorem dLaw_651 : decode code 651 = .ok (.i2l, 1) := by decide +kernel
theorem dLaw_652 : decode code 652 = .ok (.lcmp, 1) := by decide +kernel
theorem dLaw_653 : decode code 653 = .ok (.ifCond .eq 5, 3) := by decide +kernel
theorem dLaw_656 : decode code 656 = .ok (.iconst 0, 1) := by decide +kernel
theorem dLaw_657 : decode code 657 = .ok (.ireturn, 1) := by decide +kernel
theorem dLaw_658 : decode code 658 = .ok (.goto 116, 3) := by decide +kernel
theorem dLaw_661 : decode code 661 = .ok (.aload_n 1, 1) := by decide +kernel
theorem dLaw_662 : decode code 662 = .ok (.aload_n 0, 1) := by decide +kernel
theorem dLaw_663 : decode code 663 = .ok (.iload 4, 2) := by decide +kernel
theorem dLaw_665 : decode code 665 = .ok (.iconst 1, 1) := by decide +kernel
theorem dLaw_666 : decode code 666 = .ok (.iadd, 1) := by decide +kernel
theorem dLaw_667 : decode code 667 = .ok (.iaload, 1) := by decide +kernel
theorem dLaw_668 : decode code 668 = .ok (.i2l, 1) := by decide +kernel
theorem dLaw_669 : decode code 669 = .ok (.bipush 32, 2) := by decide +kernel
theorem dLaw_671 : decode code 671 = .ok (.lshl, 1) := by decide +kernel
theorem dLaw_672 : decode code 672 = .ok (.aload_n 0, 1) := by decide +kernel
theorem dLaw_673 : decode code 673 = .ok (.iload 4, 2) := by decide +kernel
theorem dLaw_675 : decode code 675 = .ok (.iconst 2, 1) := by decide +kernel
theorem dLaw_676 : decode code 676 = .ok (.iadd, 1) := by decide +kernel
theorem dLaw_677 : decode code 677 = .ok (.iaload, 1) := by decide +kernel
theorem dLaw_678 : decode code 678 = .ok (.i2l, 1) := by decide +kernel
theorem dLaw_679 : decode code 679 = .ok (.ldc2_w 70, 3) := by decide +kernel
theorem dLaw_682 : decode code 682 = .ok (.land, 1) := by decide +kernel
