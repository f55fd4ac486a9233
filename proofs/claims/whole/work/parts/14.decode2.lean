theorem zd_La_law_507 : decode code 507 = .ok (.iconst 1, 1) := by decide +kernel
theorem zd_La_law_508 : decode code 508 = .ok (.iadd, 1) := by decide +kernel
theorem zd_La_law_509 : decode code 509 = .ok (.iaload, 1) := by decide +kernel
theorem zd_La_law_510 : decode code 510 = .ok (.aload_n 0, 1) := by decide +kernel
theorem zd_La_law_511 : decode code 511 = .ok (.iload 4, 2) := by decide +kernel
theorem zd_La_law_513 : decode code 513 = .ok (.iconst 2, 1) := by decide +kernel
theorem zd_La_law_514 : decode code 514 = .ok (.iadd, 1) := by decide +kernel
theorem zd_La_law_515 : decode code 515 = .ok (.iaload, 1) := by decide +kernel
theorem zd_La_law_516 : decode code 516 = .ok (.aload_n 3, 1) := by decide +kernel
theorem zd_La_law_517 : decode code 517 = .ok (.invokestatic 98, 3) := by decide +kernel
theorem zd_La_law_520 : decode code 520 = .ok (.istore 5, 2) := by decide +kernel
theorem zd_La_law_522 : decode code 522 = .ok (.aload_n 2, 1) := by decide +kernel
theorem zd_La_law_523 : decode code 523 = .ok (.aload_n 0, 1) := by decide +kernel
theorem zd_La_law_524 : decode code 524 = .ok (.iload 4, 2) := by decide +kernel
theorem zd_La_law_526 : decode code 526 = .ok (.iconst 1, 1) := by decide +kernel
theorem zd_La_law_527 : decode code 527 = .ok (.iadd, 1) := by decide +kernel
theorem zd_La_law_528 : decode code 528 = .ok (.iaload, 1) := by decide +kernel
theorem zd_La_law_529 : decode code 529 = .ok (.aload_n 0, 1) := by decide +kernel
theorem zd_La_law_530 : decode code 530 = .ok (.iload 4, 2) := by decide +kernel
theorem zd_La_law_532 : decode code 532 = .ok (.iconst 2, 1) := by decide +kernel
theorem zd_La_law_533 : decode code 533 = .ok (.iadd, 1) := by decide +kernel
theorem zd_La_law_534 : decode code 534 = .ok (.iaload, 1) := by decide +kernel
theorem zd_La_law_535 : decode code 535 = .ok (.invokevirtual 100, 3) := by decide +kernel
theorem zd_La_law_538 : decode code 538 = .ok (.istore 6, 2) := by decide +kernel
theorem zd_La_law_540 : decode code 540 = .ok (.aload_n 2, 1) := by decide +kernel
theorem zd_La_law_541 : decode code 541 = .ok (.invokevirtual 71, 3) := by decide +kernel
theorem zd_La_law_544 : decode code 544 = .ok (.iload 5, 2) := by decide +kernel
theorem zd_La_law_546 : decode code 546 = .ok (.if_icmp .eq 5, 3) := by decide +kernel
theorem zd_La_law_549 : decode code 549 = .ok (.iconst 0, 1) := by decide +kernel
theorem zd_La_law_550 : decode code 550 = .ok (.ireturn, 1) := by decide +kernel
theorem zd_La_law_551 : decode code 551 = .ok (.iload 5, 2) := by decide +kernel
theorem zd_La_law_553 : decode code 553 = .ok (.ifCond .ne 15, 3) := by decide +kernel
theorem zd_La_law_556 : decode code 556 = .ok (.aload_n 3, 1) := by decide +kernel
theorem zd_La_law_557 : decode code 557 = .ok (.iconst 0, 1) := by decide +kernel
theorem zd_La_law_558 : decode code 558 = .ok (.laload, 1) := by decide +kernel
theorem zd_La_law_559 : decode code 559 = .ok (.iload 6, 2) := by decide +kernel
theorem zd_La_law_561 : decode code 561 = .ok (.i2l, 1) := by decide +kernel
theorem zd_La_law_562 : decode code 562 = .ok (.lcmp, 1) := by decide +kernel
theorem zd_La_law_563 : decode code 563 = .ok (.ifCond .eq 5, 3) := by decide +kernel
theorem zd_La_law_566 : decode code 566 = .ok (.iconst 0, 1) := by decide +kernel
theorem zd_La_law_567 : decode code 567 = .ok (.ireturn, 1) := by decide +kernel
theorem zd_La_law_568 : decode code 568 = .ok (.goto 351, 3) := by decide +kernel
theorem zd_La_law_571 : decode code 571 = .ok (.aload_n 1, 1) := by decide +kernel
theorem zd_La_law_572 : decode code 572 = .ok (.aload_n 0, 1) := by decide +kernel
theorem zd_La_law_573 : decode code 573 = .ok (.iload 4, 2) := by decide +kernel
theorem zd_La_law_575 : decode code 575 = .ok (.iconst 1, 1) := by decide +kernel
theorem zd_La_law_576 : decode code 576 = .ok (.iadd, 1) := by decide +kernel
theorem zd_La_law_577 : decode code 577 = .ok (.iaload, 1) := by decide +kernel
theorem zd_La_law_578 : decode code 578 = .ok (.aload_n 0, 1) := by decide +kernel
theorem zd_La_law_579 : decode code 579 = .ok (.iload 4, 2) := by decide +kernel
theorem zd_La_law_581 : decode code 581 = .ok (.iconst 2, 1) := by decide +kernel
theorem zd_La_law_582 : decode code 582 = .ok (.iadd, 1) := by decide +kernel
theorem zd_La_law_583 : decode code 583 = .ok (.iaload, 1) := by decide +kernel
theorem zd_La_law_584 : decode code 584 = .ok (.aload_n 3, 1) := by decide +kernel
theorem zd_La_law_585 : decode code 585 = .ok (.invokestatic 101, 3) := by decide +kernel
theorem zd_La_law_588 : decode code 588 = .ok (.istore 5, 2) := by decide +kernel
theorem zd_La_law_590 : decode code 590 = .ok (.aload_n 2, 1) := by decide +kernel
theorem zd_La_law_591 : decode code 591 = .ok (.aload_n 0, 1) := by decide +kernel
theorem zd_La_law_592 : decode code 592 = .ok (.iload 4, 2) := by decide +kernel
theorem zd_La_law_594 : decode code 594 = .ok (.iconst 1, 1) := by decide +kernel
theorem zd_La_law_595 : decode code 595 = .ok (.iadd, 1) := by decide +kernel
theorem zd_La_law_596 : decode code 596 = .ok (.iaload, 1) := by decide +kernel
theorem zd_La_law_597 : decode code 597 = .ok (.aload_n 0, 1) := by decide +kernel
theorem zd_La_law_598 : decode code 598 = .ok (.iload 4, 2) := by decide +kernel
theorem zd_La_law_600 : decode code 600 = .ok (.iconst 2, 1) := by decide +kernel
theorem zd_La_law_601 : decode code 601 = .ok (.iadd, 1) := by decide +kernel
theorem zd_La_law_602 : decode code 602 = .ok (.iaload, 1) := by decide +kernel
theorem zd_La_law_603 : decode code 603 = .ok (.invokevirtual 103, 3) := by decide +kernel
theorem zd_La_law_606 : decode code 606 = .ok (.istore 6, 2) := by decide +kernel
theorem zd_La_law_608 : decode code 608 = .ok (.aload_n 2, 1) := by decide +kernel
theorem zd_La_law_609 : decode code 609 = .ok (.invokevirtual 71, 3) := by decide +kernel
theorem zd_La_law_612 : decode code 612 = .ok (.iload 5, 2) := by decide +kernel
theorem zd_La_law_614 : decode code 614 = .ok (.if_icmp .eq 5, 3) := by decide +kernel
theorem zd_La_law_617 : decode code 617 = .ok (.iconst 0, 1) := by decide +kernel
theorem zd_La_law_618 : decode code 618 = .ok (.ireturn, 1) := by decide +kernel
theorem zd_La_law_619 : decode code 619 = .ok (.iload 5, 2) := by decide +kernel
theorem zd_La_law_621 : decode code 621 = .ok (.ifCond .ne 22, 3) := by decide +kernel
theorem zd_La_law_624 : decode code 624 = .ok (.aload_n 3, 1) := by decide +kernel
theorem zd_La_law_625 : decode code 625 = .ok (.iconst 0, 1) := by decide +kernel
theorem zd_La_law_626 : decode code 626 = .ok (.laload, 1) := by decide +kernel
theorem zd_La_law_627 : decode code 627 = .ok (.iload 6, 2) := by decide +kernel
theorem zd_La_law_629 : decode code 629 = .ok (.ifCond .eq 7, 3) := by decide +kernel
theorem zd_La_law_632 : decode code 632 = .ok (.lconst 1, 1) := by decide +kernel
theorem zd_La_law_633 : decode code 633 = .ok (.goto 4, 3) := by decide +kernel
theorem zd_La_law_636 : decode code 636 = .ok (.lconst 0, 1) := by decide +kernel
theorem zd_La_law_637 : decode code 637 = .ok (.lcmp, 1) := by decide +kernel
theorem zd_La_law_638 : decode code 638 = .ok (.ifCond .eq 5, 3) := by decide +kernel
theorem zd_La_law_641 : decode code 641 = .ok (.iconst 0, 1) := by decide +kernel
theorem zd_La_law_642 : decode code 642 = .ok (.ireturn, 1) := by decide +kernel
theorem zd_La_law_643 : decode code 643 = .ok (.goto 276, 3) := by decide +kernel
theorem zd_La_law_646 : decode code 646 = .ok (.aload_n 1, 1) := by decide +kernel
theorem zd_La_law_647 : decode code 647 = .ok (.aload_n 0, 1) := by decide +kernel
theorem zd_La_law_648 : decode code 648 = .ok (.iload 4, 2) := by decide +kernel
theorem zd_La_law_650 : decode code 650 = .ok (.iconst 1, 1) := by decide +kernel
theorem zd_La_law_651 : decode code 651 = .ok (.iadd, 1) := by decide +kernel
theorem zd_La_law_652 : decode code 652 = .ok (.iaload, 1) := by decide +kernel
theorem zd_La_law_653 : decode code 653 = .ok (.aload_n 3, 1) := by decide +kernel
theorem zd_La_law_654 : decode code 654 = .ok (.invokestatic 104, 3) := by decide +kernel
theorem zd_La_law_657 : decode code 657 = .ok (.istore 5, 2) := by decide +kernel
theorem zd_La_law_659 : decode code 659 = .ok (.aload_n 2, 1) := by decide +kernel
theorem zd_La_law_660 : decode code 660 = .ok (.aload_n 0, 1) := by decide +kernel
theorem zd_La_law_661 : decode code 661 = .ok (.iload 4, 2) := by decide +kernel
theorem zd_La_law_663 : decode code 663 = .ok (.iconst 1, 1) := by decide +kernel
theorem zd_La_law_664 : decode code 664 = .ok (.iadd, 1) := by decide +kernel
theorem zd_La_law_665 : decode code 665 = .ok (.iaload, 1) := by decide +kernel
theorem zd_La_law_666 : decode code 666 = .ok (.invokevirtual 107, 3) := by decide +kernel
theorem zd_La_law_669 : decode code 669 = .ok (.istore 6, 2) := by decide +kernel
theorem zd_La_law_671 : decode code 671 = .ok (.aload_n 2, 1) := by decide +kernel
theorem zd_La_law_672 : decode code 672 = .ok (.invokevirtual 71, 3) := by decide +kernel
theorem zd_La_law_675 : decode code 675 = .ok (.iload 5, 2) := by decide +kernel
theorem zd_La_law_677 : decode code 677 = .ok (.if_icmp .eq 5, 3) := by decide +kernel
theorem zd_La_law_680 : decode code 680 = .ok (.iconst 0, 1) := by decide +kernel
theorem zd_La_law_681 : decode code 681 = .ok (.ireturn, 1) := by decide +kernel
theorem zd_La_law_682 : decode code 682 = .ok (.iload 5, 2) := by decide +kernel
theorem zd_La_law_684 : decode code 684 = .ok (.ifCond .ne 15, 3) := by decide +kernel
theorem zd_La_law_687 : decode code 687 = .ok (.aload_n 3, 1) := by decide +kernel
theorem zd_La_law_688 : decode code 688 = .ok (.iconst 0, 1) := by decide +kernel
theorem zd_La_law_689 : decode code 689 = .ok (.laload, 1) := by decide +kernel
theorem zd_La_law_690 : decode code 690 = .ok (.iload 6, 2) := by decide +kernel
theorem zd_La_law_692 : decode code 692 = .ok (.i2l, 1) := by decide +kernel
theorem zd_La_law_693 : decode code 693 = .ok (.lcmp, 1) := by decide +kernel
theorem zd_La_law_694 : decode code 694 = .ok (.ifCond .eq 5, 3) := by decide +kernel
theorem zd_La_law_697 : decode code 697 = .ok (.iconst 0, 1) := by decide +kernel
theorem zd_La_law_698 : decode code 698 = .ok (.ireturn, 1) := by decide +kernel
theorem zd_La_law_699 : decode code 699 = .ok (.goto 220, 3) := by decide +kernel
theorem zd_La_law_702 : decode code 702 = .ok (.aload_n 1, 1) := by decide +kernel
theorem zd_La_law_703 : decode code 703 = .ok (.aload_n 0, 1) := by decide +kernel
theorem zd_La_law_704 : decode code 704 = .ok (.iload 4, 2) := by decide +kernel
theorem zd_La_law_706 : decode code 706 = .ok (.iconst 1, 1) := by decide +kernel
theorem zd_La_law_707 : decode code 707 = .ok (.iadd, 1) := by decide +kernel
theorem zd_La_law_708 : decode code 708 = .ok (.iaload, 1) := by decide +kernel
theorem zd_La_law_709 : decode code 709 = .ok (.aload_n 0, 1) := by decide +kernel
theorem zd_La_law_710 : decode code 710 = .ok (.iload 4, 2) := by decide +kernel
theorem zd_La_law_712 : decode code 712 = .ok (.iconst 2, 1) := by decide +kernel
theorem zd_La_law_713 : decode code 713 = .ok (.iadd, 1) := by decide +kernel
theorem zd_La_law_714 : decode code 714 = .ok (.iaload, 1) := by decide +kernel
theorem zd_La_law_715 : decode code 715 = .ok (.aload_n 3, 1) := by decide +kernel
theorem zd_La_law_716 : decode code 716 = .ok (.invokestatic 108, 3) := by decide +kernel
theorem zd_La_law_719 : decode code 719 = .ok (.istore 5, 2) := by decide +kernel
theorem zd_La_law_721 : decode code 721 = .ok (.aload_n 2, 1) := by decide +kernel
