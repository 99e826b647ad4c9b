/-! the law: its code read -/
theorem dL_law_487 : decode cL_law 487 = .ok (.bipush 11, 2) := by decide +kernel
theorem dL_law_489 : decode cL_law 489 = .ok (.if_icmp .ge 48, 3) := by decide +kernel
theorem dL_law_492 : decode cL_law 492 = .ok (.aload_n 1, 1) := by decide +kernel
theorem dL_law_493 : decode cL_law 493 = .ok (.iload 13, 2) := by decide +kernel
theorem dL_law_495 : decode cL_law 495 = .ok (.invokestatic 169, 3) := by decide +kernel
theorem dL_law_498 : decode cL_law 498 = .ok (.istore 18, 2) := by decide +kernel
theorem dL_law_500 : decode cL_law 500 = .ok (.iload 18, 2) := by decide +kernel
theorem dL_law_502 : decode cL_law 502 = .ok (.ifCond .lt 25, 3) := by decide +kernel
theorem dL_law_505 : decode cL_law 505 = .ok (.iload 18, 2) := by decide +kernel
theorem dL_law_507 : decode cL_law 507 = .ok (.aload_n 1, 1) := by decide +kernel
theorem dL_law_508 : decode cL_law 508 = .ok (.invokevirtual 171, 3) := by decide +kernel
theorem dL_law_511 : decode cL_law 511 = .ok (.if_icmp .ne 20, 3) := by decide +kernel
theorem dL_law_514 : decode cL_law 514 = .ok (.aload_n 1, 1) := by decide +kernel
theorem dL_law_515 : decode cL_law 515 = .ok (.iload 18, 2) := by decide +kernel
theorem dL_law_517 : decode cL_law 517 = .ok (.iconst 1, 1) := by decide +kernel
theorem dL_law_518 : decode cL_law 518 = .ok (.isub, 1) := by decide +kernel
theorem dL_law_519 : decode cL_law 519 = .ok (.invokestatic 174, 3) := by decide +kernel
theorem dL_law_522 : decode cL_law 522 = .ok (.iload 13, 2) := by decide +kernel
theorem dL_law_524 : decode cL_law 524 = .ok (.if_icmp .ne 7, 3) := by decide +kernel
theorem dL_law_527 : decode cL_law 527 = .ok (.iconst 1, 1) := by decide +kernel
theorem dL_law_528 : decode cL_law 528 = .ok (.goto 4, 3) := by decide +kernel
theorem dL_law_531 : decode cL_law 531 = .ok (.iconst 0, 1) := by decide +kernel
theorem dL_law_532 : decode cL_law 532 = .ok (.istore 6, 2) := by decide +kernel
theorem dL_law_534 : decode cL_law 534 = .ok (.goto 343, 3) := by decide +kernel
theorem dL_law_537 : decode cL_law 537 = .ok (.iload 16, 2) := by decide +kernel
theorem dL_law_539 : decode cL_law 539 = .ok (.bipush 11, 2) := by decide +kernel
theorem dL_law_541 : decode cL_law 541 = .ok (.if_icmp .ne 17, 3) := by decide +kernel
theorem dL_law_544 : decode cL_law 544 = .ok (.aload_n 1, 1) := by decide +kernel
theorem dL_law_545 : decode cL_law 545 = .ok (.iload 15, 2) := by decide +kernel
theorem dL_law_547 : decode cL_law 547 = .ok (.bipush 6, 2) := by decide +kernel
theorem dL_law_549 : decode cL_law 549 = .ok (.irem, 1) := by decide +kernel
theorem dL_law_550 : decode cL_law 550 = .ok (.invokestatic 176, 3) := by decide +kernel
theorem dL_law_553 : decode cL_law 553 = .ok (.istore 18, 2) := by decide +kernel
theorem dL_law_555 : decode cL_law 555 = .ok (.goto 322, 3) := by decide +kernel
theorem dL_law_558 : decode cL_law 558 = .ok (.iload 16, 2) := by decide +kernel
theorem dL_law_560 : decode cL_law 560 = .ok (.bipush 12, 2) := by decide +kernel
theorem dL_law_562 : decode cL_law 562 = .ok (.if_icmp .ne 93, 3) := by decide +kernel
theorem dL_law_565 : decode cL_law 565 = .ok (.aload_n 1, 1) := by decide +kernel
theorem dL_law_566 : decode cL_law 566 = .ok (.invokestatic 178, 3) := by decide +kernel
theorem dL_law_569 : decode cL_law 569 = .ok (.istore 19, 2) := by decide +kernel
theorem dL_law_571 : decode cL_law 571 = .ok (.aload_n 1, 1) := by decide +kernel
theorem dL_law_572 : decode cL_law 572 = .ok (.invokestatic 181, 3) := by decide +kernel
theorem dL_law_575 : decode cL_law 575 = .ok (.istore 20, 2) := by decide +kernel
theorem dL_law_577 : decode cL_law 577 = .ok (.aload_n 1, 1) := by decide +kernel
theorem dL_law_578 : decode cL_law 578 = .ok (.invokestatic 183, 3) := by decide +kernel
theorem dL_law_581 : decode cL_law 581 = .ok (.istore 18, 2) := by decide +kernel
theorem dL_law_583 : decode cL_law 583 = .ok (.iload 18, 2) := by decide +kernel
theorem dL_law_585 : decode cL_law 585 = .ok (.ifCond .ge 25, 3) := by decide +kernel
theorem dL_law_588 : decode cL_law 588 = .ok (.iload 19, 2) := by decide +kernel
theorem dL_law_590 : decode cL_law 590 = .ok (.bipush (-75), 2) := by decide +kernel
theorem dL_law_592 : decode cL_law 592 = .ok (.if_icmp .ne 14, 3) := by decide +kernel
theorem dL_law_595 : decode cL_law 595 = .ok (.iload 20, 2) := by decide +kernel
theorem dL_law_597 : decode cL_law 597 = .ok (.bipush (-75), 2) := by decide +kernel
theorem dL_law_599 : decode cL_law 599 = .ok (.if_icmp .ne 7, 3) := by decide +kernel
theorem dL_law_602 : decode cL_law 602 = .ok (.iconst 1, 1) := by decide +kernel
theorem dL_law_603 : decode cL_law 603 = .ok (.goto 47, 3) := by decide +kernel
theorem dL_law_606 : decode cL_law 606 = .ok (.iconst 0, 1) := by decide +kernel
theorem dL_law_607 : decode cL_law 607 = .ok (.goto 43, 3) := by decide +kernel
theorem dL_law_610 : decode cL_law 610 = .ok (.iload 18, 2) := by decide +kernel
theorem dL_law_612 : decode cL_law 612 = .ok (.iload 19, 2) := by decide +kernel
theorem dL_law_614 : decode cL_law 614 = .ok (.iload 20, 2) := by decide +kernel
theorem dL_law_616 : decode cL_law 616 = .ok (.isub, 1) := by decide +kernel
theorem dL_law_617 : decode cL_law 617 = .ok (.if_icmp .ne 32, 3) := by decide +kernel
theorem dL_law_620 : decode cL_law 620 = .ok (.aload_n 1, 1) := by decide +kernel
theorem dL_law_621 : decode cL_law 621 = .ok (.invokestatic 178, 3) := by decide +kernel
theorem dL_law_624 : decode cL_law 624 = .ok (.iload 20, 2) := by decide +kernel
theorem dL_law_626 : decode cL_law 626 = .ok (.if_icmp .ne 23, 3) := by decide +kernel
theorem dL_law_629 : decode cL_law 629 = .ok (.aload_n 1, 1) := by decide +kernel
theorem dL_law_630 : decode cL_law 630 = .ok (.invokestatic 185, 3) := by decide +kernel
theorem dL_law_633 : decode cL_law 633 = .ok (.iload 20, 2) := by decide +kernel
theorem dL_law_635 : decode cL_law 635 = .ok (.if_icmp .ne 14, 3) := by decide +kernel
theorem dL_law_638 : decode cL_law 638 = .ok (.aload_n 1, 1) := by decide +kernel
theorem dL_law_639 : decode cL_law 639 = .ok (.invokestatic 183, 3) := by decide +kernel
theorem dL_law_642 : decode cL_law 642 = .ok (.ifCond .ne 7, 3) := by decide +kernel
theorem dL_law_645 : decode cL_law 645 = .ok (.iconst 1, 1) := by decide +kernel
theorem dL_law_646 : decode cL_law 646 = .ok (.goto 4, 3) := by decide +kernel
theorem dL_law_649 : decode cL_law 649 = .ok (.iconst 0, 1) := by decide +kernel
theorem dL_law_650 : decode cL_law 650 = .ok (.istore 6, 2) := by decide +kernel
theorem dL_law_652 : decode cL_law 652 = .ok (.goto 225, 3) := by decide +kernel
theorem dL_law_655 : decode cL_law 655 = .ok (.iload 16, 2) := by decide +kernel
theorem dL_law_657 : decode cL_law 657 = .ok (.bipush 16, 2) := by decide +kernel
theorem dL_law_659 : decode cL_law 659 = .ok (.if_icmp .ge 44, 3) := by decide +kernel
theorem dL_law_662 : decode cL_law 662 = .ok (.aload_n 1, 1) := by decide +kernel
theorem dL_law_663 : decode cL_law 663 = .ok (.iload 13, 2) := by decide +kernel
theorem dL_law_665 : decode cL_law 665 = .ok (.iload 15, 2) := by decide +kernel
theorem dL_law_667 : decode cL_law 667 = .ok (.bipush 41, 2) := by decide +kernel
theorem dL_law_669 : decode cL_law 669 = .ok (.irem, 1) := by decide +kernel
theorem dL_law_670 : decode cL_law 670 = .ok (.aload_n 1, 1) := by decide +kernel
theorem dL_law_671 : decode cL_law 671 = .ok (.invokevirtual 187, 3) := by decide +kernel
theorem dL_law_674 : decode cL_law 674 = .ok (.iload 15, 2) := by decide +kernel
theorem dL_law_676 : decode cL_law 676 = .ok (.bipush 100, 2) := by decide +kernel
theorem dL_law_678 : decode cL_law 678 = .ok (.irem, 1) := by decide +kernel
theorem dL_law_679 : decode cL_law 679 = .ok (.iadd, 1) := by decide +kernel
theorem dL_law_680 : decode cL_law 680 = .ok (.invokestatic 190, 3) := by decide +kernel
theorem dL_law_683 : decode cL_law 683 = .ok (.istore 18, 2) := by decide +kernel
theorem dL_law_685 : decode cL_law 685 = .ok (.iload 18, 2) := by decide +kernel
theorem dL_law_687 : decode cL_law 687 = .ok (.ifCond .lt 190, 3) := by decide +kernel
theorem dL_law_690 : decode cL_law 690 = .ok (.aload 8, 2) := by decide +kernel
theorem dL_law_692 : decode cL_law 692 = .ok (.iload 18, 2) := by decide +kernel
theorem dL_law_694 : decode cL_law 694 = .ok (.iload 15, 2) := by decide +kernel
theorem dL_law_696 : decode cL_law 696 = .ok (.bipush 41, 2) := by decide +kernel
theorem dL_law_698 : decode cL_law 698 = .ok (.irem, 1) := by decide +kernel
theorem dL_law_699 : decode cL_law 699 = .ok (.iastore, 1) := by decide +kernel
theorem dL_law_700 : decode cL_law 700 = .ok (.goto 177, 3) := by decide +kernel
theorem dL_law_703 : decode cL_law 703 = .ok (.iload 16, 2) := by decide +kernel
theorem dL_law_705 : decode cL_law 705 = .ok (.bipush 18, 2) := by decide +kernel
theorem dL_law_707 : decode cL_law 707 = .ok (.if_icmp .ge 43, 3) := by decide +kernel
theorem dL_law_710 : decode cL_law 710 = .ok (.aload_n 1, 1) := by decide +kernel
theorem dL_law_711 : decode cL_law 711 = .ok (.iload 17, 2) := by decide +kernel
theorem dL_law_713 : decode cL_law 713 = .ok (.iload 13, 2) := by decide +kernel
theorem dL_law_715 : decode cL_law 715 = .ok (.iload 15, 2) := by decide +kernel
theorem dL_law_717 : decode cL_law 717 = .ok (.bipush 41, 2) := by decide +kernel
theorem dL_law_719 : decode cL_law 719 = .ok (.irem, 1) := by decide +kernel
theorem dL_law_720 : decode cL_law 720 = .ok (.invokestatic 192, 3) := by decide +kernel
theorem dL_law_723 : decode cL_law 723 = .ok (.istore 18, 2) := by decide +kernel
theorem dL_law_725 : decode cL_law 725 = .ok (.aload 8, 2) := by decide +kernel
theorem dL_law_727 : decode cL_law 727 = .ok (.iload 17, 2) := by decide +kernel
theorem dL_law_729 : decode cL_law 729 = .ok (.dup2, 1) := by decide +kernel
theorem dL_law_730 : decode cL_law 730 = .ok (.iaload, 1) := by decide +kernel
theorem dL_law_731 : decode cL_law 731 = .ok (.iload 18, 2) := by decide +kernel
theorem dL_law_733 : decode cL_law 733 = .ok (.ifCond .ge 7, 3) := by decide +kernel
theorem dL_law_736 : decode cL_law 736 = .ok (.iconst 0, 1) := by decide +kernel
theorem dL_law_737 : decode cL_law 737 = .ok (.goto 8, 3) := by decide +kernel
theorem dL_law_740 : decode cL_law 740 = .ok (.iload 15, 2) := by decide +kernel
theorem dL_law_742 : decode cL_law 742 = .ok (.bipush 41, 2) := by decide +kernel
theorem dL_law_744 : decode cL_law 744 = .ok (.irem, 1) := by decide +kernel
theorem dL_law_745 : decode cL_law 745 = .ok (.iadd, 1) := by decide +kernel
theorem dL_law_746 : decode cL_law 746 = .ok (.iastore, 1) := by decide +kernel
