theorem dc_L_law_450 : decode code 450 = .ok (.iconst 0, 1) := by decide +kernel
theorem dc_L_law_472 : decode code 472 = .ok (.aload_n 1, 1) := by decide +kernel
theorem dc_L_law_473 : decode code 473 = .ok (.aload_n 0, 1) := by decide +kernel
theorem dc_L_law_474 : decode code 474 = .ok (.iload 4, 2) := by decide +kernel
theorem dc_L_law_476 : decode code 476 = .ok (.iconst 1, 1) := by decide +kernel
theorem dc_L_law_477 : decode code 477 = .ok (.iadd, 1) := by decide +kernel
theorem dc_L_law_478 : decode code 478 = .ok (.iaload, 1) := by decide +kernel
theorem dc_L_law_479 : decode code 479 = .ok (.aload_n 3, 1) := by decide +kernel
theorem dc_L_law_480 : decode code 480 = .ok (.invokestatic 91, 3) := by decide +kernel
theorem dc_L_law_483 : decode code 483 = .ok (.istore 5, 2) := by decide +kernel
theorem dc_L_law_485 : decode code 485 = .ok (.aload_n 2, 1) := by decide +kernel
theorem dc_L_law_486 : decode code 486 = .ok (.aload_n 0, 1) := by decide +kernel
theorem dc_L_law_487 : decode code 487 = .ok (.iload 4, 2) := by decide +kernel
theorem dc_L_law_489 : decode code 489 = .ok (.iconst 1, 1) := by decide +kernel
theorem dc_L_law_490 : decode code 490 = .ok (.iadd, 1) := by decide +kernel
theorem dc_L_law_491 : decode code 491 = .ok (.iaload, 1) := by decide +kernel
theorem dc_L_law_492 : decode code 492 = .ok (.invokevirtual 94, 3) := by decide +kernel
theorem dc_L_law_495 : decode code 495 = .ok (.istore 6, 2) := by decide +kernel
theorem dc_L_law_497 : decode code 497 = .ok (.aload_n 2, 1) := by decide +kernel
theorem dc_L_law_498 : decode code 498 = .ok (.invokevirtual 76, 3) := by decide +kernel
theorem dc_L_law_501 : decode code 501 = .ok (.iload 5, 2) := by decide +kernel
theorem dc_L_law_503 : decode code 503 = .ok (.if_icmp .eq 5, 3) := by decide +kernel
theorem dc_L_law_508 : decode code 508 = .ok (.iload 5, 2) := by decide +kernel
theorem dc_L_law_510 : decode code 510 = .ok (.ifCond .ne 15, 3) := by decide +kernel
theorem dc_L_law_525 : decode code 525 = .ok (.goto 561, 3) := by decide +kernel
theorem dc_L_law_513 : decode code 513 = .ok (.aload_n 3, 1) := by decide +kernel
theorem dc_L_law_514 : decode code 514 = .ok (.iconst 0, 1) := by decide +kernel
theorem dc_L_law_515 : decode code 515 = .ok (.laload, 1) := by decide +kernel
theorem dc_L_law_516 : decode code 516 = .ok (.iload 6, 2) := by decide +kernel
theorem dc_L_law_518 : decode code 518 = .ok (.i2l, 1) := by decide +kernel
theorem dc_L_law_519 : decode code 519 = .ok (.lcmp, 1) := by decide +kernel
theorem dc_L_law_520 : decode code 520 = .ok (.ifCond .eq 5, 3) := by decide +kernel
theorem dc_L_law_523 : decode code 523 = .ok (.iconst 0, 1) := by decide +kernel
theorem dc_L_law_506 : decode code 506 = .ok (.iconst 0, 1) := by decide +kernel
theorem dc_L_law_528 : decode code 528 = .ok (.aload_n 1, 1) := by decide +kernel
theorem dc_L_law_529 : decode code 529 = .ok (.aload_n 0, 1) := by decide +kernel
theorem dc_L_law_530 : decode code 530 = .ok (.iload 4, 2) := by decide +kernel
theorem dc_L_law_532 : decode code 532 = .ok (.iconst 1, 1) := by decide +kernel
theorem dc_L_law_533 : decode code 533 = .ok (.iadd, 1) := by decide +kernel
theorem dc_L_law_534 : decode code 534 = .ok (.iaload, 1) := by decide +kernel
theorem dc_L_law_535 : decode code 535 = .ok (.aload_n 3, 1) := by decide +kernel
theorem dc_L_law_536 : decode code 536 = .ok (.invokestatic 95, 3) := by decide +kernel
theorem dc_L_law_539 : decode code 539 = .ok (.istore 5, 2) := by decide +kernel
theorem dc_L_law_541 : decode code 541 = .ok (.aload_n 2, 1) := by decide +kernel
theorem dc_L_law_542 : decode code 542 = .ok (.aload_n 0, 1) := by decide +kernel
theorem dc_L_law_543 : decode code 543 = .ok (.iload 4, 2) := by decide +kernel
theorem dc_L_law_545 : decode code 545 = .ok (.iconst 1, 1) := by decide +kernel
theorem dc_L_law_546 : decode code 546 = .ok (.iadd, 1) := by decide +kernel
theorem dc_L_law_547 : decode code 547 = .ok (.iaload, 1) := by decide +kernel
theorem dc_L_law_548 : decode code 548 = .ok (.invokevirtual 97, 3) := by decide +kernel
theorem dc_L_law_551 : decode code 551 = .ok (.istore 6, 2) := by decide +kernel
theorem dc_L_law_553 : decode code 553 = .ok (.aload_n 2, 1) := by decide +kernel
theorem dc_L_law_554 : decode code 554 = .ok (.invokevirtual 76, 3) := by decide +kernel
theorem dc_L_law_557 : decode code 557 = .ok (.iload 5, 2) := by decide +kernel
theorem dc_L_law_559 : decode code 559 = .ok (.if_icmp .eq 5, 3) := by decide +kernel
theorem dc_L_law_564 : decode code 564 = .ok (.iload 5, 2) := by decide +kernel
theorem dc_L_law_566 : decode code 566 = .ok (.ifCond .ne 15, 3) := by decide +kernel
theorem dc_L_law_581 : decode code 581 = .ok (.goto 505, 3) := by decide +kernel
theorem dc_L_law_569 : decode code 569 = .ok (.aload_n 3, 1) := by decide +kernel
theorem dc_L_law_570 : decode code 570 = .ok (.iconst 0, 1) := by decide +kernel
theorem dc_L_law_571 : decode code 571 = .ok (.laload, 1) := by decide +kernel
theorem dc_L_law_572 : decode code 572 = .ok (.iload 6, 2) := by decide +kernel
theorem dc_L_law_574 : decode code 574 = .ok (.i2l, 1) := by decide +kernel
theorem dc_L_law_575 : decode code 575 = .ok (.lcmp, 1) := by decide +kernel
theorem dc_L_law_576 : decode code 576 = .ok (.ifCond .eq 5, 3) := by decide +kernel
theorem dc_L_law_579 : decode code 579 = .ok (.iconst 0, 1) := by decide +kernel
theorem dc_L_law_562 : decode code 562 = .ok (.iconst 0, 1) := by decide +kernel
theorem dc_L_law_584 : decode code 584 = .ok (.aload_n 1, 1) := by decide +kernel
theorem dc_L_law_585 : decode code 585 = .ok (.invokevirtual 98, 3) := by decide +kernel
theorem dc_L_law_588 : decode code 588 = .ok (.aload_n 2, 1) := by decide +kernel
theorem dc_L_law_589 : decode code 589 = .ok (.invokevirtual 101, 3) := by decide +kernel
theorem dc_L_law_592 : decode code 592 = .ok (.if_icmp .eq 494, 3) := by decide +kernel
theorem dc_L_law_595 : decode code 595 = .ok (.iconst 0, 1) := by decide +kernel
theorem dc_L_law_597 : decode code 597 = .ok (.aload_n 1, 1) := by decide +kernel
theorem dc_L_law_598 : decode code 598 = .ok (.aload_n 0, 1) := by decide +kernel
theorem dc_L_law_599 : decode code 599 = .ok (.iload 4, 2) := by decide +kernel
theorem dc_L_law_601 : decode code 601 = .ok (.iconst 1, 1) := by decide +kernel
theorem dc_L_law_602 : decode code 602 = .ok (.iadd, 1) := by decide +kernel
theorem dc_L_law_603 : decode code 603 = .ok (.iaload, 1) := by decide +kernel
theorem dc_L_law_604 : decode code 604 = .ok (.aload_n 3, 1) := by decide +kernel
theorem dc_L_law_605 : decode code 605 = .ok (.invokestatic 102, 3) := by decide +kernel
theorem dc_L_law_608 : decode code 608 = .ok (.istore 5, 2) := by decide +kernel
theorem dc_L_law_610 : decode code 610 = .ok (.aload_n 2, 1) := by decide +kernel
theorem dc_L_law_611 : decode code 611 = .ok (.aload_n 0, 1) := by decide +kernel
theorem dc_L_law_612 : decode code 612 = .ok (.iload 4, 2) := by decide +kernel
theorem dc_L_law_614 : decode code 614 = .ok (.iconst 1, 1) := by decide +kernel
theorem dc_L_law_615 : decode code 615 = .ok (.iadd, 1) := by decide +kernel
theorem dc_L_law_616 : decode code 616 = .ok (.iaload, 1) := by decide +kernel
theorem dc_L_law_617 : decode code 617 = .ok (.invokevirtual 104, 3) := by decide +kernel
theorem dc_L_law_620 : decode code 620 = .ok (.istore 6, 2) := by decide +kernel
theorem dc_L_law_622 : decode code 622 = .ok (.aload_n 2, 1) := by decide +kernel
theorem dc_L_law_623 : decode code 623 = .ok (.invokevirtual 76, 3) := by decide +kernel
theorem dc_L_law_626 : decode code 626 = .ok (.iload 5, 2) := by decide +kernel
theorem dc_L_law_628 : decode code 628 = .ok (.if_icmp .eq 5, 3) := by decide +kernel
theorem dc_L_law_633 : decode code 633 = .ok (.iload 5, 2) := by decide +kernel
theorem dc_L_law_635 : decode code 635 = .ok (.ifCond .ne 15, 3) := by decide +kernel
theorem dc_L_law_650 : decode code 650 = .ok (.goto 436, 3) := by decide +kernel
theorem dc_L_law_638 : decode code 638 = .ok (.aload_n 3, 1) := by decide +kernel
theorem dc_L_law_639 : decode code 639 = .ok (.iconst 0, 1) := by decide +kernel
theorem dc_L_law_640 : decode code 640 = .ok (.laload, 1) := by decide +kernel
theorem dc_L_law_641 : decode code 641 = .ok (.iload 6, 2) := by decide +kernel
theorem dc_L_law_643 : decode code 643 = .ok (.i2l, 1) := by decide +kernel
theorem dc_L_law_644 : decode code 644 = .ok (.lcmp, 1) := by decide +kernel
theorem dc_L_law_645 : decode code 645 = .ok (.ifCond .eq 5, 3) := by decide +kernel
theorem dc_L_law_648 : decode code 648 = .ok (.iconst 0, 1) := by decide +kernel
theorem dc_L_law_631 : decode code 631 = .ok (.iconst 0, 1) := by decide +kernel
theorem dc_L_law_653 : decode code 653 = .ok (.aload_n 1, 1) := by decide +kernel
theorem dc_L_law_654 : decode code 654 = .ok (.aload_n 0, 1) := by decide +kernel
theorem dc_L_law_655 : decode code 655 = .ok (.iload 4, 2) := by decide +kernel
theorem dc_L_law_657 : decode code 657 = .ok (.iconst 1, 1) := by decide +kernel
theorem dc_L_law_658 : decode code 658 = .ok (.iadd, 1) := by decide +kernel
theorem dc_L_law_659 : decode code 659 = .ok (.iaload, 1) := by decide +kernel
theorem dc_L_law_660 : decode code 660 = .ok (.aload_n 0, 1) := by decide +kernel
theorem dc_L_law_661 : decode code 661 = .ok (.iload 4, 2) := by decide +kernel
theorem dc_L_law_663 : decode code 663 = .ok (.iconst 2, 1) := by decide +kernel
theorem dc_L_law_664 : decode code 664 = .ok (.iadd, 1) := by decide +kernel
theorem dc_L_law_665 : decode code 665 = .ok (.iaload, 1) := by decide +kernel
theorem dc_L_law_666 : decode code 666 = .ok (.aload_n 3, 1) := by decide +kernel
theorem dc_L_law_667 : decode code 667 = .ok (.invokestatic 105, 3) := by decide +kernel
theorem dc_L_law_670 : decode code 670 = .ok (.istore 5, 2) := by decide +kernel
theorem dc_L_law_672 : decode code 672 = .ok (.aload_n 2, 1) := by decide +kernel
theorem dc_L_law_673 : decode code 673 = .ok (.aload_n 0, 1) := by decide +kernel
theorem dc_L_law_674 : decode code 674 = .ok (.iload 4, 2) := by decide +kernel
theorem dc_L_law_676 : decode code 676 = .ok (.iconst 1, 1) := by decide +kernel
theorem dc_L_law_677 : decode code 677 = .ok (.iadd, 1) := by decide +kernel
theorem dc_L_law_678 : decode code 678 = .ok (.iaload, 1) := by decide +kernel
theorem dc_L_law_679 : decode code 679 = .ok (.aload_n 0, 1) := by decide +kernel
theorem dc_L_law_680 : decode code 680 = .ok (.iload 4, 2) := by decide +kernel
theorem dc_L_law_682 : decode code 682 = .ok (.iconst 2, 1) := by decide +kernel
theorem dc_L_law_683 : decode code 683 = .ok (.iadd, 1) := by decide +kernel
theorem dc_L_law_684 : decode code 684 = .ok (.iaload, 1) := by decide +kernel
theorem dc_L_law_685 : decode code 685 = .ok (.invokevirtual 107, 3) := by decide +kernel
theorem dc_L_law_688 : decode code 688 = .ok (.istore 6, 2) := by decide +kernel
theorem dc_L_law_690 : decode code 690 = .ok (.aload_n 2, 1) := by decide +kernel
theorem dc_L_law_691 : decode code 691 = .ok (.invokevirtual 76, 3) := by decide +kernel
theorem dc_L_law_694 : decode code 694 = .ok (.iload 5, 2) := by decide +kernel
theorem dc_L_law_696 : decode code 696 = .ok (.if_icmp .eq 5, 3) := by decide +kernel
theorem dc_L_law_701 : decode code 701 = .ok (.iload 5, 2) := by decide +kernel
theorem dc_L_law_703 : decode code 703 = .ok (.ifCond .ne 15, 3) := by decide +kernel
theorem dc_L_law_718 : decode code 718 = .ok (.goto 368, 3) := by decide +kernel
theorem dc_L_law_706 : decode code 706 = .ok (.aload_n 3, 1) := by decide +kernel
theorem dc_L_law_707 : decode code 707 = .ok (.iconst 0, 1) := by decide +kernel
theorem dc_L_law_708 : decode code 708 = .ok (.laload, 1) := by decide +kernel
theorem dc_L_law_709 : decode code 709 = .ok (.iload 6, 2) := by decide +kernel
theorem dc_L_law_711 : decode code 711 = .ok (.i2l, 1) := by decide +kernel
theorem dc_L_law_712 : decode code 712 = .ok (.lcmp, 1) := by decide +kernel
theorem dc_L_law_713 : decode code 713 = .ok (.ifCond .eq 5, 3) := by decide +kernel
theorem dc_L_law_716 : decode code 716 = .ok (.iconst 0, 1) := by decide +kernel
theorem dc_L_law_699 : decode code 699 = .ok (.iconst 0, 1) := by decide +kernel
theorem dc_L_law_721 : decode code 721 = .ok (.aload_n 1, 1) := by decide +kernel
theorem dc_L_law_722 : decode code 722 = .ok (.aload_n 0, 1) := by decide +kernel
theorem dc_L_law_723 : decode code 723 = .ok (.iload 4, 2) := by decide +kernel
theorem dc_L_law_725 : decode code 725 = .ok (.iconst 1, 1) := by decide +kernel
theorem dc_L_law_726 : decode code 726 = .ok (.iadd, 1) := by decide +kernel
theorem dc_L_law_727 : decode code 727 = .ok (.iaload, 1) := by decide +kernel
theorem dc_L_law_728 : decode code 728 = .ok (.aload_n 0, 1) := by decide +kernel
theorem dc_L_law_729 : decode code 729 = .ok (.iload 4, 2) := by decide +kernel
theorem dc_L_law_731 : decode code 731 = .ok (.iconst 2, 1) := by decide +kernel
theorem dc_L_law_732 : decode code 732 = .ok (.iadd, 1) := by decide +kernel
theorem dc_L_law_733 : decode code 733 = .ok (.iaload, 1) := by decide +kernel
theorem dc_L_law_734 : decode code 734 = .ok (.aload_n 3, 1) := by decide +kernel
theorem dc_L_law_735 : decode code 735 = .ok (.invokestatic 108, 3) := by decide +kernel
theorem dc_L_law_738 : decode code 738 = .ok (.istore 5, 2) := by decide +kernel
theorem dc_L_law_740 : decode code 740 = .ok (.aload_n 2, 1) := by decide +kernel
theorem dc_L_law_741 : decode code 741 = .ok (.aload_n 0, 1) := by decide +kernel
theorem dc_L_law_742 : decode code 742 = .ok (.iload 4, 2) := by decide +kernel
theorem dc_L_law_744 : decode code 744 = .ok (.iconst 1, 1) := by decide +kernel
theorem dc_L_law_745 : decode code 745 = .ok (.iadd, 1) := by decide +kernel
theorem dc_L_law_746 : decode code 746 = .ok (.iaload, 1) := by decide +kernel
theorem dc_L_law_747 : decode code 747 = .ok (.aload_n 0, 1) := by decide +kernel
theorem dc_L_law_748 : decode code 748 = .ok (.iload 4, 2) := by decide +kernel
theorem dc_L_law_750 : decode code 750 = .ok (.iconst 2, 1) := by decide +kernel
theorem dc_L_law_751 : decode code 751 = .ok (.iadd, 1) := by decide +kernel
theorem dc_L_law_752 : decode code 752 = .ok (.iaload, 1) := by decide +kernel
theorem dc_L_law_753 : decode code 753 = .ok (.invokevirtual 110, 3) := by decide +kernel
theorem dc_L_law_756 : decode code 756 = .ok (.istore 6, 2) := by decide +kernel
theorem dc_L_law_758 : decode code 758 = .ok (.aload_n 2, 1) := by decide +kernel
theorem dc_L_law_759 : decode code 759 = .ok (.invokevirtual 76, 3) := by decide +kernel
theorem dc_L_law_762 : decode code 762 = .ok (.iload 5, 2) := by decide +kernel
theorem dc_L_law_764 : decode code 764 = .ok (.if_icmp .eq 5, 3) := by decide +kernel
theorem dc_L_law_769 : decode code 769 = .ok (.iload 5, 2) := by decide +kernel
theorem dc_L_law_771 : decode code 771 = .ok (.ifCond .ne 15, 3) := by decide +kernel
theorem dc_L_law_786 : decode code 786 = .ok (.goto 300, 3) := by decide +kernel
theorem dc_L_law_774 : decode code 774 = .ok (.aload_n 3, 1) := by decide +kernel
theorem dc_L_law_775 : decode code 775 = .ok (.iconst 0, 1) := by decide +kernel
theorem dc_L_law_776 : decode code 776 = .ok (.laload, 1) := by decide +kernel
theorem dc_L_law_777 : decode code 777 = .ok (.iload 6, 2) := by decide +kernel
theorem dc_L_law_779 : decode code 779 = .ok (.i2l, 1) := by decide +kernel
theorem dc_L_law_780 : decode code 780 = .ok (.lcmp, 1) := by decide +kernel
theorem dc_L_law_781 : decode code 781 = .ok (.ifCond .eq 5, 3) := by decide +kernel
theorem dc_L_law_784 : decode code 784 = .ok (.iconst 0, 1) := by decide +kernel
theorem dc_L_law_767 : decode code 767 = .ok (.iconst 0, 1) := by decide +kernel
theorem dc_L_law_789 : decode code 789 = .ok (.aload_n 1, 1) := by decide +kernel
theorem dc_L_law_790 : decode code 790 = .ok (.aload_n 0, 1) := by decide +kernel
theorem dc_L_law_791 : decode code 791 = .ok (.iload 4, 2) := by decide +kernel
theorem dc_L_law_793 : decode code 793 = .ok (.iconst 1, 1) := by decide +kernel
theorem dc_L_law_794 : decode code 794 = .ok (.iadd, 1) := by decide +kernel
theorem dc_L_law_795 : decode code 795 = .ok (.iaload, 1) := by decide +kernel
theorem dc_L_law_796 : decode code 796 = .ok (.aload_n 0, 1) := by decide +kernel
theorem dc_L_law_797 : decode code 797 = .ok (.iload 4, 2) := by decide +kernel
theorem dc_L_law_799 : decode code 799 = .ok (.iconst 2, 1) := by decide +kernel
theorem dc_L_law_800 : decode code 800 = .ok (.iadd, 1) := by decide +kernel
theorem dc_L_law_801 : decode code 801 = .ok (.iaload, 1) := by decide +kernel
theorem dc_L_law_802 : decode code 802 = .ok (.aload_n 3, 1) := by decide +kernel
theorem dc_L_law_803 : decode code 803 = .ok (.invokestatic 111, 3) := by decide +kernel
theorem dc_L_law_806 : decode code 806 = .ok (.istore 5, 2) := by decide +kernel
theorem dc_L_law_808 : decode code 808 = .ok (.aload_n 2, 1) := by decide +kernel
theorem dc_L_law_809 : decode code 809 = .ok (.aload_n 0, 1) := by decide +kernel
theorem dc_L_law_810 : decode code 810 = .ok (.iload 4, 2) := by decide +kernel
theorem dc_L_law_812 : decode code 812 = .ok (.iconst 1, 1) := by decide +kernel
theorem dc_L_law_813 : decode code 813 = .ok (.iadd, 1) := by decide +kernel
theorem dc_L_law_814 : decode code 814 = .ok (.iaload, 1) := by decide +kernel
theorem dc_L_law_815 : decode code 815 = .ok (.aload_n 0, 1) := by decide +kernel
theorem dc_L_law_816 : decode code 816 = .ok (.iload 4, 2) := by decide +kernel
theorem dc_L_law_818 : decode code 818 = .ok (.iconst 2, 1) := by decide +kernel
theorem dc_L_law_819 : decode code 819 = .ok (.iadd, 1) := by decide +kernel
theorem dc_L_law_820 : decode code 820 = .ok (.iaload, 1) := by decide +kernel
theorem dc_L_law_821 : decode code 821 = .ok (.invokevirtual 113, 3) := by decide +kernel
theorem dc_L_law_824 : decode code 824 = .ok (.istore 6, 2) := by decide +kernel
theorem dc_L_law_826 : decode code 826 = .ok (.aload_n 2, 1) := by decide +kernel
