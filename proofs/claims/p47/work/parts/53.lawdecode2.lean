/-! The law's own body, decoded: the second half. -/
theorem dL_law_448 : decode cL_law 448 = .ok (.bipush 13, 2) := by decide +kernel
theorem dL_law_450 : decode cL_law 450 = .ok (.ishr, 1) := by decide +kernel
theorem dL_law_451 : decode cL_law 451 = .ok (.iconst 2, 1) := by decide +kernel
theorem dL_law_452 : decode cL_law 452 = .ok (.invokestatic 138, 3) := by decide +kernel
theorem dL_law_455 : decode cL_law 455 = .ok (.invokestatic 149, 3) := by decide +kernel
theorem dL_law_458 : decode cL_law 458 = .ok (.istore 13, 2) := by decide +kernel
theorem dL_law_460 : decode cL_law 460 = .ok (.goto 134, 3) := by decide +kernel
theorem dL_law_463 : decode cL_law 463 = .ok (.iload 9, 2) := by decide +kernel
theorem dL_law_465 : decode cL_law 465 = .ok (.bipush 27, 2) := by decide +kernel
theorem dL_law_467 : decode cL_law 467 = .ok (.if_icmp .ge 17, 3) := by decide +kernel
theorem dL_law_470 : decode cL_law 470 = .ok (.aload_n 1, 1) := by decide +kernel
theorem dL_law_471 : decode cL_law 471 = .ok (.bipush 9, 2) := by decide +kernel
theorem dL_law_473 : decode cL_law 473 = .ok (.iload 7, 2) := by decide +kernel
theorem dL_law_475 : decode cL_law 475 = .ok (.iconst 0, 1) := by decide +kernel
theorem dL_law_476 : decode cL_law 476 = .ok (.invokestatic 149, 3) := by decide +kernel
theorem dL_law_479 : decode cL_law 479 = .ok (.istore 13, 2) := by decide +kernel
theorem dL_law_481 : decode cL_law 481 = .ok (.goto 113, 3) := by decide +kernel
theorem dL_law_484 : decode cL_law 484 = .ok (.iload 9, 2) := by decide +kernel
theorem dL_law_486 : decode cL_law 486 = .ok (.bipush 29, 2) := by decide +kernel
theorem dL_law_488 : decode cL_law 488 = .ok (.if_icmp .ge 23, 3) := by decide +kernel
theorem dL_law_491 : decode cL_law 491 = .ok (.aload_n 1, 1) := by decide +kernel
theorem dL_law_492 : decode cL_law 492 = .ok (.iconst (-1), 1) := by decide +kernel
theorem dL_law_493 : decode cL_law 493 = .ok (.iload 7, 2) := by decide +kernel
theorem dL_law_495 : decode cL_law 495 = .ok (.iload 6, 2) := by decide +kernel
theorem dL_law_497 : decode cL_law 497 = .ok (.bipush 7, 2) := by decide +kernel
theorem dL_law_499 : decode cL_law 499 = .ok (.ishr, 1) := by decide +kernel
theorem dL_law_500 : decode cL_law 500 = .ok (.invokestatic 178, 3) := by decide +kernel
theorem dL_law_503 : decode cL_law 503 = .ok (.invokestatic 181, 3) := by decide +kernel
theorem dL_law_506 : decode cL_law 506 = .ok (.istore 13, 2) := by decide +kernel
theorem dL_law_508 : decode cL_law 508 = .ok (.goto 86, 3) := by decide +kernel
theorem dL_law_511 : decode cL_law 511 = .ok (.iload 9, 2) := by decide +kernel
theorem dL_law_513 : decode cL_law 513 = .ok (.bipush 29, 2) := by decide +kernel
theorem dL_law_515 : decode cL_law 515 = .ok (.if_icmp .ne 25, 3) := by decide +kernel
theorem dL_law_518 : decode cL_law 518 = .ok (.aload_n 1, 1) := by decide +kernel
theorem dL_law_519 : decode cL_law 519 = .ok (.iconst 0, 1) := by decide +kernel
theorem dL_law_520 : decode cL_law 520 = .ok (.iconst 1, 1) := by decide +kernel
theorem dL_law_521 : decode cL_law 521 = .ok (.iload 6, 2) := by decide +kernel
theorem dL_law_523 : decode cL_law 523 = .ok (.bipush 13, 2) := by decide +kernel
theorem dL_law_525 : decode cL_law 525 = .ok (.ishr, 1) := by decide +kernel
theorem dL_law_526 : decode cL_law 526 = .ok (.iconst 5, 1) := by decide +kernel
theorem dL_law_527 : decode cL_law 527 = .ok (.invokestatic 138, 3) := by decide +kernel
theorem dL_law_530 : decode cL_law 530 = .ok (.iadd, 1) := by decide +kernel
theorem dL_law_531 : decode cL_law 531 = .ok (.iconst 0, 1) := by decide +kernel
theorem dL_law_532 : decode cL_law 532 = .ok (.invokestatic 149, 3) := by decide +kernel
theorem dL_law_535 : decode cL_law 535 = .ok (.istore 13, 2) := by decide +kernel
theorem dL_law_537 : decode cL_law 537 = .ok (.goto 57, 3) := by decide +kernel
theorem dL_law_540 : decode cL_law 540 = .ok (.aload_n 1, 1) := by decide +kernel
theorem dL_law_541 : decode cL_law 541 = .ok (.iload 9, 2) := by decide +kernel
theorem dL_law_543 : decode cL_law 543 = .ok (.bipush 30, 2) := by decide +kernel
theorem dL_law_545 : decode cL_law 545 = .ok (.if_icmp .ne 8, 3) := by decide +kernel
theorem dL_law_548 : decode cL_law 548 = .ok (.bipush 23, 2) := by decide +kernel
theorem dL_law_550 : decode cL_law 550 = .ok (.goto 5, 3) := by decide +kernel
theorem dL_law_553 : decode cL_law 553 = .ok (.bipush 24, 2) := by decide +kernel
theorem dL_law_555 : decode cL_law 555 = .ok (.iload 9, 2) := by decide +kernel
theorem dL_law_557 : decode cL_law 557 = .ok (.bipush 30, 2) := by decide +kernel
theorem dL_law_559 : decode cL_law 559 = .ok (.if_icmp .ne 8, 3) := by decide +kernel
theorem dL_law_562 : decode cL_law 562 = .ok (.iload 7, 2) := by decide +kernel
theorem dL_law_564 : decode cL_law 564 = .ok (.goto 12, 3) := by decide +kernel
theorem dL_law_567 : decode cL_law 567 = .ok (.iload 6, 2) := by decide +kernel
theorem dL_law_569 : decode cL_law 569 = .ok (.bipush 13, 2) := by decide +kernel
theorem dL_law_571 : decode cL_law 571 = .ok (.ishr, 1) := by decide +kernel
theorem dL_law_572 : decode cL_law 572 = .ok (.iconst 2, 1) := by decide +kernel
theorem dL_law_573 : decode cL_law 573 = .ok (.invokestatic 138, 3) := by decide +kernel
theorem dL_law_576 : decode cL_law 576 = .ok (.iconst 1, 1) := by decide +kernel
theorem dL_law_577 : decode cL_law 577 = .ok (.iload 6, 2) := by decide +kernel
theorem dL_law_579 : decode cL_law 579 = .ok (.bipush 13, 2) := by decide +kernel
theorem dL_law_581 : decode cL_law 581 = .ok (.ishr, 1) := by decide +kernel
theorem dL_law_582 : decode cL_law 582 = .ok (.sipush 500, 3) := by decide +kernel
theorem dL_law_585 : decode cL_law 585 = .ok (.invokestatic 138, 3) := by decide +kernel
theorem dL_law_588 : decode cL_law 588 = .ok (.iadd, 1) := by decide +kernel
theorem dL_law_589 : decode cL_law 589 = .ok (.invokestatic 149, 3) := by decide +kernel
theorem dL_law_592 : decode cL_law 592 = .ok (.istore 13, 2) := by decide +kernel
theorem dL_law_594 : decode cL_law 594 = .ok (.iload 13, 2) := by decide +kernel
theorem dL_law_596 : decode cL_law 596 = .ok (.ifCond .ge 15, 3) := by decide +kernel
theorem dL_law_599 : decode cL_law 599 = .ok (.aload_n 1, 1) := by decide +kernel
theorem dL_law_600 : decode cL_law 600 = .ok (.iload 4, 2) := by decide +kernel
theorem dL_law_602 : decode cL_law 602 = .ok (.invokestatic 174, 3) := by decide +kernel
theorem dL_law_605 : decode cL_law 605 = .ok (.lload 10, 2) := by decide +kernel
theorem dL_law_607 : decode cL_law 607 = .ok (.lcmp, 1) := by decide +kernel
theorem dL_law_608 : decode cL_law 608 = .ok (.ifCond .ne 14, 3) := by decide +kernel
theorem dL_law_611 : decode cL_law 611 = .ok (.aload_n 1, 1) := by decide +kernel
theorem dL_law_612 : decode cL_law 612 = .ok (.aload_n 2, 1) := by decide +kernel
theorem dL_law_613 : decode cL_law 613 = .ok (.aload_n 3, 1) := by decide +kernel
theorem dL_law_614 : decode cL_law 614 = .ok (.iload 4, 2) := by decide +kernel
theorem dL_law_616 : decode cL_law 616 = .ok (.invokestatic 183, 3) := by decide +kernel
theorem dL_law_619 : decode cL_law 619 = .ok (.ifCond .ne 5, 3) := by decide +kernel
theorem dL_law_622 : decode cL_law 622 = .ok (.iconst 0, 1) := by decide +kernel
theorem dL_law_623 : decode cL_law 623 = .ok (.ireturn, 1) := by decide +kernel
theorem dL_law_624 : decode cL_law 624 = .ok (.iinc 5 1, 3) := by decide +kernel
theorem dL_law_627 : decode cL_law 627 = .ok (.goto (-455), 3) := by decide +kernel
theorem dL_law_630 : decode cL_law 630 = .ok (.aload_n 1, 1) := by decide +kernel
theorem dL_law_631 : decode cL_law 631 = .ok (.invokevirtual 165, 3) := by decide +kernel
theorem dL_law_634 : decode cL_law 634 = .ok (.ifCond .eq 263, 3) := by decide +kernel
theorem dL_law_637 : decode cL_law 637 = .ok (.sipush 150, 3) := by decide +kernel
theorem dL_law_640 : decode cL_law 640 = .ok (.newarray .int, 2) := by decide +kernel
theorem dL_law_642 : decode cL_law 642 = .ok (.astore 5, 2) := by decide +kernel
theorem dL_law_644 : decode cL_law 644 = .ok (.bipush 12, 2) := by decide +kernel
theorem dL_law_646 : decode cL_law 646 = .ok (.newarray .int, 2) := by decide +kernel
theorem dL_law_648 : decode cL_law 648 = .ok (.astore 6, 2) := by decide +kernel
theorem dL_law_650 : decode cL_law 650 = .ok (.iconst 0, 1) := by decide +kernel
theorem dL_law_651 : decode cL_law 651 = .ok (.istore 7, 2) := by decide +kernel
theorem dL_law_653 : decode cL_law 653 = .ok (.iload 7, 2) := by decide +kernel
theorem dL_law_655 : decode cL_law 655 = .ok (.aload_n 1, 1) := by decide +kernel
theorem dL_law_656 : decode cL_law 656 = .ok (.invokevirtual 153, 3) := by decide +kernel
theorem dL_law_659 : decode cL_law 659 = .ok (.if_icmp .ge 23, 3) := by decide +kernel
theorem dL_law_662 : decode cL_law 662 = .ok (.aload 5, 2) := by decide +kernel
theorem dL_law_664 : decode cL_law 664 = .ok (.iload 7, 2) := by decide +kernel
theorem dL_law_666 : decode cL_law 666 = .ok (.aload_n 1, 1) := by decide +kernel
theorem dL_law_667 : decode cL_law 667 = .ok (.bipush 12, 2) := by decide +kernel
theorem dL_law_669 : decode cL_law 669 = .ok (.iload 7, 2) := by decide +kernel
theorem dL_law_671 : decode cL_law 671 = .ok (.iconst 0, 1) := by decide +kernel
theorem dL_law_672 : decode cL_law 672 = .ok (.invokestatic 149, 3) := by decide +kernel
theorem dL_law_675 : decode cL_law 675 = .ok (.iastore, 1) := by decide +kernel
theorem dL_law_676 : decode cL_law 676 = .ok (.iinc 7 1, 3) := by decide +kernel
theorem dL_law_679 : decode cL_law 679 = .ok (.goto (-26), 3) := by decide +kernel
theorem dL_law_682 : decode cL_law 682 = .ok (.iconst 0, 1) := by decide +kernel
theorem dL_law_683 : decode cL_law 683 = .ok (.istore 7, 2) := by decide +kernel
theorem dL_law_685 : decode cL_law 685 = .ok (.iload 7, 2) := by decide +kernel
theorem dL_law_687 : decode cL_law 687 = .ok (.aload_n 1, 1) := by decide +kernel
theorem dL_law_688 : decode cL_law 688 = .ok (.invokevirtual 143, 3) := by decide +kernel
theorem dL_law_691 : decode cL_law 691 = .ok (.if_icmp .ge 23, 3) := by decide +kernel
theorem dL_law_694 : decode cL_law 694 = .ok (.aload 6, 2) := by decide +kernel
theorem dL_law_696 : decode cL_law 696 = .ok (.iload 7, 2) := by decide +kernel
theorem dL_law_698 : decode cL_law 698 = .ok (.aload_n 1, 1) := by decide +kernel
theorem dL_law_699 : decode cL_law 699 = .ok (.bipush 17, 2) := by decide +kernel
theorem dL_law_701 : decode cL_law 701 = .ok (.iload 7, 2) := by decide +kernel
theorem dL_law_703 : decode cL_law 703 = .ok (.iconst 0, 1) := by decide +kernel
theorem dL_law_704 : decode cL_law 704 = .ok (.invokestatic 149, 3) := by decide +kernel
theorem dL_law_707 : decode cL_law 707 = .ok (.iastore, 1) := by decide +kernel
theorem dL_law_708 : decode cL_law 708 = .ok (.iinc 7 1, 3) := by decide +kernel
theorem dL_law_711 : decode cL_law 711 = .ok (.goto (-26), 3) := by decide +kernel
theorem dL_law_714 : decode cL_law 714 = .ok (.bipush 21, 2) := by decide +kernel
theorem dL_law_716 : decode cL_law 716 = .ok (.aload_n 1, 1) := by decide +kernel
theorem dL_law_717 : decode cL_law 717 = .ok (.invokevirtual 156, 3) := by decide +kernel
theorem dL_law_720 : decode cL_law 720 = .ok (.isub, 1) := by decide +kernel
theorem dL_law_721 : decode cL_law 721 = .ok (.istore 7, 2) := by decide +kernel
theorem dL_law_723 : decode cL_law 723 = .ok (.aload_n 1, 1) := by decide +kernel
theorem dL_law_724 : decode cL_law 724 = .ok (.iconst 0, 1) := by decide +kernel
theorem dL_law_725 : decode cL_law 725 = .ok (.iload 7, 2) := by decide +kernel
theorem dL_law_727 : decode cL_law 727 = .ok (.iconst 0, 1) := by decide +kernel
theorem dL_law_728 : decode cL_law 728 = .ok (.invokestatic 149, 3) := by decide +kernel
theorem dL_law_731 : decode cL_law 731 = .ok (.bipush 21, 2) := by decide +kernel
theorem dL_law_733 : decode cL_law 733 = .ok (.if_icmp .ne 10, 3) := by decide +kernel
theorem dL_law_736 : decode cL_law 736 = .ok (.aload_n 1, 1) := by decide +kernel
theorem dL_law_737 : decode cL_law 737 = .ok (.invokevirtual 165, 3) := by decide +kernel
theorem dL_law_740 : decode cL_law 740 = .ok (.ifCond .eq 5, 3) := by decide +kernel
theorem dL_law_743 : decode cL_law 743 = .ok (.iconst 0, 1) := by decide +kernel
theorem dL_law_744 : decode cL_law 744 = .ok (.ireturn, 1) := by decide +kernel
theorem dL_law_745 : decode cL_law 745 = .ok (.iconst 0, 1) := by decide +kernel
theorem dL_law_746 : decode cL_law 746 = .ok (.istore 8, 2) := by decide +kernel
theorem dL_law_748 : decode cL_law 748 = .ok (.iload 8, 2) := by decide +kernel
theorem dL_law_750 : decode cL_law 750 = .ok (.iload 4, 2) := by decide +kernel
theorem dL_law_752 : decode cL_law 752 = .ok (.if_icmp .ge 38, 3) := by decide +kernel
theorem dL_law_755 : decode cL_law 755 = .ok (.aload_n 1, 1) := by decide +kernel
theorem dL_law_756 : decode cL_law 756 = .ok (.aload_n 0, 1) := by decide +kernel
theorem dL_law_757 : decode cL_law 757 = .ok (.bipush 100, 2) := by decide +kernel
theorem dL_law_759 : decode cL_law 759 = .ok (.iload 8, 2) := by decide +kernel
theorem dL_law_761 : decode cL_law 761 = .ok (.iadd, 1) := by decide +kernel
theorem dL_law_762 : decode cL_law 762 = .ok (.invokestatic 170, 3) := by decide +kernel
theorem dL_law_765 : decode cL_law 765 = .ok (.iconst 2, 1) := by decide +kernel
theorem dL_law_766 : decode cL_law 766 = .ok (.invokestatic 138, 3) := by decide +kernel
theorem dL_law_769 : decode cL_law 769 = .ok (.ifCond .ne 7, 3) := by decide +kernel
theorem dL_law_772 : decode cL_law 772 = .ok (.iconst 4, 1) := by decide +kernel
theorem dL_law_773 : decode cL_law 773 = .ok (.goto 4, 3) := by decide +kernel
theorem dL_law_776 : decode cL_law 776 = .ok (.iconst 3, 1) := by decide +kernel
theorem dL_law_777 : decode cL_law 777 = .ok (.iload 8, 2) := by decide +kernel
theorem dL_law_779 : decode cL_law 779 = .ok (.iconst 0, 1) := by decide +kernel
theorem dL_law_780 : decode cL_law 780 = .ok (.invokestatic 149, 3) := by decide +kernel
theorem dL_law_783 : decode cL_law 783 = .ok (.pop, 1) := by decide +kernel
theorem dL_law_784 : decode cL_law 784 = .ok (.iinc 8 1, 3) := by decide +kernel
theorem dL_law_787 : decode cL_law 787 = .ok (.goto (-39), 3) := by decide +kernel
theorem dL_law_790 : decode cL_law 790 = .ok (.iconst 0, 1) := by decide +kernel
theorem dL_law_791 : decode cL_law 791 = .ok (.istore 8, 2) := by decide +kernel
theorem dL_law_793 : decode cL_law 793 = .ok (.iload 8, 2) := by decide +kernel
theorem dL_law_795 : decode cL_law 795 = .ok (.aload_n 1, 1) := by decide +kernel
theorem dL_law_796 : decode cL_law 796 = .ok (.invokevirtual 153, 3) := by decide +kernel
theorem dL_law_799 : decode cL_law 799 = .ok (.if_icmp .ge 47, 3) := by decide +kernel
theorem dL_law_802 : decode cL_law 802 = .ok (.aload_n 1, 1) := by decide +kernel
theorem dL_law_803 : decode cL_law 803 = .ok (.bipush 12, 2) := by decide +kernel
theorem dL_law_805 : decode cL_law 805 = .ok (.iload 8, 2) := by decide +kernel
theorem dL_law_807 : decode cL_law 807 = .ok (.iconst 0, 1) := by decide +kernel
theorem dL_law_808 : decode cL_law 808 = .ok (.invokestatic 149, 3) := by decide +kernel
theorem dL_law_811 : decode cL_law 811 = .ok (.aload 5, 2) := by decide +kernel
theorem dL_law_813 : decode cL_law 813 = .ok (.iload 8, 2) := by decide +kernel
theorem dL_law_815 : decode cL_law 815 = .ok (.iaload, 1) := by decide +kernel
theorem dL_law_816 : decode cL_law 816 = .ok (.if_icmp .ne 22, 3) := by decide +kernel
theorem dL_law_819 : decode cL_law 819 = .ok (.aload_n 1, 1) := by decide +kernel
theorem dL_law_820 : decode cL_law 820 = .ok (.bipush 6, 2) := by decide +kernel
theorem dL_law_822 : decode cL_law 822 = .ok (.aload_n 2, 1) := by decide +kernel
theorem dL_law_823 : decode cL_law 823 = .ok (.iload 8, 2) := by decide +kernel
theorem dL_law_825 : decode cL_law 825 = .ok (.iaload, 1) := by decide +kernel
theorem dL_law_826 : decode cL_law 826 = .ok (.aload_n 3, 1) := by decide +kernel
theorem dL_law_827 : decode cL_law 827 = .ok (.iload 8, 2) := by decide +kernel
theorem dL_law_829 : decode cL_law 829 = .ok (.iaload, 1) := by decide +kernel
theorem dL_law_830 : decode cL_law 830 = .ok (.invokestatic 149, 3) := by decide +kernel
theorem dL_law_833 : decode cL_law 833 = .ok (.bipush (-103), 2) := by decide +kernel
theorem dL_law_835 : decode cL_law 835 = .ok (.if_icmp .eq 5, 3) := by decide +kernel
theorem dL_law_838 : decode cL_law 838 = .ok (.iconst 0, 1) := by decide +kernel
theorem dL_law_839 : decode cL_law 839 = .ok (.ireturn, 1) := by decide +kernel
theorem dL_law_840 : decode cL_law 840 = .ok (.iinc 8 1, 3) := by decide +kernel
theorem dL_law_843 : decode cL_law 843 = .ok (.goto (-50), 3) := by decide +kernel
theorem dL_law_846 : decode cL_law 846 = .ok (.iconst 0, 1) := by decide +kernel
theorem dL_law_847 : decode cL_law 847 = .ok (.istore 8, 2) := by decide +kernel
theorem dL_law_849 : decode cL_law 849 = .ok (.iload 8, 2) := by decide +kernel
theorem dL_law_851 : decode cL_law 851 = .ok (.aload_n 1, 1) := by decide +kernel
theorem dL_law_852 : decode cL_law 852 = .ok (.invokevirtual 143, 3) := by decide +kernel
theorem dL_law_855 : decode cL_law 855 = .ok (.if_icmp .ge 42, 3) := by decide +kernel
theorem dL_law_858 : decode cL_law 858 = .ok (.aload_n 1, 1) := by decide +kernel
theorem dL_law_859 : decode cL_law 859 = .ok (.bipush 17, 2) := by decide +kernel
theorem dL_law_861 : decode cL_law 861 = .ok (.iload 8, 2) := by decide +kernel
theorem dL_law_863 : decode cL_law 863 = .ok (.iconst 0, 1) := by decide +kernel
theorem dL_law_864 : decode cL_law 864 = .ok (.invokestatic 149, 3) := by decide +kernel
theorem dL_law_867 : decode cL_law 867 = .ok (.aload 6, 2) := by decide +kernel
theorem dL_law_869 : decode cL_law 869 = .ok (.iload 8, 2) := by decide +kernel
theorem dL_law_871 : decode cL_law 871 = .ok (.iaload, 1) := by decide +kernel
theorem dL_law_872 : decode cL_law 872 = .ok (.if_icmp .ne 17, 3) := by decide +kernel
theorem dL_law_875 : decode cL_law 875 = .ok (.aload_n 1, 1) := by decide +kernel
theorem dL_law_876 : decode cL_law 876 = .ok (.bipush 7, 2) := by decide +kernel
theorem dL_law_878 : decode cL_law 878 = .ok (.iload 8, 2) := by decide +kernel
theorem dL_law_880 : decode cL_law 880 = .ok (.iconst 5, 1) := by decide +kernel
theorem dL_law_881 : decode cL_law 881 = .ok (.invokestatic 149, 3) := by decide +kernel
theorem dL_law_884 : decode cL_law 884 = .ok (.bipush (-103), 2) := by decide +kernel
theorem dL_law_886 : decode cL_law 886 = .ok (.if_icmp .eq 5, 3) := by decide +kernel
theorem dL_law_889 : decode cL_law 889 = .ok (.iconst 0, 1) := by decide +kernel
theorem dL_law_890 : decode cL_law 890 = .ok (.ireturn, 1) := by decide +kernel
theorem dL_law_891 : decode cL_law 891 = .ok (.iinc 8 1, 3) := by decide +kernel
theorem dL_law_894 : decode cL_law 894 = .ok (.goto (-45), 3) := by decide +kernel
theorem dL_law_897 : decode cL_law 897 = .ok (.aload_n 1, 1) := by decide +kernel
theorem dL_law_898 : decode cL_law 898 = .ok (.aload_n 2, 1) := by decide +kernel
theorem dL_law_899 : decode cL_law 899 = .ok (.aload_n 3, 1) := by decide +kernel
theorem dL_law_900 : decode cL_law 900 = .ok (.iload 4, 2) := by decide +kernel
theorem dL_law_902 : decode cL_law 902 = .ok (.invokestatic 183, 3) := by decide +kernel
theorem dL_law_905 : decode cL_law 905 = .ok (.ireturn, 1) := by decide +kernel
