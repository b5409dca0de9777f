theorem rd_Lw_event_514 : decode mb_Lw_event 514 = .ok (.ireturn, 1) := by decide +kernel
theorem rd_Lw_event_515 : decode mb_Lw_event 515 = .ok (.aload 6, 2) := by decide +kernel
theorem rd_Lw_event_517 : decode mb_Lw_event 517 = .ok (.new 54, 3) := by decide +kernel
theorem rd_Lw_event_520 : decode mb_Lw_event 520 = .ok (.dup, 1) := by decide +kernel
theorem rd_Lw_event_521 : decode mb_Lw_event 521 = .ok (.iload 4, 2) := by decide +kernel
theorem rd_Lw_event_523 : decode mb_Lw_event 523 = .ok (.iload 10, 2) := by decide +kernel
theorem rd_Lw_event_525 : decode mb_Lw_event 525 = .ok (.invokespecial 166, 3) := by decide +kernel
theorem rd_Lw_event_528 : decode mb_Lw_event 528 = .ok (.putfield 142, 3) := by decide +kernel
theorem rd_Lw_event_531 : decode mb_Lw_event 531 = .ok (.aload_n 0, 1) := by decide +kernel
theorem rd_Lw_event_532 : decode mb_Lw_event 532 = .ok (.iload 5, 2) := by decide +kernel
theorem rd_Lw_event_534 : decode mb_Lw_event 534 = .ok (.iload 4, 2) := by decide +kernel
theorem rd_Lw_event_536 : decode mb_Lw_event 536 = .ok (.invokevirtual 193, 3) := by decide +kernel
theorem rd_Lw_event_539 : decode mb_Lw_event 539 = .ok (.iload 10, 2) := by decide +kernel
theorem rd_Lw_event_541 : decode mb_Lw_event 541 = .ok (.if_icmp .ne 7, 3) := by decide +kernel
theorem rd_Lw_event_544 : decode mb_Lw_event 544 = .ok (.iconst 1, 1) := by decide +kernel
theorem rd_Lw_event_545 : decode mb_Lw_event 545 = .ok (.goto 4, 3) := by decide +kernel
theorem rd_Lw_event_548 : decode mb_Lw_event 548 = .ok (.iconst 0, 1) := by decide +kernel
theorem rd_Lw_event_549 : decode mb_Lw_event 549 = .ok (.ireturn, 1) := by decide +kernel
theorem rd_Lw_event_550 : decode mb_Lw_event 550 = .ok (.iload_n 2, 1) := by decide +kernel
theorem rd_Lw_event_551 : decode mb_Lw_event 551 = .ok (.bipush 14, 2) := by decide +kernel
theorem rd_Lw_event_553 : decode mb_Lw_event 553 = .ok (.iconst 2, 1) := by decide +kernel
theorem rd_Lw_event_554 : decode mb_Lw_event 554 = .ok (.invokestatic 156, 3) := by decide +kernel
theorem rd_Lw_event_557 : decode mb_Lw_event 557 = .ok (.istore 10, 2) := by decide +kernel
theorem rd_Lw_event_559 : decode mb_Lw_event 559 = .ok (.iload_n 2, 1) := by decide +kernel
theorem rd_Lw_event_560 : decode mb_Lw_event 560 = .ok (.bipush 16, 2) := by decide +kernel
theorem rd_Lw_event_562 : decode mb_Lw_event 562 = .ok (.iconst 4, 1) := by decide +kernel
theorem rd_Lw_event_563 : decode mb_Lw_event 563 = .ok (.invokestatic 156, 3) := by decide +kernel
theorem rd_Lw_event_566 : decode mb_Lw_event 566 = .ok (.bipush 10, 2) := by decide +kernel
theorem rd_Lw_event_568 : decode mb_Lw_event 568 = .ok (.irem, 1) := by decide +kernel
theorem rd_Lw_event_569 : decode mb_Lw_event 569 = .ok (.istore 11, 2) := by decide +kernel
theorem rd_Lw_event_571 : decode mb_Lw_event 571 = .ok (.iload 10, 2) := by decide +kernel
theorem rd_Lw_event_573 : decode mb_Lw_event 573 = .ok (.aload 9, 2) := by decide +kernel
theorem rd_Lw_event_575 : decode mb_Lw_event 575 = .ok (.getfield 90, 3) := by decide +kernel
theorem rd_Lw_event_578 : decode mb_Lw_event 578 = .ok (.if_icmp .ge 21, 3) := by decide +kernel
theorem rd_Lw_event_581 : decode mb_Lw_event 581 = .ok (.aload_n 0, 1) := by decide +kernel
theorem rd_Lw_event_582 : decode mb_Lw_event 582 = .ok (.iload 8, 2) := by decide +kernel
theorem rd_Lw_event_584 : decode mb_Lw_event 584 = .ok (.iload 10, 2) := by decide +kernel
theorem rd_Lw_event_586 : decode mb_Lw_event 586 = .ok (.invokevirtual 111, 3) := by decide +kernel
theorem rd_Lw_event_589 : decode mb_Lw_event 589 = .ok (.iconst (-1), 1) := by decide +kernel
theorem rd_Lw_event_590 : decode mb_Lw_event 590 = .ok (.if_icmp .ne 7, 3) := by decide +kernel
theorem rd_Lw_event_593 : decode mb_Lw_event 593 = .ok (.iconst 1, 1) := by decide +kernel
theorem rd_Lw_event_594 : decode mb_Lw_event 594 = .ok (.goto 4, 3) := by decide +kernel
theorem rd_Lw_event_597 : decode mb_Lw_event 597 = .ok (.iconst 0, 1) := by decide +kernel
theorem rd_Lw_event_598 : decode mb_Lw_event 598 = .ok (.ireturn, 1) := by decide +kernel
theorem rd_Lw_event_599 : decode mb_Lw_event 599 = .ok (.aload 9, 2) := by decide +kernel
theorem rd_Lw_event_601 : decode mb_Lw_event 601 = .ok (.getfield 115, 3) := by decide +kernel
theorem rd_Lw_event_604 : decode mb_Lw_event 604 = .ok (.iload 10, 2) := by decide +kernel
theorem rd_Lw_event_606 : decode mb_Lw_event 606 = .ok (.iaload, 1) := by decide +kernel
theorem rd_Lw_event_607 : decode mb_Lw_event 607 = .ok (.istore 12, 2) := by decide +kernel
theorem rd_Lw_event_609 : decode mb_Lw_event 609 = .ok (.aload 9, 2) := by decide +kernel
theorem rd_Lw_event_611 : decode mb_Lw_event 611 = .ok (.getfield 115, 3) := by decide +kernel
theorem rd_Lw_event_614 : decode mb_Lw_event 614 = .ok (.iload 10, 2) := by decide +kernel
theorem rd_Lw_event_616 : decode mb_Lw_event 616 = .ok (.iload 11, 2) := by decide +kernel
theorem rd_Lw_event_618 : decode mb_Lw_event 618 = .ok (.iastore, 1) := by decide +kernel
theorem rd_Lw_event_619 : decode mb_Lw_event 619 = .ok (.aload_n 0, 1) := by decide +kernel
theorem rd_Lw_event_620 : decode mb_Lw_event 620 = .ok (.iload 8, 2) := by decide +kernel
theorem rd_Lw_event_622 : decode mb_Lw_event 622 = .ok (.iload 10, 2) := by decide +kernel
theorem rd_Lw_event_624 : decode mb_Lw_event 624 = .ok (.iload 11, 2) := by decide +kernel
theorem rd_Lw_event_626 : decode mb_Lw_event 626 = .ok (.invokevirtual 196, 3) := by decide +kernel
theorem rd_Lw_event_629 : decode mb_Lw_event 629 = .ok (.iload 12, 2) := by decide +kernel
theorem rd_Lw_event_631 : decode mb_Lw_event 631 = .ok (.if_icmp .ne 7, 3) := by decide +kernel
theorem rd_Lw_event_634 : decode mb_Lw_event 634 = .ok (.iconst 1, 1) := by decide +kernel
theorem rd_Lw_event_635 : decode mb_Lw_event 635 = .ok (.goto 4, 3) := by decide +kernel
theorem rd_Lw_event_638 : decode mb_Lw_event 638 = .ok (.iconst 0, 1) := by decide +kernel
theorem rd_Lw_event_639 : decode mb_Lw_event 639 = .ok (.ireturn, 1) := by decide +kernel
theorem rd_Lw_event_640 : decode mb_Lw_event 640 = .ok (.iconst 1, 1) := by decide +kernel
theorem rd_Lw_event_641 : decode mb_Lw_event 641 = .ok (.iload_n 2, 1) := by decide +kernel
theorem rd_Lw_event_642 : decode mb_Lw_event 642 = .ok (.bipush 14, 2) := by decide +kernel
theorem rd_Lw_event_644 : decode mb_Lw_event 644 = .ok (.iconst 2, 1) := by decide +kernel
theorem rd_Lw_event_645 : decode mb_Lw_event 645 = .ok (.invokestatic 156, 3) := by decide +kernel
theorem rd_Lw_event_648 : decode mb_Lw_event 648 = .ok (.iadd, 1) := by decide +kernel
theorem rd_Lw_event_649 : decode mb_Lw_event 649 = .ok (.istore 10, 2) := by decide +kernel
theorem rd_Lw_event_651 : decode mb_Lw_event 651 = .ok (.iload 10, 2) := by decide +kernel
theorem rd_Lw_event_653 : decode mb_Lw_event 653 = .ok (.aload 9, 2) := by decide +kernel
theorem rd_Lw_event_655 : decode mb_Lw_event 655 = .ok (.getfield 90, 3) := by decide +kernel
theorem rd_Lw_event_658 : decode mb_Lw_event 658 = .ok (.if_icmp .ge 23, 3) := by decide +kernel
theorem rd_Lw_event_661 : decode mb_Lw_event 661 = .ok (.aload_n 0, 1) := by decide +kernel
theorem rd_Lw_event_662 : decode mb_Lw_event 662 = .ok (.iload 8, 2) := by decide +kernel
theorem rd_Lw_event_664 : decode mb_Lw_event 664 = .ok (.invokevirtual 87, 3) := by decide +kernel
theorem rd_Lw_event_667 : decode mb_Lw_event 667 = .ok (.aload 9, 2) := by decide +kernel
theorem rd_Lw_event_669 : decode mb_Lw_event 669 = .ok (.getfield 90, 3) := by decide +kernel
theorem rd_Lw_event_672 : decode mb_Lw_event 672 = .ok (.if_icmp .ne 7, 3) := by decide +kernel
theorem rd_Lw_event_675 : decode mb_Lw_event 675 = .ok (.iconst 1, 1) := by decide +kernel
theorem rd_Lw_event_676 : decode mb_Lw_event 676 = .ok (.goto 4, 3) := by decide +kernel
theorem rd_Lw_event_679 : decode mb_Lw_event 679 = .ok (.iconst 0, 1) := by decide +kernel
theorem rd_Lw_event_680 : decode mb_Lw_event 680 = .ok (.ireturn, 1) := by decide +kernel
theorem rd_Lw_event_681 : decode mb_Lw_event 681 = .ok (.iconst 0, 1) := by decide +kernel
theorem rd_Lw_event_682 : decode mb_Lw_event 682 = .ok (.istore 11, 2) := by decide +kernel
theorem rd_Lw_event_684 : decode mb_Lw_event 684 = .ok (.aload 9, 2) := by decide +kernel
theorem rd_Lw_event_686 : decode mb_Lw_event 686 = .ok (.getfield 90, 3) := by decide +kernel
theorem rd_Lw_event_689 : decode mb_Lw_event 689 = .ok (.istore 12, 2) := by decide +kernel
theorem rd_Lw_event_691 : decode mb_Lw_event 691 = .ok (.iload 12, 2) := by decide +kernel
theorem rd_Lw_event_693 : decode mb_Lw_event 693 = .ok (.iload 10, 2) := by decide +kernel
theorem rd_Lw_event_695 : decode mb_Lw_event 695 = .ok (.if_icmp .ge 31, 3) := by decide +kernel
theorem rd_Lw_event_698 : decode mb_Lw_event 698 = .ok (.iload 11, 2) := by decide +kernel
theorem rd_Lw_event_700 : decode mb_Lw_event 700 = .ok (.aload 9, 2) := by decide +kernel
theorem rd_Lw_event_702 : decode mb_Lw_event 702 = .ok (.getfield 115, 3) := by decide +kernel
theorem rd_Lw_event_705 : decode mb_Lw_event 705 = .ok (.iload 12, 2) := by decide +kernel
theorem rd_Lw_event_707 : decode mb_Lw_event 707 = .ok (.iaload, 1) := by decide +kernel
theorem rd_Lw_event_708 : decode mb_Lw_event 708 = .ok (.iadd, 1) := by decide +kernel
theorem rd_Lw_event_709 : decode mb_Lw_event 709 = .ok (.istore 11, 2) := by decide +kernel
theorem rd_Lw_event_711 : decode mb_Lw_event 711 = .ok (.aload 9, 2) := by decide +kernel
theorem rd_Lw_event_713 : decode mb_Lw_event 713 = .ok (.getfield 115, 3) := by decide +kernel
theorem rd_Lw_event_716 : decode mb_Lw_event 716 = .ok (.iload 12, 2) := by decide +kernel
theorem rd_Lw_event_718 : decode mb_Lw_event 718 = .ok (.iconst 0, 1) := by decide +kernel
theorem rd_Lw_event_719 : decode mb_Lw_event 719 = .ok (.iastore, 1) := by decide +kernel
theorem rd_Lw_event_720 : decode mb_Lw_event 720 = .ok (.iinc 12 1, 3) := by decide +kernel
theorem rd_Lw_event_723 : decode mb_Lw_event 723 = .ok (.goto (-32), 3) := by decide +kernel
theorem rd_Lw_event_726 : decode mb_Lw_event 726 = .ok (.aload 9, 2) := by decide +kernel
theorem rd_Lw_event_728 : decode mb_Lw_event 728 = .ok (.iload 10, 2) := by decide +kernel
theorem rd_Lw_event_730 : decode mb_Lw_event 730 = .ok (.putfield 90, 3) := by decide +kernel
theorem rd_Lw_event_733 : decode mb_Lw_event 733 = .ok (.aload_n 0, 1) := by decide +kernel
theorem rd_Lw_event_734 : decode mb_Lw_event 734 = .ok (.iload 8, 2) := by decide +kernel
theorem rd_Lw_event_736 : decode mb_Lw_event 736 = .ok (.iload 10, 2) := by decide +kernel
theorem rd_Lw_event_738 : decode mb_Lw_event 738 = .ok (.invokevirtual 199, 3) := by decide +kernel
theorem rd_Lw_event_741 : decode mb_Lw_event 741 = .ok (.iload 11, 2) := by decide +kernel
theorem rd_Lw_event_743 : decode mb_Lw_event 743 = .ok (.if_icmp .ne 7, 3) := by decide +kernel
theorem rd_Lw_event_746 : decode mb_Lw_event 746 = .ok (.iconst 1, 1) := by decide +kernel
theorem rd_Lw_event_747 : decode mb_Lw_event 747 = .ok (.goto 4, 3) := by decide +kernel
theorem rd_Lw_event_750 : decode mb_Lw_event 750 = .ok (.iconst 0, 1) := by decide +kernel
theorem rd_Lw_event_751 : decode mb_Lw_event 751 = .ok (.ireturn, 1) := by decide +kernel
theorem rd_Lw_event_752 : decode mb_Lw_event 752 = .ok (.aload 9, 2) := by decide +kernel
theorem rd_Lw_event_754 : decode mb_Lw_event 754 = .ok (.getfield 77, 3) := by decide +kernel
theorem rd_Lw_event_757 : decode mb_Lw_event 757 = .ok (.istore 10, 2) := by decide +kernel
theorem rd_Lw_event_759 : decode mb_Lw_event 759 = .ok (.aload 9, 2) := by decide +kernel
theorem rd_Lw_event_761 : decode mb_Lw_event 761 = .ok (.iload 4, 2) := by decide +kernel
theorem rd_Lw_event_763 : decode mb_Lw_event 763 = .ok (.putfield 77, 3) := by decide +kernel
theorem rd_Lw_event_766 : decode mb_Lw_event 766 = .ok (.aload_n 0, 1) := by decide +kernel
theorem rd_Lw_event_767 : decode mb_Lw_event 767 = .ok (.iload 8, 2) := by decide +kernel
theorem rd_Lw_event_769 : decode mb_Lw_event 769 = .ok (.iload 4, 2) := by decide +kernel
theorem rd_Lw_event_771 : decode mb_Lw_event 771 = .ok (.invokevirtual 202, 3) := by decide +kernel
theorem rd_Lw_event_774 : decode mb_Lw_event 774 = .ok (.iload 10, 2) := by decide +kernel
theorem rd_Lw_event_776 : decode mb_Lw_event 776 = .ok (.if_icmp .ne 7, 3) := by decide +kernel
theorem rd_Lw_event_779 : decode mb_Lw_event 779 = .ok (.iconst 1, 1) := by decide +kernel
theorem rd_Lw_event_780 : decode mb_Lw_event 780 = .ok (.goto 4, 3) := by decide +kernel
theorem rd_Lw_event_783 : decode mb_Lw_event 783 = .ok (.iconst 0, 1) := by decide +kernel
theorem rd_Lw_event_784 : decode mb_Lw_event 784 = .ok (.ireturn, 1) := by decide +kernel
theorem rd_Lw_event_785 : decode mb_Lw_event 785 = .ok (.aload_n 1, 1) := by decide +kernel
theorem rd_Lw_event_786 : decode mb_Lw_event 786 = .ok (.getfield 35, 3) := by decide +kernel
theorem rd_Lw_event_789 : decode mb_Lw_event 789 = .ok (.invokeinterface 39 1, 5) := by decide +kernel
theorem rd_Lw_event_794 : decode mb_Lw_event 794 = .ok (.bipush 6, 2) := by decide +kernel
theorem rd_Lw_event_796 : decode mb_Lw_event 796 = .ok (.if_icmp .ne 18, 3) := by decide +kernel
theorem rd_Lw_event_799 : decode mb_Lw_event 799 = .ok (.aload_n 0, 1) := by decide +kernel
theorem rd_Lw_event_800 : decode mb_Lw_event 800 = .ok (.invokevirtual 32, 3) := by decide +kernel
theorem rd_Lw_event_803 : decode mb_Lw_event 803 = .ok (.bipush 6, 2) := by decide +kernel
theorem rd_Lw_event_805 : decode mb_Lw_event 805 = .ok (.if_icmp .ne 7, 3) := by decide +kernel
theorem rd_Lw_event_808 : decode mb_Lw_event 808 = .ok (.iconst 1, 1) := by decide +kernel
theorem rd_Lw_event_809 : decode mb_Lw_event 809 = .ok (.goto 4, 3) := by decide +kernel
theorem rd_Lw_event_812 : decode mb_Lw_event 812 = .ok (.iconst 0, 1) := by decide +kernel
theorem rd_Lw_event_813 : decode mb_Lw_event 813 = .ok (.ireturn, 1) := by decide +kernel
theorem rd_Lw_event_814 : decode mb_Lw_event 814 = .ok (.aload_n 1, 1) := by decide +kernel
theorem rd_Lw_event_815 : decode mb_Lw_event 815 = .ok (.getfield 35, 3) := by decide +kernel
theorem rd_Lw_event_818 : decode mb_Lw_event 818 = .ok (.new 119, 3) := by decide +kernel
theorem rd_Lw_event_821 : decode mb_Lw_event 821 = .ok (.dup, 1) := by decide +kernel
theorem rd_Lw_event_822 : decode mb_Lw_event 822 = .ok (.invokespecial 205, 3) := by decide +kernel
theorem rd_Lw_event_825 : decode mb_Lw_event 825 = .ok (.invokeinterface 169 2, 5) := by decide +kernel
theorem rd_Lw_event_830 : decode mb_Lw_event 830 = .ok (.pop, 1) := by decide +kernel
theorem rd_Lw_event_831 : decode mb_Lw_event 831 = .ok (.aload_n 0, 1) := by decide +kernel
theorem rd_Lw_event_832 : decode mb_Lw_event 832 = .ok (.invokevirtual 206, 3) := by decide +kernel
theorem rd_Lw_event_835 : decode mb_Lw_event 835 = .ok (.aload_n 1, 1) := by decide +kernel
theorem rd_Lw_event_836 : decode mb_Lw_event 836 = .ok (.getfield 35, 3) := by decide +kernel
theorem rd_Lw_event_839 : decode mb_Lw_event 839 = .ok (.invokeinterface 39 1, 5) := by decide +kernel
theorem rd_Lw_event_844 : decode mb_Lw_event 844 = .ok (.iconst 1, 1) := by decide +kernel
theorem rd_Lw_event_845 : decode mb_Lw_event 845 = .ok (.isub, 1) := by decide +kernel
theorem rd_Lw_event_846 : decode mb_Lw_event 846 = .ok (.if_icmp .ne 7, 3) := by decide +kernel
theorem rd_Lw_event_849 : decode mb_Lw_event 849 = .ok (.iconst 1, 1) := by decide +kernel
theorem rd_Lw_event_850 : decode mb_Lw_event 850 = .ok (.goto 4, 3) := by decide +kernel
theorem rd_Lw_event_853 : decode mb_Lw_event 853 = .ok (.iconst 0, 1) := by decide +kernel
theorem rd_Lw_event_854 : decode mb_Lw_event 854 = .ok (.ireturn, 1) := by decide +kernel
theorem rd_Lw_event_855 : decode mb_Lw_event 855 = .ok (.aload_n 1, 1) := by decide +kernel
theorem rd_Lw_event_856 : decode mb_Lw_event 856 = .ok (.iload 5, 2) := by decide +kernel
theorem rd_Lw_event_858 : decode mb_Lw_event 858 = .ok (.invokevirtual 130, 3) := by decide +kernel
theorem rd_Lw_event_861 : decode mb_Lw_event 861 = .ok (.ifCond .eq 18, 3) := by decide +kernel
theorem rd_Lw_event_864 : decode mb_Lw_event 864 = .ok (.aload_n 0, 1) := by decide +kernel
theorem rd_Lw_event_865 : decode mb_Lw_event 865 = .ok (.iload 5, 2) := by decide +kernel
theorem rd_Lw_event_867 : decode mb_Lw_event 867 = .ok (.invokevirtual 127, 3) := by decide +kernel
theorem rd_Lw_event_870 : decode mb_Lw_event 870 = .ok (.ifCond .eq 7, 3) := by decide +kernel
theorem rd_Lw_event_873 : decode mb_Lw_event 873 = .ok (.iconst 1, 1) := by decide +kernel
theorem rd_Lw_event_874 : decode mb_Lw_event 874 = .ok (.goto 4, 3) := by decide +kernel
theorem rd_Lw_event_877 : decode mb_Lw_event 877 = .ok (.iconst 0, 1) := by decide +kernel
theorem rd_Lw_event_878 : decode mb_Lw_event 878 = .ok (.ireturn, 1) := by decide +kernel
theorem rd_Lw_event_879 : decode mb_Lw_event 879 = .ok (.aload_n 1, 1) := by decide +kernel
theorem rd_Lw_event_880 : decode mb_Lw_event 880 = .ok (.iload 5, 2) := by decide +kernel
theorem rd_Lw_event_882 : decode mb_Lw_event 882 = .ok (.invokevirtual 153, 3) := by decide +kernel
theorem rd_Lw_event_885 : decode mb_Lw_event 885 = .ok (.istore 10, 2) := by decide +kernel
theorem rd_Lw_event_887 : decode mb_Lw_event 887 = .ok (.aload_n 1, 1) := by decide +kernel
theorem rd_Lw_event_888 : decode mb_Lw_event 888 = .ok (.iload 5, 2) := by decide +kernel
theorem rd_Lw_event_890 : decode mb_Lw_event 890 = .ok (.invokevirtual 209, 3) := by decide +kernel
theorem rd_Lw_event_893 : decode mb_Lw_event 893 = .ok (.astore 11, 2) := by decide +kernel
theorem rd_Lw_event_895 : decode mb_Lw_event 895 = .ok (.aload 11, 2) := by decide +kernel
theorem rd_Lw_event_897 : decode mb_Lw_event 897 = .ok (.iconst 0, 1) := by decide +kernel
theorem rd_Lw_event_898 : decode mb_Lw_event 898 = .ok (.putfield 90, 3) := by decide +kernel
theorem rd_Lw_event_901 : decode mb_Lw_event 901 = .ok (.aload 11, 2) := by decide +kernel
theorem rd_Lw_event_903 : decode mb_Lw_event 903 = .ok (.iload 10, 2) := by decide +kernel
theorem rd_Lw_event_905 : decode mb_Lw_event 905 = .ok (.invokevirtual 213, 3) := by decide +kernel
theorem rd_Lw_event_908 : decode mb_Lw_event 908 = .ok (.aload_n 0, 1) := by decide +kernel
theorem rd_Lw_event_909 : decode mb_Lw_event 909 = .ok (.iload 5, 2) := by decide +kernel
theorem rd_Lw_event_911 : decode mb_Lw_event 911 = .ok (.invokevirtual 217, 3) := by decide +kernel
theorem rd_Lw_event_914 : decode mb_Lw_event 914 = .ok (.iload 10, 2) := by decide +kernel
theorem rd_Lw_event_916 : decode mb_Lw_event 916 = .ok (.if_icmp .ne 7, 3) := by decide +kernel
theorem rd_Lw_event_919 : decode mb_Lw_event 919 = .ok (.iconst 1, 1) := by decide +kernel
theorem rd_Lw_event_920 : decode mb_Lw_event 920 = .ok (.goto 4, 3) := by decide +kernel
theorem rd_Lw_event_923 : decode mb_Lw_event 923 = .ok (.iconst 0, 1) := by decide +kernel
theorem rd_Lw_event_924 : decode mb_Lw_event 924 = .ok (.ireturn, 1) := by decide +kernel
