theorem rd_Law_law_632 : decode mb_Law_law 632 = .ok (.iconst 1, 1) := by decide +kernel
theorem rd_Law_law_633 : decode mb_Law_law 633 = .ok (.iadd, 1) := by decide +kernel
theorem rd_Law_law_634 : decode mb_Law_law 634 = .ok (.iaload, 1) := by decide +kernel
theorem rd_Law_law_635 : decode mb_Law_law 635 = .ok (.aload_n 3, 1) := by decide +kernel
theorem rd_Law_law_636 : decode mb_Law_law 636 = .ok (.invokestatic 196, 3) := by decide +kernel
theorem rd_Law_law_639 : decode mb_Law_law 639 = .ok (.istore 5, 2) := by decide +kernel
theorem rd_Law_law_641 : decode mb_Law_law 641 = .ok (.aload_n 2, 1) := by decide +kernel
theorem rd_Law_law_642 : decode mb_Law_law 642 = .ok (.aload_n 0, 1) := by decide +kernel
theorem rd_Law_law_643 : decode mb_Law_law 643 = .ok (.iload 4, 2) := by decide +kernel
theorem rd_Law_law_645 : decode mb_Law_law 645 = .ok (.iconst 1, 1) := by decide +kernel
theorem rd_Law_law_646 : decode mb_Law_law 646 = .ok (.iadd, 1) := by decide +kernel
theorem rd_Law_law_647 : decode mb_Law_law 647 = .ok (.iaload, 1) := by decide +kernel
theorem rd_Law_law_648 : decode mb_Law_law 648 = .ok (.invokevirtual 198, 3) := by decide +kernel
theorem rd_Law_law_651 : decode mb_Law_law 651 = .ok (.istore 6, 2) := by decide +kernel
theorem rd_Law_law_653 : decode mb_Law_law 653 = .ok (.aload_n 2, 1) := by decide +kernel
theorem rd_Law_law_654 : decode mb_Law_law 654 = .ok (.invokevirtual 189, 3) := by decide +kernel
theorem rd_Law_law_657 : decode mb_Law_law 657 = .ok (.iload 5, 2) := by decide +kernel
theorem rd_Law_law_659 : decode mb_Law_law 659 = .ok (.if_icmp .eq 5, 3) := by decide +kernel
theorem rd_Law_law_664 : decode mb_Law_law 664 = .ok (.iload 5, 2) := by decide +kernel
theorem rd_Law_law_666 : decode mb_Law_law 666 = .ok (.ifCond .ne 15, 3) := by decide +kernel
theorem rd_Law_law_669 : decode mb_Law_law 669 = .ok (.aload_n 3, 1) := by decide +kernel
theorem rd_Law_law_670 : decode mb_Law_law 670 = .ok (.iconst 0, 1) := by decide +kernel
theorem rd_Law_law_671 : decode mb_Law_law 671 = .ok (.laload, 1) := by decide +kernel
theorem rd_Law_law_672 : decode mb_Law_law 672 = .ok (.iload 6, 2) := by decide +kernel
theorem rd_Law_law_674 : decode mb_Law_law 674 = .ok (.i2l, 1) := by decide +kernel
theorem rd_Law_law_675 : decode mb_Law_law 675 = .ok (.lcmp, 1) := by decide +kernel
theorem rd_Law_law_676 : decode mb_Law_law 676 = .ok (.ifCond .eq 5, 3) := by decide +kernel
theorem rd_Law_law_681 : decode mb_Law_law 681 = .ok (.goto 2103, 3) := by decide +kernel
theorem rd_Law_law_684 : decode mb_Law_law 684 = .ok (.aload_n 1, 1) := by decide +kernel
theorem rd_Law_law_685 : decode mb_Law_law 685 = .ok (.aload_n 0, 1) := by decide +kernel
theorem rd_Law_law_686 : decode mb_Law_law 686 = .ok (.iload 4, 2) := by decide +kernel
theorem rd_Law_law_688 : decode mb_Law_law 688 = .ok (.iconst 1, 1) := by decide +kernel
theorem rd_Law_law_689 : decode mb_Law_law 689 = .ok (.iadd, 1) := by decide +kernel
theorem rd_Law_law_690 : decode mb_Law_law 690 = .ok (.iaload, 1) := by decide +kernel
theorem rd_Law_law_691 : decode mb_Law_law 691 = .ok (.aload_n 3, 1) := by decide +kernel
theorem rd_Law_law_692 : decode mb_Law_law 692 = .ok (.invokestatic 199, 3) := by decide +kernel
theorem rd_Law_law_695 : decode mb_Law_law 695 = .ok (.istore 5, 2) := by decide +kernel
theorem rd_Law_law_697 : decode mb_Law_law 697 = .ok (.aload_n 2, 1) := by decide +kernel
theorem rd_Law_law_698 : decode mb_Law_law 698 = .ok (.aload_n 0, 1) := by decide +kernel
theorem rd_Law_law_699 : decode mb_Law_law 699 = .ok (.iload 4, 2) := by decide +kernel
theorem rd_Law_law_701 : decode mb_Law_law 701 = .ok (.iconst 1, 1) := by decide +kernel
theorem rd_Law_law_702 : decode mb_Law_law 702 = .ok (.iadd, 1) := by decide +kernel
theorem rd_Law_law_703 : decode mb_Law_law 703 = .ok (.iaload, 1) := by decide +kernel
theorem rd_Law_law_704 : decode mb_Law_law 704 = .ok (.invokevirtual 201, 3) := by decide +kernel
theorem rd_Law_law_707 : decode mb_Law_law 707 = .ok (.istore 6, 2) := by decide +kernel
theorem rd_Law_law_709 : decode mb_Law_law 709 = .ok (.aload_n 2, 1) := by decide +kernel
theorem rd_Law_law_710 : decode mb_Law_law 710 = .ok (.invokevirtual 189, 3) := by decide +kernel
theorem rd_Law_law_713 : decode mb_Law_law 713 = .ok (.iload 5, 2) := by decide +kernel
theorem rd_Law_law_715 : decode mb_Law_law 715 = .ok (.if_icmp .eq 5, 3) := by decide +kernel
theorem rd_Law_law_720 : decode mb_Law_law 720 = .ok (.iload 5, 2) := by decide +kernel
theorem rd_Law_law_722 : decode mb_Law_law 722 = .ok (.ifCond .ne 15, 3) := by decide +kernel
theorem rd_Law_law_725 : decode mb_Law_law 725 = .ok (.aload_n 3, 1) := by decide +kernel
theorem rd_Law_law_726 : decode mb_Law_law 726 = .ok (.iconst 0, 1) := by decide +kernel
theorem rd_Law_law_727 : decode mb_Law_law 727 = .ok (.laload, 1) := by decide +kernel
theorem rd_Law_law_728 : decode mb_Law_law 728 = .ok (.iload 6, 2) := by decide +kernel
theorem rd_Law_law_730 : decode mb_Law_law 730 = .ok (.i2l, 1) := by decide +kernel
theorem rd_Law_law_731 : decode mb_Law_law 731 = .ok (.lcmp, 1) := by decide +kernel
theorem rd_Law_law_732 : decode mb_Law_law 732 = .ok (.ifCond .eq 5, 3) := by decide +kernel
theorem rd_Law_law_737 : decode mb_Law_law 737 = .ok (.goto 2047, 3) := by decide +kernel
theorem rd_Law_law_740 : decode mb_Law_law 740 = .ok (.aload_n 1, 1) := by decide +kernel
theorem rd_Law_law_741 : decode mb_Law_law 741 = .ok (.aload_n 0, 1) := by decide +kernel
theorem rd_Law_law_742 : decode mb_Law_law 742 = .ok (.iload 4, 2) := by decide +kernel
theorem rd_Law_law_744 : decode mb_Law_law 744 = .ok (.iconst 1, 1) := by decide +kernel
theorem rd_Law_law_745 : decode mb_Law_law 745 = .ok (.iadd, 1) := by decide +kernel
theorem rd_Law_law_746 : decode mb_Law_law 746 = .ok (.iaload, 1) := by decide +kernel
theorem rd_Law_law_747 : decode mb_Law_law 747 = .ok (.aload_n 3, 1) := by decide +kernel
theorem rd_Law_law_748 : decode mb_Law_law 748 = .ok (.invokestatic 202, 3) := by decide +kernel
theorem rd_Law_law_751 : decode mb_Law_law 751 = .ok (.istore 5, 2) := by decide +kernel
theorem rd_Law_law_753 : decode mb_Law_law 753 = .ok (.aload_n 2, 1) := by decide +kernel
theorem rd_Law_law_754 : decode mb_Law_law 754 = .ok (.aload_n 0, 1) := by decide +kernel
theorem rd_Law_law_755 : decode mb_Law_law 755 = .ok (.iload 4, 2) := by decide +kernel
theorem rd_Law_law_757 : decode mb_Law_law 757 = .ok (.iconst 1, 1) := by decide +kernel
theorem rd_Law_law_758 : decode mb_Law_law 758 = .ok (.iadd, 1) := by decide +kernel
theorem rd_Law_law_759 : decode mb_Law_law 759 = .ok (.iaload, 1) := by decide +kernel
theorem rd_Law_law_760 : decode mb_Law_law 760 = .ok (.invokevirtual 204, 3) := by decide +kernel
theorem rd_Law_law_763 : decode mb_Law_law 763 = .ok (.istore 6, 2) := by decide +kernel
theorem rd_Law_law_765 : decode mb_Law_law 765 = .ok (.aload_n 2, 1) := by decide +kernel
theorem rd_Law_law_766 : decode mb_Law_law 766 = .ok (.invokevirtual 189, 3) := by decide +kernel
theorem rd_Law_law_769 : decode mb_Law_law 769 = .ok (.iload 5, 2) := by decide +kernel
theorem rd_Law_law_771 : decode mb_Law_law 771 = .ok (.if_icmp .eq 5, 3) := by decide +kernel
theorem rd_Law_law_776 : decode mb_Law_law 776 = .ok (.iload 5, 2) := by decide +kernel
theorem rd_Law_law_778 : decode mb_Law_law 778 = .ok (.ifCond .ne 15, 3) := by decide +kernel
theorem rd_Law_law_781 : decode mb_Law_law 781 = .ok (.aload_n 3, 1) := by decide +kernel
theorem rd_Law_law_782 : decode mb_Law_law 782 = .ok (.iconst 0, 1) := by decide +kernel
theorem rd_Law_law_783 : decode mb_Law_law 783 = .ok (.laload, 1) := by decide +kernel
theorem rd_Law_law_784 : decode mb_Law_law 784 = .ok (.iload 6, 2) := by decide +kernel
theorem rd_Law_law_786 : decode mb_Law_law 786 = .ok (.i2l, 1) := by decide +kernel
theorem rd_Law_law_787 : decode mb_Law_law 787 = .ok (.lcmp, 1) := by decide +kernel
theorem rd_Law_law_788 : decode mb_Law_law 788 = .ok (.ifCond .eq 5, 3) := by decide +kernel
theorem rd_Law_law_793 : decode mb_Law_law 793 = .ok (.goto 1991, 3) := by decide +kernel
theorem rd_Law_law_796 : decode mb_Law_law 796 = .ok (.aload_n 1, 1) := by decide +kernel
theorem rd_Law_law_797 : decode mb_Law_law 797 = .ok (.aload_n 0, 1) := by decide +kernel
theorem rd_Law_law_798 : decode mb_Law_law 798 = .ok (.iload 4, 2) := by decide +kernel
theorem rd_Law_law_800 : decode mb_Law_law 800 = .ok (.iconst 1, 1) := by decide +kernel
theorem rd_Law_law_801 : decode mb_Law_law 801 = .ok (.iadd, 1) := by decide +kernel
theorem rd_Law_law_802 : decode mb_Law_law 802 = .ok (.iaload, 1) := by decide +kernel
theorem rd_Law_law_803 : decode mb_Law_law 803 = .ok (.aload_n 3, 1) := by decide +kernel
theorem rd_Law_law_804 : decode mb_Law_law 804 = .ok (.invokestatic 205, 3) := by decide +kernel
theorem rd_Law_law_807 : decode mb_Law_law 807 = .ok (.istore 5, 2) := by decide +kernel
theorem rd_Law_law_809 : decode mb_Law_law 809 = .ok (.aload_n 2, 1) := by decide +kernel
theorem rd_Law_law_810 : decode mb_Law_law 810 = .ok (.aload_n 0, 1) := by decide +kernel
theorem rd_Law_law_811 : decode mb_Law_law 811 = .ok (.iload 4, 2) := by decide +kernel
theorem rd_Law_law_813 : decode mb_Law_law 813 = .ok (.iconst 1, 1) := by decide +kernel
theorem rd_Law_law_814 : decode mb_Law_law 814 = .ok (.iadd, 1) := by decide +kernel
theorem rd_Law_law_815 : decode mb_Law_law 815 = .ok (.iaload, 1) := by decide +kernel
theorem rd_Law_law_816 : decode mb_Law_law 816 = .ok (.invokevirtual 207, 3) := by decide +kernel
theorem rd_Law_law_819 : decode mb_Law_law 819 = .ok (.istore 6, 2) := by decide +kernel
theorem rd_Law_law_821 : decode mb_Law_law 821 = .ok (.aload_n 2, 1) := by decide +kernel
theorem rd_Law_law_822 : decode mb_Law_law 822 = .ok (.invokevirtual 189, 3) := by decide +kernel
theorem rd_Law_law_825 : decode mb_Law_law 825 = .ok (.iload 5, 2) := by decide +kernel
theorem rd_Law_law_827 : decode mb_Law_law 827 = .ok (.if_icmp .eq 5, 3) := by decide +kernel
theorem rd_Law_law_832 : decode mb_Law_law 832 = .ok (.iload 5, 2) := by decide +kernel
theorem rd_Law_law_834 : decode mb_Law_law 834 = .ok (.ifCond .ne 15, 3) := by decide +kernel
theorem rd_Law_law_837 : decode mb_Law_law 837 = .ok (.aload_n 3, 1) := by decide +kernel
theorem rd_Law_law_838 : decode mb_Law_law 838 = .ok (.iconst 0, 1) := by decide +kernel
theorem rd_Law_law_839 : decode mb_Law_law 839 = .ok (.laload, 1) := by decide +kernel
theorem rd_Law_law_840 : decode mb_Law_law 840 = .ok (.iload 6, 2) := by decide +kernel
theorem rd_Law_law_842 : decode mb_Law_law 842 = .ok (.i2l, 1) := by decide +kernel
theorem rd_Law_law_843 : decode mb_Law_law 843 = .ok (.lcmp, 1) := by decide +kernel
theorem rd_Law_law_844 : decode mb_Law_law 844 = .ok (.ifCond .eq 5, 3) := by decide +kernel
theorem rd_Law_law_849 : decode mb_Law_law 849 = .ok (.goto 1935, 3) := by decide +kernel
theorem rd_Law_law_852 : decode mb_Law_law 852 = .ok (.aload_n 1, 1) := by decide +kernel
theorem rd_Law_law_853 : decode mb_Law_law 853 = .ok (.aload_n 0, 1) := by decide +kernel
theorem rd_Law_law_854 : decode mb_Law_law 854 = .ok (.iload 4, 2) := by decide +kernel
theorem rd_Law_law_856 : decode mb_Law_law 856 = .ok (.iconst 1, 1) := by decide +kernel
theorem rd_Law_law_857 : decode mb_Law_law 857 = .ok (.iadd, 1) := by decide +kernel
theorem rd_Law_law_858 : decode mb_Law_law 858 = .ok (.iaload, 1) := by decide +kernel
theorem rd_Law_law_859 : decode mb_Law_law 859 = .ok (.aload_n 3, 1) := by decide +kernel
theorem rd_Law_law_860 : decode mb_Law_law 860 = .ok (.invokestatic 208, 3) := by decide +kernel
theorem rd_Law_law_863 : decode mb_Law_law 863 = .ok (.istore 5, 2) := by decide +kernel
theorem rd_Law_law_865 : decode mb_Law_law 865 = .ok (.aload_n 2, 1) := by decide +kernel
theorem rd_Law_law_866 : decode mb_Law_law 866 = .ok (.aload_n 0, 1) := by decide +kernel
theorem rd_Law_law_867 : decode mb_Law_law 867 = .ok (.iload 4, 2) := by decide +kernel
theorem rd_Law_law_869 : decode mb_Law_law 869 = .ok (.iconst 1, 1) := by decide +kernel
theorem rd_Law_law_870 : decode mb_Law_law 870 = .ok (.iadd, 1) := by decide +kernel
theorem rd_Law_law_871 : decode mb_Law_law 871 = .ok (.iaload, 1) := by decide +kernel
theorem rd_Law_law_872 : decode mb_Law_law 872 = .ok (.invokevirtual 210, 3) := by decide +kernel
theorem rd_Law_law_875 : decode mb_Law_law 875 = .ok (.istore 6, 2) := by decide +kernel
theorem rd_Law_law_877 : decode mb_Law_law 877 = .ok (.aload_n 2, 1) := by decide +kernel
theorem rd_Law_law_878 : decode mb_Law_law 878 = .ok (.invokevirtual 189, 3) := by decide +kernel
theorem rd_Law_law_881 : decode mb_Law_law 881 = .ok (.iload 5, 2) := by decide +kernel
theorem rd_Law_law_883 : decode mb_Law_law 883 = .ok (.if_icmp .eq 5, 3) := by decide +kernel
theorem rd_Law_law_888 : decode mb_Law_law 888 = .ok (.iload 5, 2) := by decide +kernel
theorem rd_Law_law_890 : decode mb_Law_law 890 = .ok (.ifCond .ne 15, 3) := by decide +kernel
theorem rd_Law_law_893 : decode mb_Law_law 893 = .ok (.aload_n 3, 1) := by decide +kernel
theorem rd_Law_law_894 : decode mb_Law_law 894 = .ok (.iconst 0, 1) := by decide +kernel
theorem rd_Law_law_895 : decode mb_Law_law 895 = .ok (.laload, 1) := by decide +kernel
theorem rd_Law_law_896 : decode mb_Law_law 896 = .ok (.iload 6, 2) := by decide +kernel
theorem rd_Law_law_898 : decode mb_Law_law 898 = .ok (.i2l, 1) := by decide +kernel
theorem rd_Law_law_899 : decode mb_Law_law 899 = .ok (.lcmp, 1) := by decide +kernel
theorem rd_Law_law_900 : decode mb_Law_law 900 = .ok (.ifCond .eq 5, 3) := by decide +kernel
theorem rd_Law_law_905 : decode mb_Law_law 905 = .ok (.goto 1879, 3) := by decide +kernel
theorem rd_Law_law_908 : decode mb_Law_law 908 = .ok (.aload_n 1, 1) := by decide +kernel
theorem rd_Law_law_909 : decode mb_Law_law 909 = .ok (.aload_n 0, 1) := by decide +kernel
theorem rd_Law_law_910 : decode mb_Law_law 910 = .ok (.iload 4, 2) := by decide +kernel
theorem rd_Law_law_912 : decode mb_Law_law 912 = .ok (.iconst 1, 1) := by decide +kernel
theorem rd_Law_law_913 : decode mb_Law_law 913 = .ok (.iadd, 1) := by decide +kernel
theorem rd_Law_law_914 : decode mb_Law_law 914 = .ok (.iaload, 1) := by decide +kernel
theorem rd_Law_law_915 : decode mb_Law_law 915 = .ok (.aload_n 3, 1) := by decide +kernel
theorem rd_Law_law_916 : decode mb_Law_law 916 = .ok (.invokestatic 211, 3) := by decide +kernel
theorem rd_Law_law_919 : decode mb_Law_law 919 = .ok (.istore 5, 2) := by decide +kernel
theorem rd_Law_law_921 : decode mb_Law_law 921 = .ok (.aload_n 2, 1) := by decide +kernel
theorem rd_Law_law_922 : decode mb_Law_law 922 = .ok (.aload_n 0, 1) := by decide +kernel
theorem rd_Law_law_923 : decode mb_Law_law 923 = .ok (.iload 4, 2) := by decide +kernel
theorem rd_Law_law_925 : decode mb_Law_law 925 = .ok (.iconst 1, 1) := by decide +kernel
theorem rd_Law_law_926 : decode mb_Law_law 926 = .ok (.iadd, 1) := by decide +kernel
theorem rd_Law_law_927 : decode mb_Law_law 927 = .ok (.iaload, 1) := by decide +kernel
theorem rd_Law_law_928 : decode mb_Law_law 928 = .ok (.invokevirtual 213, 3) := by decide +kernel
theorem rd_Law_law_931 : decode mb_Law_law 931 = .ok (.istore 6, 2) := by decide +kernel
theorem rd_Law_law_933 : decode mb_Law_law 933 = .ok (.aload_n 2, 1) := by decide +kernel
theorem rd_Law_law_934 : decode mb_Law_law 934 = .ok (.invokevirtual 189, 3) := by decide +kernel
theorem rd_Law_law_937 : decode mb_Law_law 937 = .ok (.iload 5, 2) := by decide +kernel
theorem rd_Law_law_939 : decode mb_Law_law 939 = .ok (.if_icmp .eq 5, 3) := by decide +kernel
theorem rd_Law_law_944 : decode mb_Law_law 944 = .ok (.iload 5, 2) := by decide +kernel
theorem rd_Law_law_946 : decode mb_Law_law 946 = .ok (.ifCond .ne 15, 3) := by decide +kernel
theorem rd_Law_law_949 : decode mb_Law_law 949 = .ok (.aload_n 3, 1) := by decide +kernel
theorem rd_Law_law_950 : decode mb_Law_law 950 = .ok (.iconst 0, 1) := by decide +kernel
theorem rd_Law_law_951 : decode mb_Law_law 951 = .ok (.laload, 1) := by decide +kernel
theorem rd_Law_law_952 : decode mb_Law_law 952 = .ok (.iload 6, 2) := by decide +kernel
theorem rd_Law_law_954 : decode mb_Law_law 954 = .ok (.i2l, 1) := by decide +kernel
theorem rd_Law_law_955 : decode mb_Law_law 955 = .ok (.lcmp, 1) := by decide +kernel
theorem rd_Law_law_956 : decode mb_Law_law 956 = .ok (.ifCond .eq 5, 3) := by decide +kernel
theorem rd_Law_law_961 : decode mb_Law_law 961 = .ok (.goto 1823, 3) := by decide +kernel
theorem rd_Law_law_964 : decode mb_Law_law 964 = .ok (.aload_n 1, 1) := by decide +kernel
theorem rd_Law_law_965 : decode mb_Law_law 965 = .ok (.aload_n 0, 1) := by decide +kernel
theorem rd_Law_law_966 : decode mb_Law_law 966 = .ok (.iload 4, 2) := by decide +kernel
theorem rd_Law_law_968 : decode mb_Law_law 968 = .ok (.iconst 1, 1) := by decide +kernel
theorem rd_Law_law_969 : decode mb_Law_law 969 = .ok (.iadd, 1) := by decide +kernel
theorem rd_Law_law_970 : decode mb_Law_law 970 = .ok (.iaload, 1) := by decide +kernel
theorem rd_Law_law_971 : decode mb_Law_law 971 = .ok (.aload_n 3, 1) := by decide +kernel
theorem rd_Law_law_972 : decode mb_Law_law 972 = .ok (.invokestatic 214, 3) := by decide +kernel
theorem rd_Law_law_975 : decode mb_Law_law 975 = .ok (.istore 5, 2) := by decide +kernel
theorem rd_Law_law_977 : decode mb_Law_law 977 = .ok (.aload_n 2, 1) := by decide +kernel
theorem rd_Law_law_978 : decode mb_Law_law 978 = .ok (.aload_n 0, 1) := by decide +kernel
theorem rd_Law_law_979 : decode mb_Law_law 979 = .ok (.iload 4, 2) := by decide +kernel
theorem rd_Law_law_981 : decode mb_Law_law 981 = .ok (.iconst 1, 1) := by decide +kernel
theorem rd_Law_law_982 : decode mb_Law_law 982 = .ok (.iadd, 1) := by decide +kernel
theorem rd_Law_law_983 : decode mb_Law_law 983 = .ok (.iaload, 1) := by decide +kernel
theorem rd_Law_law_984 : decode mb_Law_law 984 = .ok (.invokevirtual 216, 3) := by decide +kernel
theorem rd_Law_law_987 : decode mb_Law_law 987 = .ok (.istore 6, 2) := by decide +kernel
theorem rd_Law_law_989 : decode mb_Law_law 989 = .ok (.aload_n 2, 1) := by decide +kernel
theorem rd_Law_law_990 : decode mb_Law_law 990 = .ok (.invokevirtual 189, 3) := by decide +kernel
theorem rd_Law_law_993 : decode mb_Law_law 993 = .ok (.iload 5, 2) := by decide +kernel
theorem rd_Law_law_995 : decode mb_Law_law 995 = .ok (.if_icmp .eq 5, 3) := by decide +kernel
theorem rd_Law_law_1000 : decode mb_Law_law 1000 = .ok (.iload 5, 2) := by decide +kernel
theorem rd_Law_law_1002 : decode mb_Law_law 1002 = .ok (.ifCond .ne 15, 3) := by decide +kernel
theorem rd_Law_law_1005 : decode mb_Law_law 1005 = .ok (.aload_n 3, 1) := by decide +kernel
theorem rd_Law_law_1006 : decode mb_Law_law 1006 = .ok (.iconst 0, 1) := by decide +kernel
theorem rd_Law_law_1007 : decode mb_Law_law 1007 = .ok (.laload, 1) := by decide +kernel
theorem rd_Law_law_1008 : decode mb_Law_law 1008 = .ok (.iload 6, 2) := by decide +kernel
theorem rd_Law_law_1010 : decode mb_Law_law 1010 = .ok (.i2l, 1) := by decide +kernel
theorem rd_Law_law_1011 : decode mb_Law_law 1011 = .ok (.lcmp, 1) := by decide +kernel
theorem rd_Law_law_1012 : decode mb_Law_law 1012 = .ok (.ifCond .eq 5, 3) := by decide +kernel
theorem rd_Law_law_1017 : decode mb_Law_law 1017 = .ok (.goto 1767, 3) := by decide +kernel
theorem rd_Law_law_1020 : decode mb_Law_law 1020 = .ok (.aload_n 1, 1) := by decide +kernel
theorem rd_Law_law_1021 : decode mb_Law_law 1021 = .ok (.aload_n 0, 1) := by decide +kernel
theorem rd_Law_law_1022 : decode mb_Law_law 1022 = .ok (.iload 4, 2) := by decide +kernel
theorem rd_Law_law_1024 : decode mb_Law_law 1024 = .ok (.iconst 1, 1) := by decide +kernel
theorem rd_Law_law_1025 : decode mb_Law_law 1025 = .ok (.iadd, 1) := by decide +kernel
theorem rd_Law_law_1026 : decode mb_Law_law 1026 = .ok (.iaload, 1) := by decide +kernel
