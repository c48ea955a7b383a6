theorem dL_refuses_637 : decode cL_refuses 637 = .ok (.iload 5, 2) := by decide +kernel
theorem dL_refuses_639 : decode cL_refuses 639 = .ok (.iconst 2, 1) := by decide +kernel
theorem dL_refuses_640 : decode cL_refuses 640 = .ok (.iconst 0, 1) := by decide +kernel
theorem dL_refuses_641 : decode cL_refuses 641 = .ok (.invokestatic 184, 3) := by decide +kernel
theorem dL_refuses_644 : decode cL_refuses 644 = .ok (.istore 6, 2) := by decide +kernel
theorem dL_refuses_646 : decode cL_refuses 646 = .ok (.iload 4, 2) := by decide +kernel
theorem dL_refuses_648 : decode cL_refuses 648 = .ok (.ifCond .eq 273, 3) := by decide +kernel
theorem dL_refuses_651 : decode cL_refuses 651 = .ok (.aload_n 0, 1) := by decide +kernel
theorem dL_refuses_652 : decode cL_refuses 652 = .ok (.iconst 3, 1) := by decide +kernel
theorem dL_refuses_653 : decode cL_refuses 653 = .ok (.iload 5, 2) := by decide +kernel
theorem dL_refuses_655 : decode cL_refuses 655 = .ok (.bipush 9, 2) := by decide +kernel
theorem dL_refuses_657 : decode cL_refuses 657 = .ok (.iload_n 1, 1) := by decide +kernel
theorem dL_refuses_658 : decode cL_refuses 658 = .ok (.bipush 9, 2) := by decide +kernel
theorem dL_refuses_660 : decode cL_refuses 660 = .ok (.irem, 1) := by decide +kernel
theorem dL_refuses_661 : decode cL_refuses 661 = .ok (.iadd, 1) := by decide +kernel
theorem dL_refuses_662 : decode cL_refuses 662 = .ok (.iconst 0, 1) := by decide +kernel
theorem dL_refuses_663 : decode cL_refuses 663 = .ok (.invokestatic 184, 3) := by decide +kernel
theorem dL_refuses_666 : decode cL_refuses 666 = .ok (.ldc 29, 2) := by decide +kernel
theorem dL_refuses_668 : decode cL_refuses 668 = .ok (.if_icmp .ne 253, 3) := by decide +kernel
theorem dL_refuses_671 : decode cL_refuses 671 = .ok (.aload_n 0, 1) := by decide +kernel
theorem dL_refuses_672 : decode cL_refuses 672 = .ok (.bipush 6, 2) := by decide +kernel
theorem dL_refuses_674 : decode cL_refuses 674 = .ok (.iload 5, 2) := by decide +kernel
theorem dL_refuses_676 : decode cL_refuses 676 = .ok (.bipush 40, 2) := by decide +kernel
theorem dL_refuses_678 : decode cL_refuses 678 = .ok (.bipush 9, 2) := by decide +kernel
theorem dL_refuses_680 : decode cL_refuses 680 = .ok (.invokestatic 184, 3) := by decide +kernel
theorem dL_refuses_683 : decode cL_refuses 683 = .ok (.ldc 15, 2) := by decide +kernel
theorem dL_refuses_685 : decode cL_refuses 685 = .ok (.if_icmp .ne 236, 3) := by decide +kernel
theorem dL_refuses_688 : decode cL_refuses 688 = .ok (.aload_n 0, 1) := by decide +kernel
theorem dL_refuses_689 : decode cL_refuses 689 = .ok (.bipush 6, 2) := by decide +kernel
theorem dL_refuses_691 : decode cL_refuses 691 = .ok (.iload 5, 2) := by decide +kernel
theorem dL_refuses_693 : decode cL_refuses 693 = .ok (.iload_n 1, 1) := by decide +kernel
theorem dL_refuses_694 : decode cL_refuses 694 = .ok (.bipush 40, 2) := by decide +kernel
theorem dL_refuses_696 : decode cL_refuses 696 = .ok (.irem, 1) := by decide +kernel
theorem dL_refuses_697 : decode cL_refuses 697 = .ok (.iconst 3, 1) := by decide +kernel
theorem dL_refuses_698 : decode cL_refuses 698 = .ok (.iload_n 1, 1) := by decide +kernel
theorem dL_refuses_699 : decode cL_refuses 699 = .ok (.bipush 9, 2) := by decide +kernel
theorem dL_refuses_701 : decode cL_refuses 701 = .ok (.irem, 1) := by decide +kernel
theorem dL_refuses_702 : decode cL_refuses 702 = .ok (.iadd, 1) := by decide +kernel
theorem dL_refuses_703 : decode cL_refuses 703 = .ok (.invokestatic 184, 3) := by decide +kernel
theorem dL_refuses_706 : decode cL_refuses 706 = .ok (.ldc 29, 2) := by decide +kernel
theorem dL_refuses_708 : decode cL_refuses 708 = .ok (.if_icmp .ne 213, 3) := by decide +kernel
theorem dL_refuses_711 : decode cL_refuses 711 = .ok (.aload_n 0, 1) := by decide +kernel
theorem dL_refuses_712 : decode cL_refuses 712 = .ok (.bipush 10, 2) := by decide +kernel
theorem dL_refuses_714 : decode cL_refuses 714 = .ok (.iload 5, 2) := by decide +kernel
theorem dL_refuses_716 : decode cL_refuses 716 = .ok (.iconst 0, 1) := by decide +kernel
theorem dL_refuses_717 : decode cL_refuses 717 = .ok (.iconst 0, 1) := by decide +kernel
theorem dL_refuses_718 : decode cL_refuses 718 = .ok (.invokestatic 184, 3) := by decide +kernel
theorem dL_refuses_721 : decode cL_refuses 721 = .ok (.ldc 29, 2) := by decide +kernel
theorem dL_refuses_723 : decode cL_refuses 723 = .ok (.if_icmp .ne 198, 3) := by decide +kernel
theorem dL_refuses_726 : decode cL_refuses 726 = .ok (.aload_n 0, 1) := by decide +kernel
theorem dL_refuses_727 : decode cL_refuses 727 = .ok (.bipush 10, 2) := by decide +kernel
theorem dL_refuses_729 : decode cL_refuses 729 = .ok (.iload 5, 2) := by decide +kernel
theorem dL_refuses_731 : decode cL_refuses 731 = .ok (.sipush 10000, 3) := by decide +kernel
theorem dL_refuses_734 : decode cL_refuses 734 = .ok (.iload_n 1, 1) := by decide +kernel
theorem dL_refuses_735 : decode cL_refuses 735 = .ok (.bipush 9, 2) := by decide +kernel
theorem dL_refuses_737 : decode cL_refuses 737 = .ok (.irem, 1) := by decide +kernel
theorem dL_refuses_738 : decode cL_refuses 738 = .ok (.iadd, 1) := by decide +kernel
theorem dL_refuses_739 : decode cL_refuses 739 = .ok (.iconst 0, 1) := by decide +kernel
theorem dL_refuses_740 : decode cL_refuses 740 = .ok (.invokestatic 184, 3) := by decide +kernel
theorem dL_refuses_743 : decode cL_refuses 743 = .ok (.ldc 29, 2) := by decide +kernel
theorem dL_refuses_745 : decode cL_refuses 745 = .ok (.if_icmp .ne 176, 3) := by decide +kernel
theorem dL_refuses_748 : decode cL_refuses 748 = .ok (.iload 6, 2) := by decide +kernel
theorem dL_refuses_750 : decode cL_refuses 750 = .ok (.sipush 9999, 3) := by decide +kernel
theorem dL_refuses_753 : decode cL_refuses 753 = .ok (.if_icmp .ge 30, 3) := by decide +kernel
theorem dL_refuses_756 : decode cL_refuses 756 = .ok (.aload_n 0, 1) := by decide +kernel
theorem dL_refuses_757 : decode cL_refuses 757 = .ok (.bipush 10, 2) := by decide +kernel
theorem dL_refuses_759 : decode cL_refuses 759 = .ok (.iload 5, 2) := by decide +kernel
theorem dL_refuses_761 : decode cL_refuses 761 = .ok (.iload 6, 2) := by decide +kernel
theorem dL_refuses_763 : decode cL_refuses 763 = .ok (.ifCond .ge 7, 3) := by decide +kernel
theorem dL_refuses_766 : decode cL_refuses 766 = .ok (.iconst (-1), 1) := by decide +kernel
theorem dL_refuses_767 : decode cL_refuses 767 = .ok (.goto 7, 3) := by decide +kernel
theorem dL_refuses_770 : decode cL_refuses 770 = .ok (.iconst (-1), 1) := by decide +kernel
theorem dL_refuses_771 : decode cL_refuses 771 = .ok (.iload 6, 2) := by decide +kernel
theorem dL_refuses_773 : decode cL_refuses 773 = .ok (.isub, 1) := by decide +kernel
theorem dL_refuses_774 : decode cL_refuses 774 = .ok (.iconst 0, 1) := by decide +kernel
theorem dL_refuses_775 : decode cL_refuses 775 = .ok (.invokestatic 184, 3) := by decide +kernel
theorem dL_refuses_778 : decode cL_refuses 778 = .ok (.ldc 18, 2) := by decide +kernel
theorem dL_refuses_780 : decode cL_refuses 780 = .ok (.if_icmp .ne 141, 3) := by decide +kernel
theorem dL_refuses_783 : decode cL_refuses 783 = .ok (.aload_n 0, 1) := by decide +kernel
theorem dL_refuses_784 : decode cL_refuses 784 = .ok (.bipush 11, 2) := by decide +kernel
theorem dL_refuses_786 : decode cL_refuses 786 = .ok (.iload 5, 2) := by decide +kernel
theorem dL_refuses_788 : decode cL_refuses 788 = .ok (.iload 5, 2) := by decide +kernel
theorem dL_refuses_790 : decode cL_refuses 790 = .ok (.iconst 0, 1) := by decide +kernel
theorem dL_refuses_791 : decode cL_refuses 791 = .ok (.invokestatic 184, 3) := by decide +kernel
theorem dL_refuses_794 : decode cL_refuses 794 = .ok (.ldc 29, 2) := by decide +kernel
theorem dL_refuses_796 : decode cL_refuses 796 = .ok (.if_icmp .ne 125, 3) := by decide +kernel
theorem dL_refuses_799 : decode cL_refuses 799 = .ok (.aload_n 0, 1) := by decide +kernel
theorem dL_refuses_800 : decode cL_refuses 800 = .ok (.bipush 11, 2) := by decide +kernel
theorem dL_refuses_802 : decode cL_refuses 802 = .ok (.iload 5, 2) := by decide +kernel
theorem dL_refuses_804 : decode cL_refuses 804 = .ok (.iload 5, 2) := by decide +kernel
theorem dL_refuses_806 : decode cL_refuses 806 = .ok (.iconst 1, 1) := by decide +kernel
theorem dL_refuses_807 : decode cL_refuses 807 = .ok (.invokestatic 184, 3) := by decide +kernel
theorem dL_refuses_810 : decode cL_refuses 810 = .ok (.ldc 18, 2) := by decide +kernel
theorem dL_refuses_812 : decode cL_refuses 812 = .ok (.if_icmp .ne 109, 3) := by decide +kernel
theorem dL_refuses_815 : decode cL_refuses 815 = .ok (.aload_n 0, 1) := by decide +kernel
theorem dL_refuses_816 : decode cL_refuses 816 = .ok (.bipush 12, 2) := by decide +kernel
theorem dL_refuses_818 : decode cL_refuses 818 = .ok (.iload 5, 2) := by decide +kernel
theorem dL_refuses_820 : decode cL_refuses 820 = .ok (.bipush 40, 2) := by decide +kernel
theorem dL_refuses_822 : decode cL_refuses 822 = .ok (.iconst (-1), 1) := by decide +kernel
theorem dL_refuses_823 : decode cL_refuses 823 = .ok (.invokestatic 184, 3) := by decide +kernel
theorem dL_refuses_826 : decode cL_refuses 826 = .ok (.ldc 15, 2) := by decide +kernel
theorem dL_refuses_828 : decode cL_refuses 828 = .ok (.if_icmp .ne 93, 3) := by decide +kernel
theorem dL_refuses_831 : decode cL_refuses 831 = .ok (.aload_n 0, 1) := by decide +kernel
theorem dL_refuses_832 : decode cL_refuses 832 = .ok (.bipush 12, 2) := by decide +kernel
theorem dL_refuses_834 : decode cL_refuses 834 = .ok (.iload 5, 2) := by decide +kernel
theorem dL_refuses_836 : decode cL_refuses 836 = .ok (.iconst 5, 1) := by decide +kernel
theorem dL_refuses_837 : decode cL_refuses 837 = .ok (.iload_n 1, 1) := by decide +kernel
theorem dL_refuses_838 : decode cL_refuses 838 = .ok (.bipush 30, 2) := by decide +kernel
theorem dL_refuses_840 : decode cL_refuses 840 = .ok (.irem, 1) := by decide +kernel
theorem dL_refuses_841 : decode cL_refuses 841 = .ok (.iadd, 1) := by decide +kernel
theorem dL_refuses_842 : decode cL_refuses 842 = .ok (.iload_n 1, 1) := by decide +kernel
theorem dL_refuses_843 : decode cL_refuses 843 = .ok (.iconst 5, 1) := by decide +kernel
theorem dL_refuses_844 : decode cL_refuses 844 = .ok (.irem, 1) := by decide +kernel
theorem dL_refuses_845 : decode cL_refuses 845 = .ok (.invokestatic 184, 3) := by decide +kernel
theorem dL_refuses_848 : decode cL_refuses 848 = .ok (.ldc 29, 2) := by decide +kernel
theorem dL_refuses_850 : decode cL_refuses 850 = .ok (.if_icmp .ne 71, 3) := by decide +kernel
theorem dL_refuses_853 : decode cL_refuses 853 = .ok (.aload_n 0, 1) := by decide +kernel
theorem dL_refuses_854 : decode cL_refuses 854 = .ok (.bipush 19, 2) := by decide +kernel
theorem dL_refuses_856 : decode cL_refuses 856 = .ok (.iload 5, 2) := by decide +kernel
theorem dL_refuses_858 : decode cL_refuses 858 = .ok (.iconst 0, 1) := by decide +kernel
theorem dL_refuses_859 : decode cL_refuses 859 = .ok (.bipush 40, 2) := by decide +kernel
theorem dL_refuses_861 : decode cL_refuses 861 = .ok (.iload_n 1, 1) := by decide +kernel
theorem dL_refuses_862 : decode cL_refuses 862 = .ok (.bipush 9, 2) := by decide +kernel
theorem dL_refuses_864 : decode cL_refuses 864 = .ok (.irem, 1) := by decide +kernel
theorem dL_refuses_865 : decode cL_refuses 865 = .ok (.iadd, 1) := by decide +kernel
theorem dL_refuses_866 : decode cL_refuses 866 = .ok (.invokestatic 184, 3) := by decide +kernel
theorem dL_refuses_869 : decode cL_refuses 869 = .ok (.ldc 29, 2) := by decide +kernel
theorem dL_refuses_871 : decode cL_refuses 871 = .ok (.if_icmp .ne 50, 3) := by decide +kernel
theorem dL_refuses_874 : decode cL_refuses 874 = .ok (.aload_n 0, 1) := by decide +kernel
theorem dL_refuses_875 : decode cL_refuses 875 = .ok (.iload 5, 2) := by decide +kernel
theorem dL_refuses_877 : decode cL_refuses 877 = .ok (.bipush 40, 2) := by decide +kernel
theorem dL_refuses_879 : decode cL_refuses 879 = .ok (.iconst 1, 1) := by decide +kernel
theorem dL_refuses_880 : decode cL_refuses 880 = .ok (.invokestatic 188, 3) := by decide +kernel
theorem dL_refuses_883 : decode cL_refuses 883 = .ok (.ldc 15, 2) := by decide +kernel
theorem dL_refuses_885 : decode cL_refuses 885 = .ok (.if_icmp .ne 36, 3) := by decide +kernel
theorem dL_refuses_888 : decode cL_refuses 888 = .ok (.iload_n 3, 1) := by decide +kernel
theorem dL_refuses_889 : decode cL_refuses 889 = .ok (.ifCond .eq 28, 3) := by decide +kernel
theorem dL_refuses_892 : decode cL_refuses 892 = .ok (.aload_n 0, 1) := by decide +kernel
theorem dL_refuses_893 : decode cL_refuses 893 = .ok (.iload 5, 2) := by decide +kernel
theorem dL_refuses_895 : decode cL_refuses 895 = .ok (.iload_n 1, 1) := by decide +kernel
theorem dL_refuses_896 : decode cL_refuses 896 = .ok (.iload_n 3, 1) := by decide +kernel
theorem dL_refuses_897 : decode cL_refuses 897 = .ok (.irem, 1) := by decide +kernel
theorem dL_refuses_898 : decode cL_refuses 898 = .ok (.iload_n 1, 1) := by decide +kernel
theorem dL_refuses_899 : decode cL_refuses 899 = .ok (.iconst 2, 1) := by decide +kernel
theorem dL_refuses_900 : decode cL_refuses 900 = .ok (.irem, 1) := by decide +kernel
theorem dL_refuses_901 : decode cL_refuses 901 = .ok (.ifCond .ne 7, 3) := by decide +kernel
theorem dL_refuses_904 : decode cL_refuses 904 = .ok (.iconst 1, 1) := by decide +kernel
theorem dL_refuses_905 : decode cL_refuses 905 = .ok (.goto 4, 3) := by decide +kernel
theorem dL_refuses_908 : decode cL_refuses 908 = .ok (.iconst 0, 1) := by decide +kernel
theorem dL_refuses_909 : decode cL_refuses 909 = .ok (.invokestatic 188, 3) := by decide +kernel
theorem dL_refuses_912 : decode cL_refuses 912 = .ok (.ldc 18, 2) := by decide +kernel
theorem dL_refuses_914 : decode cL_refuses 914 = .ok (.if_icmp .ne 7, 3) := by decide +kernel
theorem dL_refuses_917 : decode cL_refuses 917 = .ok (.iconst 1, 1) := by decide +kernel
theorem dL_refuses_918 : decode cL_refuses 918 = .ok (.goto 4, 3) := by decide +kernel
theorem dL_refuses_921 : decode cL_refuses 921 = .ok (.iconst 0, 1) := by decide +kernel
theorem dL_refuses_922 : decode cL_refuses 922 = .ok (.istore 4, 2) := by decide +kernel
theorem dL_refuses_924 : decode cL_refuses 924 = .ok (.iload 4, 2) := by decide +kernel
theorem dL_refuses_926 : decode cL_refuses 926 = .ok (.ifCond .eq 84, 3) := by decide +kernel
theorem dL_refuses_929 : decode cL_refuses 929 = .ok (.aload_n 0, 1) := by decide +kernel
theorem dL_refuses_930 : decode cL_refuses 930 = .ok (.iconst 4, 1) := by decide +kernel
theorem dL_refuses_931 : decode cL_refuses 931 = .ok (.lconst 0, 1) := by decide +kernel
theorem dL_refuses_932 : decode cL_refuses 932 = .ok (.invokestatic 196, 3) := by decide +kernel
theorem dL_refuses_935 : decode cL_refuses 935 = .ok (.ldc 29, 2) := by decide +kernel
theorem dL_refuses_937 : decode cL_refuses 937 = .ok (.if_icmp .ne 73, 3) := by decide +kernel
theorem dL_refuses_940 : decode cL_refuses 940 = .ok (.aload_n 0, 1) := by decide +kernel
theorem dL_refuses_941 : decode cL_refuses 941 = .ok (.iconst 1, 1) := by decide +kernel
theorem dL_refuses_942 : decode cL_refuses 942 = .ok (.ldc2_w 200, 3) := by decide +kernel
theorem dL_refuses_945 : decode cL_refuses 945 = .ok (.iload_n 1, 1) := by decide +kernel
theorem dL_refuses_946 : decode cL_refuses 946 = .ok (.i2l, 1) := by decide +kernel
theorem dL_refuses_947 : decode cL_refuses 947 = .ok (.ladd, 1) := by decide +kernel
theorem dL_refuses_948 : decode cL_refuses 948 = .ok (.invokestatic 196, 3) := by decide +kernel
theorem dL_refuses_951 : decode cL_refuses 951 = .ok (.ldc 29, 2) := by decide +kernel
theorem dL_refuses_953 : decode cL_refuses 953 = .ok (.if_icmp .ne 57, 3) := by decide +kernel
theorem dL_refuses_956 : decode cL_refuses 956 = .ok (.aload_n 0, 1) := by decide +kernel
theorem dL_refuses_957 : decode cL_refuses 957 = .ok (.iconst 2, 1) := by decide +kernel
theorem dL_refuses_958 : decode cL_refuses 958 = .ok (.ldc2_w 202, 3) := by decide +kernel
theorem dL_refuses_961 : decode cL_refuses 961 = .ok (.iload_n 1, 1) := by decide +kernel
theorem dL_refuses_962 : decode cL_refuses 962 = .ok (.i2l, 1) := by decide +kernel
theorem dL_refuses_963 : decode cL_refuses 963 = .ok (.lsub, 1) := by decide +kernel
theorem dL_refuses_964 : decode cL_refuses 964 = .ok (.invokestatic 196, 3) := by decide +kernel
theorem dL_refuses_967 : decode cL_refuses 967 = .ok (.ldc 29, 2) := by decide +kernel
theorem dL_refuses_969 : decode cL_refuses 969 = .ok (.if_icmp .ne 41, 3) := by decide +kernel
theorem dL_refuses_972 : decode cL_refuses 972 = .ok (.aload_n 0, 1) := by decide +kernel
theorem dL_refuses_973 : decode cL_refuses 973 = .ok (.iload_n 1, 1) := by decide +kernel
theorem dL_refuses_974 : decode cL_refuses 974 = .ok (.i2l, 1) := by decide +kernel
theorem dL_refuses_975 : decode cL_refuses 975 = .ok (.bipush 100, 2) := by decide +kernel
theorem dL_refuses_977 : decode cL_refuses 977 = .ok (.invokestatic 204, 3) := by decide +kernel
theorem dL_refuses_980 : decode cL_refuses 980 = .ok (.ldc 29, 2) := by decide +kernel
theorem dL_refuses_982 : decode cL_refuses 982 = .ok (.if_icmp .ne 28, 3) := by decide +kernel
theorem dL_refuses_985 : decode cL_refuses 985 = .ok (.aload_n 0, 1) := by decide +kernel
theorem dL_refuses_986 : decode cL_refuses 986 = .ok (.invokevirtual 208, 3) := by decide +kernel
theorem dL_refuses_989 : decode cL_refuses 989 = .ok (.iconst (-1), 1) := by decide +kernel
theorem dL_refuses_990 : decode cL_refuses 990 = .ok (.if_icmp .eq 16, 3) := by decide +kernel
theorem dL_refuses_993 : decode cL_refuses 993 = .ok (.aload_n 0, 1) := by decide +kernel
theorem dL_refuses_994 : decode cL_refuses 994 = .ok (.iconst 1, 1) := by decide +kernel
theorem dL_refuses_995 : decode cL_refuses 995 = .ok (.iconst 0, 1) := by decide +kernel
theorem dL_refuses_996 : decode cL_refuses 996 = .ok (.iconst 0, 1) := by decide +kernel
theorem dL_refuses_997 : decode cL_refuses 997 = .ok (.iconst 0, 1) := by decide +kernel
theorem dL_refuses_998 : decode cL_refuses 998 = .ok (.invokestatic 184, 3) := by decide +kernel
theorem dL_refuses_1001 : decode cL_refuses 1001 = .ok (.ldc 18, 2) := by decide +kernel
theorem dL_refuses_1003 : decode cL_refuses 1003 = .ok (.if_icmp .ne 7, 3) := by decide +kernel
theorem dL_refuses_1006 : decode cL_refuses 1006 = .ok (.iconst 1, 1) := by decide +kernel
theorem dL_refuses_1007 : decode cL_refuses 1007 = .ok (.goto 4, 3) := by decide +kernel
theorem dL_refuses_1010 : decode cL_refuses 1010 = .ok (.iconst 0, 1) := by decide +kernel
theorem dL_refuses_1011 : decode cL_refuses 1011 = .ok (.ireturn, 1) := by decide +kernel
theorem dL_alike_0 : decode cL_alike 0 = .ok (.aload_n 0, 1) := by decide +kernel
theorem dL_alike_1 : decode cL_alike 1 = .ok (.invokevirtual 208, 3) := by decide +kernel
theorem dL_alike_4 : decode cL_alike 4 = .ok (.aload_n 1, 1) := by decide +kernel
theorem dL_alike_5 : decode cL_alike 5 = .ok (.invokevirtual 208, 3) := by decide +kernel
theorem dL_alike_8 : decode cL_alike 8 = .ok (.if_icmp .ne 7, 3) := by decide +kernel
theorem dL_alike_11 : decode cL_alike 11 = .ok (.iconst 1, 1) := by decide +kernel
theorem dL_alike_12 : decode cL_alike 12 = .ok (.goto 4, 3) := by decide +kernel
theorem dL_alike_15 : decode cL_alike 15 = .ok (.iconst 0, 1) := by decide +kernel
theorem dL_alike_16 : decode cL_alike 16 = .ok (.istore_n 3, 1) := by decide +kernel
theorem dL_alike_17 : decode cL_alike 17 = .ok (.iconst 0, 1) := by decide +kernel
theorem dL_alike_18 : decode cL_alike 18 = .ok (.istore 4, 2) := by decide +kernel
theorem dL_alike_20 : decode cL_alike 20 = .ok (.iload 4, 2) := by decide +kernel
theorem dL_alike_22 : decode cL_alike 22 = .ok (.bipush 12, 2) := by decide +kernel
theorem dL_alike_24 : decode cL_alike 24 = .ok (.if_icmp .ge 63, 3) := by decide +kernel
theorem dL_alike_27 : decode cL_alike 27 = .ok (.iload_n 3, 1) := by decide +kernel
theorem dL_alike_28 : decode cL_alike 28 = .ok (.ifCond .eq 59, 3) := by decide +kernel
theorem dL_alike_31 : decode cL_alike 31 = .ok (.aload_n 0, 1) := by decide +kernel
theorem dL_alike_32 : decode cL_alike 32 = .ok (.iconst 2, 1) := by decide +kernel
theorem dL_alike_33 : decode cL_alike 33 = .ok (.iload 4, 2) := by decide +kernel
theorem dL_alike_35 : decode cL_alike 35 = .ok (.iconst 0, 1) := by decide +kernel
theorem dL_alike_36 : decode cL_alike 36 = .ok (.iconst 0, 1) := by decide +kernel
theorem dL_alike_37 : decode cL_alike 37 = .ok (.invokestatic 184, 3) := by decide +kernel
theorem dL_alike_40 : decode cL_alike 40 = .ok (.aload_n 1, 1) := by decide +kernel
theorem dL_alike_41 : decode cL_alike 41 = .ok (.iconst 2, 1) := by decide +kernel
theorem dL_alike_42 : decode cL_alike 42 = .ok (.iload 4, 2) := by decide +kernel
theorem dL_alike_44 : decode cL_alike 44 = .ok (.iconst 0, 1) := by decide +kernel
theorem dL_alike_45 : decode cL_alike 45 = .ok (.iconst 0, 1) := by decide +kernel
theorem dL_alike_46 : decode cL_alike 46 = .ok (.invokestatic 184, 3) := by decide +kernel
theorem dL_alike_49 : decode cL_alike 49 = .ok (.if_icmp .ne 30, 3) := by decide +kernel
theorem dL_alike_52 : decode cL_alike 52 = .ok (.aload_n 0, 1) := by decide +kernel
theorem dL_alike_53 : decode cL_alike 53 = .ok (.bipush 7, 2) := by decide +kernel
theorem dL_alike_55 : decode cL_alike 55 = .ok (.iload 4, 2) := by decide +kernel
theorem dL_alike_57 : decode cL_alike 57 = .ok (.iconst 0, 1) := by decide +kernel
theorem dL_alike_58 : decode cL_alike 58 = .ok (.iconst 0, 1) := by decide +kernel
theorem dL_alike_59 : decode cL_alike 59 = .ok (.invokestatic 184, 3) := by decide +kernel
theorem dL_alike_62 : decode cL_alike 62 = .ok (.aload_n 1, 1) := by decide +kernel
theorem dL_alike_63 : decode cL_alike 63 = .ok (.bipush 7, 2) := by decide +kernel
theorem dL_alike_65 : decode cL_alike 65 = .ok (.iload 4, 2) := by decide +kernel
theorem dL_alike_67 : decode cL_alike 67 = .ok (.iconst 0, 1) := by decide +kernel
theorem dL_alike_68 : decode cL_alike 68 = .ok (.iconst 0, 1) := by decide +kernel
theorem dL_alike_69 : decode cL_alike 69 = .ok (.invokestatic 184, 3) := by decide +kernel
theorem dL_alike_72 : decode cL_alike 72 = .ok (.if_icmp .ne 7, 3) := by decide +kernel
theorem dL_alike_75 : decode cL_alike 75 = .ok (.iconst 1, 1) := by decide +kernel
theorem dL_alike_76 : decode cL_alike 76 = .ok (.goto 4, 3) := by decide +kernel
theorem dL_alike_79 : decode cL_alike 79 = .ok (.iconst 0, 1) := by decide +kernel
theorem dL_alike_80 : decode cL_alike 80 = .ok (.istore_n 3, 1) := by decide +kernel
theorem dL_alike_81 : decode cL_alike 81 = .ok (.iinc 4 1, 3) := by decide +kernel
theorem dL_alike_84 : decode cL_alike 84 = .ok (.goto (-64), 3) := by decide +kernel
theorem dL_alike_87 : decode cL_alike 87 = .ok (.aload_n 0, 1) := by decide +kernel
theorem dL_alike_88 : decode cL_alike 88 = .ok (.iconst 2, 1) := by decide +kernel
theorem dL_alike_89 : decode cL_alike 89 = .ok (.iconst 1, 1) := by decide +kernel
theorem dL_alike_90 : decode cL_alike 90 = .ok (.iconst 0, 1) := by decide +kernel
theorem dL_alike_91 : decode cL_alike 91 = .ok (.iconst 0, 1) := by decide +kernel
theorem dL_alike_92 : decode cL_alike 92 = .ok (.invokestatic 184, 3) := by decide +kernel
theorem dL_alike_95 : decode cL_alike 95 = .ok (.istore 4, 2) := by decide +kernel
theorem dL_alike_97 : decode cL_alike 97 = .ok (.iconst 0, 1) := by decide +kernel
theorem dL_alike_98 : decode cL_alike 98 = .ok (.istore 5, 2) := by decide +kernel
theorem dL_alike_100 : decode cL_alike 100 = .ok (.iload 5, 2) := by decide +kernel
theorem dL_alike_102 : decode cL_alike 102 = .ok (.iload 4, 2) := by decide +kernel
theorem dL_alike_104 : decode cL_alike 104 = .ok (.if_icmp .ge 135, 3) := by decide +kernel
theorem dL_alike_107 : decode cL_alike 107 = .ok (.iload_n 3, 1) := by decide +kernel
theorem dL_alike_108 : decode cL_alike 108 = .ok (.ifCond .eq 131, 3) := by decide +kernel
theorem dL_alike_111 : decode cL_alike 111 = .ok (.aload_n 0, 1) := by decide +kernel
theorem dL_alike_112 : decode cL_alike 112 = .ok (.iconst 3, 1) := by decide +kernel
theorem dL_alike_113 : decode cL_alike 113 = .ok (.iload 5, 2) := by decide +kernel
theorem dL_alike_115 : decode cL_alike 115 = .ok (.iload_n 2, 1) := by decide +kernel
theorem dL_alike_116 : decode cL_alike 116 = .ok (.bipush 9, 2) := by decide +kernel
theorem dL_alike_118 : decode cL_alike 118 = .ok (.irem, 1) := by decide +kernel
theorem dL_alike_119 : decode cL_alike 119 = .ok (.iconst 0, 1) := by decide +kernel
theorem dL_alike_120 : decode cL_alike 120 = .ok (.invokestatic 184, 3) := by decide +kernel
theorem dL_alike_123 : decode cL_alike 123 = .ok (.aload_n 1, 1) := by decide +kernel
theorem dL_alike_124 : decode cL_alike 124 = .ok (.iconst 3, 1) := by decide +kernel
theorem dL_alike_125 : decode cL_alike 125 = .ok (.iload 5, 2) := by decide +kernel
theorem dL_alike_127 : decode cL_alike 127 = .ok (.iload_n 2, 1) := by decide +kernel
theorem dL_alike_128 : decode cL_alike 128 = .ok (.bipush 9, 2) := by decide +kernel
theorem dL_alike_130 : decode cL_alike 130 = .ok (.irem, 1) := by decide +kernel
theorem dL_alike_131 : decode cL_alike 131 = .ok (.iconst 0, 1) := by decide +kernel
theorem dL_alike_132 : decode cL_alike 132 = .ok (.invokestatic 184, 3) := by decide +kernel
theorem dL_alike_135 : decode cL_alike 135 = .ok (.if_icmp .ne 96, 3) := by decide +kernel
theorem dL_alike_138 : decode cL_alike 138 = .ok (.aload_n 0, 1) := by decide +kernel
theorem dL_alike_139 : decode cL_alike 139 = .ok (.iconst 3, 1) := by decide +kernel
theorem dL_alike_140 : decode cL_alike 140 = .ok (.iload 5, 2) := by decide +kernel
theorem dL_alike_142 : decode cL_alike 142 = .ok (.iconst 2, 1) := by decide +kernel
theorem dL_alike_143 : decode cL_alike 143 = .ok (.iconst 0, 1) := by decide +kernel
theorem dL_alike_144 : decode cL_alike 144 = .ok (.invokestatic 184, 3) := by decide +kernel
theorem dL_alike_147 : decode cL_alike 147 = .ok (.aload_n 1, 1) := by decide +kernel
theorem dL_alike_148 : decode cL_alike 148 = .ok (.iconst 3, 1) := by decide +kernel
theorem dL_alike_149 : decode cL_alike 149 = .ok (.iload 5, 2) := by decide +kernel
theorem dL_alike_151 : decode cL_alike 151 = .ok (.iconst 2, 1) := by decide +kernel
theorem dL_alike_152 : decode cL_alike 152 = .ok (.iconst 0, 1) := by decide +kernel
theorem dL_alike_153 : decode cL_alike 153 = .ok (.invokestatic 184, 3) := by decide +kernel
theorem dL_alike_156 : decode cL_alike 156 = .ok (.if_icmp .ne 75, 3) := by decide +kernel
theorem dL_alike_159 : decode cL_alike 159 = .ok (.aload_n 0, 1) := by decide +kernel
theorem dL_alike_160 : decode cL_alike 160 = .ok (.bipush 6, 2) := by decide +kernel
theorem dL_alike_162 : decode cL_alike 162 = .ok (.iload 5, 2) := by decide +kernel
theorem dL_alike_164 : decode cL_alike 164 = .ok (.iload_n 2, 1) := by decide +kernel
theorem dL_alike_165 : decode cL_alike 165 = .ok (.bipush 40, 2) := by decide +kernel
theorem dL_alike_167 : decode cL_alike 167 = .ok (.irem, 1) := by decide +kernel
theorem dL_alike_168 : decode cL_alike 168 = .ok (.iload_n 2, 1) := by decide +kernel
theorem dL_alike_169 : decode cL_alike 169 = .ok (.bipush 64, 2) := by decide +kernel
theorem dL_alike_171 : decode cL_alike 171 = .ok (.idiv, 1) := by decide +kernel
theorem dL_alike_172 : decode cL_alike 172 = .ok (.iconst 3, 1) := by decide +kernel
theorem dL_alike_173 : decode cL_alike 173 = .ok (.irem, 1) := by decide +kernel
theorem dL_alike_174 : decode cL_alike 174 = .ok (.invokestatic 184, 3) := by decide +kernel
theorem dL_alike_177 : decode cL_alike 177 = .ok (.aload_n 1, 1) := by decide +kernel
theorem dL_alike_178 : decode cL_alike 178 = .ok (.bipush 6, 2) := by decide +kernel
theorem dL_alike_180 : decode cL_alike 180 = .ok (.iload 5, 2) := by decide +kernel
theorem dL_alike_182 : decode cL_alike 182 = .ok (.iload_n 2, 1) := by decide +kernel
theorem dL_alike_183 : decode cL_alike 183 = .ok (.bipush 40, 2) := by decide +kernel
theorem dL_alike_185 : decode cL_alike 185 = .ok (.irem, 1) := by decide +kernel
theorem dL_alike_186 : decode cL_alike 186 = .ok (.iload_n 2, 1) := by decide +kernel
theorem dL_alike_187 : decode cL_alike 187 = .ok (.bipush 64, 2) := by decide +kernel
theorem dL_alike_189 : decode cL_alike 189 = .ok (.idiv, 1) := by decide +kernel
theorem dL_alike_190 : decode cL_alike 190 = .ok (.iconst 3, 1) := by decide +kernel
theorem dL_alike_191 : decode cL_alike 191 = .ok (.irem, 1) := by decide +kernel
theorem dL_alike_192 : decode cL_alike 192 = .ok (.invokestatic 184, 3) := by decide +kernel
theorem dL_alike_195 : decode cL_alike 195 = .ok (.if_icmp .ne 36, 3) := by decide +kernel
theorem dL_alike_198 : decode cL_alike 198 = .ok (.aload_n 0, 1) := by decide +kernel
theorem dL_alike_199 : decode cL_alike 199 = .ok (.bipush 6, 2) := by decide +kernel
theorem dL_alike_201 : decode cL_alike 201 = .ok (.iload 5, 2) := by decide +kernel
theorem dL_alike_203 : decode cL_alike 203 = .ok (.iload_n 2, 1) := by decide +kernel
theorem dL_alike_204 : decode cL_alike 204 = .ok (.bipush 12, 2) := by decide +kernel
theorem dL_alike_206 : decode cL_alike 206 = .ok (.irem, 1) := by decide +kernel
theorem dL_alike_207 : decode cL_alike 207 = .ok (.iconst 0, 1) := by decide +kernel
theorem dL_alike_208 : decode cL_alike 208 = .ok (.invokestatic 184, 3) := by decide +kernel
theorem dL_alike_211 : decode cL_alike 211 = .ok (.aload_n 1, 1) := by decide +kernel
theorem dL_alike_212 : decode cL_alike 212 = .ok (.bipush 6, 2) := by decide +kernel
theorem dL_alike_214 : decode cL_alike 214 = .ok (.iload 5, 2) := by decide +kernel
theorem dL_alike_216 : decode cL_alike 216 = .ok (.iload_n 2, 1) := by decide +kernel
theorem dL_alike_217 : decode cL_alike 217 = .ok (.bipush 12, 2) := by decide +kernel
theorem dL_alike_219 : decode cL_alike 219 = .ok (.irem, 1) := by decide +kernel
theorem dL_alike_220 : decode cL_alike 220 = .ok (.iconst 0, 1) := by decide +kernel
theorem dL_alike_221 : decode cL_alike 221 = .ok (.invokestatic 184, 3) := by decide +kernel
theorem dL_alike_224 : decode cL_alike 224 = .ok (.if_icmp .ne 7, 3) := by decide +kernel
theorem dL_alike_227 : decode cL_alike 227 = .ok (.iconst 1, 1) := by decide +kernel
theorem dL_alike_228 : decode cL_alike 228 = .ok (.goto 4, 3) := by decide +kernel
theorem dL_alike_231 : decode cL_alike 231 = .ok (.iconst 0, 1) := by decide +kernel
theorem dL_alike_232 : decode cL_alike 232 = .ok (.istore_n 3, 1) := by decide +kernel
theorem dL_alike_233 : decode cL_alike 233 = .ok (.iinc 5 1, 3) := by decide +kernel
theorem dL_alike_236 : decode cL_alike 236 = .ok (.goto (-136), 3) := by decide +kernel
theorem dL_alike_239 : decode cL_alike 239 = .ok (.iconst 0, 1) := by decide +kernel
theorem dL_alike_240 : decode cL_alike 240 = .ok (.istore 5, 2) := by decide +kernel
theorem dL_alike_242 : decode cL_alike 242 = .ok (.iload 5, 2) := by decide +kernel
theorem dL_alike_244 : decode cL_alike 244 = .ok (.iconst 5, 1) := by decide +kernel
theorem dL_alike_245 : decode cL_alike 245 = .ok (.if_icmp .ge 44, 3) := by decide +kernel
theorem dL_alike_248 : decode cL_alike 248 = .ok (.iload_n 3, 1) := by decide +kernel
theorem dL_alike_249 : decode cL_alike 249 = .ok (.ifCond .eq 40, 3) := by decide +kernel
theorem dL_alike_252 : decode cL_alike 252 = .ok (.aload_n 0, 1) := by decide +kernel
theorem dL_alike_253 : decode cL_alike 253 = .ok (.iconst 4, 1) := by decide +kernel
theorem dL_alike_254 : decode cL_alike 254 = .ok (.iload 5, 2) := by decide +kernel
theorem dL_alike_256 : decode cL_alike 256 = .ok (.iload_n 2, 1) := by decide +kernel
theorem dL_alike_257 : decode cL_alike 257 = .ok (.iconst 5, 1) := by decide +kernel
theorem dL_alike_258 : decode cL_alike 258 = .ok (.irem, 1) := by decide +kernel
theorem dL_alike_259 : decode cL_alike 259 = .ok (.iconst 0, 1) := by decide +kernel
theorem dL_alike_260 : decode cL_alike 260 = .ok (.invokestatic 184, 3) := by decide +kernel
theorem dL_alike_263 : decode cL_alike 263 = .ok (.aload_n 1, 1) := by decide +kernel
theorem dL_alike_264 : decode cL_alike 264 = .ok (.iconst 4, 1) := by decide +kernel
theorem dL_alike_265 : decode cL_alike 265 = .ok (.iload 5, 2) := by decide +kernel
theorem dL_alike_267 : decode cL_alike 267 = .ok (.iload_n 2, 1) := by decide +kernel
theorem dL_alike_268 : decode cL_alike 268 = .ok (.iconst 5, 1) := by decide +kernel
theorem dL_alike_269 : decode cL_alike 269 = .ok (.irem, 1) := by decide +kernel
theorem dL_alike_270 : decode cL_alike 270 = .ok (.iconst 0, 1) := by decide +kernel
theorem dL_alike_271 : decode cL_alike 271 = .ok (.invokestatic 184, 3) := by decide +kernel
theorem dL_alike_274 : decode cL_alike 274 = .ok (.if_icmp .ne 7, 3) := by decide +kernel
theorem dL_alike_277 : decode cL_alike 277 = .ok (.iconst 1, 1) := by decide +kernel
theorem dL_alike_278 : decode cL_alike 278 = .ok (.goto 4, 3) := by decide +kernel
theorem dL_alike_281 : decode cL_alike 281 = .ok (.iconst 0, 1) := by decide +kernel
theorem dL_alike_282 : decode cL_alike 282 = .ok (.istore_n 3, 1) := by decide +kernel
theorem dL_alike_283 : decode cL_alike 283 = .ok (.iinc 5 1, 3) := by decide +kernel
theorem dL_alike_286 : decode cL_alike 286 = .ok (.goto (-44), 3) := by decide +kernel
theorem dL_alike_289 : decode cL_alike 289 = .ok (.iconst 0, 1) := by decide +kernel
theorem dL_alike_290 : decode cL_alike 290 = .ok (.istore 5, 2) := by decide +kernel
theorem dL_alike_292 : decode cL_alike 292 = .ok (.iload 5, 2) := by decide +kernel
theorem dL_alike_294 : decode cL_alike 294 = .ok (.bipush 40, 2) := by decide +kernel
theorem dL_alike_296 : decode cL_alike 296 = .ok (.if_icmp .ge 44, 3) := by decide +kernel
theorem dL_alike_299 : decode cL_alike 299 = .ok (.iload_n 3, 1) := by decide +kernel
theorem dL_alike_300 : decode cL_alike 300 = .ok (.ifCond .eq 40, 3) := by decide +kernel
theorem dL_alike_303 : decode cL_alike 303 = .ok (.aload_n 0, 1) := by decide +kernel
theorem dL_alike_304 : decode cL_alike 304 = .ok (.iconst 5, 1) := by decide +kernel
theorem dL_alike_305 : decode cL_alike 305 = .ok (.iload 5, 2) := by decide +kernel
theorem dL_alike_307 : decode cL_alike 307 = .ok (.iload_n 2, 1) := by decide +kernel
theorem dL_alike_308 : decode cL_alike 308 = .ok (.iconst 4, 1) := by decide +kernel
theorem dL_alike_309 : decode cL_alike 309 = .ok (.irem, 1) := by decide +kernel
theorem dL_alike_310 : decode cL_alike 310 = .ok (.iconst 0, 1) := by decide +kernel
theorem dL_alike_311 : decode cL_alike 311 = .ok (.invokestatic 184, 3) := by decide +kernel
theorem dL_alike_314 : decode cL_alike 314 = .ok (.aload_n 1, 1) := by decide +kernel
theorem dL_alike_315 : decode cL_alike 315 = .ok (.iconst 5, 1) := by decide +kernel
theorem dL_alike_316 : decode cL_alike 316 = .ok (.iload 5, 2) := by decide +kernel
theorem dL_alike_318 : decode cL_alike 318 = .ok (.iload_n 2, 1) := by decide +kernel
theorem dL_alike_319 : decode cL_alike 319 = .ok (.iconst 4, 1) := by decide +kernel
theorem dL_alike_320 : decode cL_alike 320 = .ok (.irem, 1) := by decide +kernel
theorem dL_alike_321 : decode cL_alike 321 = .ok (.iconst 0, 1) := by decide +kernel
theorem dL_alike_322 : decode cL_alike 322 = .ok (.invokestatic 184, 3) := by decide +kernel
theorem dL_alike_325 : decode cL_alike 325 = .ok (.if_icmp .ne 7, 3) := by decide +kernel
theorem dL_alike_328 : decode cL_alike 328 = .ok (.iconst 1, 1) := by decide +kernel
theorem dL_alike_329 : decode cL_alike 329 = .ok (.goto 4, 3) := by decide +kernel
theorem dL_alike_332 : decode cL_alike 332 = .ok (.iconst 0, 1) := by decide +kernel
theorem dL_alike_333 : decode cL_alike 333 = .ok (.istore_n 3, 1) := by decide +kernel
theorem dL_alike_334 : decode cL_alike 334 = .ok (.iinc 5 3, 3) := by decide +kernel
theorem dL_alike_337 : decode cL_alike 337 = .ok (.goto (-45), 3) := by decide +kernel
theorem dL_alike_340 : decode cL_alike 340 = .ok (.iload_n 3, 1) := by decide +kernel
theorem dL_alike_341 : decode cL_alike 341 = .ok (.ifCond .eq 39, 3) := by decide +kernel
theorem dL_alike_344 : decode cL_alike 344 = .ok (.iload 4, 2) := by decide +kernel
theorem dL_alike_346 : decode cL_alike 346 = .ok (.ifCond .eq 30, 3) := by decide +kernel
theorem dL_alike_349 : decode cL_alike 349 = .ok (.aload_n 0, 1) := by decide +kernel
theorem dL_alike_350 : decode cL_alike 350 = .ok (.bipush 17, 2) := by decide +kernel
theorem dL_alike_352 : decode cL_alike 352 = .ok (.iload_n 2, 1) := by decide +kernel
theorem dL_alike_353 : decode cL_alike 353 = .ok (.iload 4, 2) := by decide +kernel
theorem dL_alike_355 : decode cL_alike 355 = .ok (.irem, 1) := by decide +kernel
theorem dL_alike_356 : decode cL_alike 356 = .ok (.iconst 0, 1) := by decide +kernel
theorem dL_alike_357 : decode cL_alike 357 = .ok (.iconst 0, 1) := by decide +kernel
theorem dL_alike_358 : decode cL_alike 358 = .ok (.invokestatic 184, 3) := by decide +kernel
theorem dL_alike_361 : decode cL_alike 361 = .ok (.aload_n 1, 1) := by decide +kernel
theorem dL_alike_362 : decode cL_alike 362 = .ok (.bipush 17, 2) := by decide +kernel
theorem dL_alike_364 : decode cL_alike 364 = .ok (.iload_n 2, 1) := by decide +kernel
theorem dL_alike_365 : decode cL_alike 365 = .ok (.iload 4, 2) := by decide +kernel
theorem dL_alike_367 : decode cL_alike 367 = .ok (.irem, 1) := by decide +kernel
theorem dL_alike_368 : decode cL_alike 368 = .ok (.iconst 0, 1) := by decide +kernel
theorem dL_alike_369 : decode cL_alike 369 = .ok (.iconst 0, 1) := by decide +kernel
theorem dL_alike_370 : decode cL_alike 370 = .ok (.invokestatic 184, 3) := by decide +kernel
theorem dL_alike_373 : decode cL_alike 373 = .ok (.if_icmp .ne 7, 3) := by decide +kernel
theorem dL_alike_376 : decode cL_alike 376 = .ok (.iconst 1, 1) := by decide +kernel
theorem dL_alike_377 : decode cL_alike 377 = .ok (.goto 4, 3) := by decide +kernel
theorem dL_alike_380 : decode cL_alike 380 = .ok (.iconst 0, 1) := by decide +kernel
theorem dL_alike_381 : decode cL_alike 381 = .ok (.ireturn, 1) := by decide +kernel
theorem dL_holds_0 : decode cL_holds 0 = .ok (.aload_n 0, 1) := by decide +kernel
theorem dL_holds_1 : decode cL_holds 1 = .ok (.iconst 2, 1) := by decide +kernel
theorem dL_holds_2 : decode cL_holds 2 = .ok (.iconst 1, 1) := by decide +kernel
theorem dL_holds_3 : decode cL_holds 3 = .ok (.iconst 0, 1) := by decide +kernel
theorem dL_holds_4 : decode cL_holds 4 = .ok (.iconst 0, 1) := by decide +kernel
theorem dL_holds_5 : decode cL_holds 5 = .ok (.invokestatic 184, 3) := by decide +kernel
theorem dL_holds_8 : decode cL_holds 8 = .ok (.istore_n 2, 1) := by decide +kernel
theorem dL_holds_9 : decode cL_holds 9 = .ok (.aload_n 0, 1) := by decide +kernel
theorem dL_holds_10 : decode cL_holds 10 = .ok (.iconst 2, 1) := by decide +kernel
theorem dL_holds_11 : decode cL_holds 11 = .ok (.iconst 0, 1) := by decide +kernel
theorem dL_holds_12 : decode cL_holds 12 = .ok (.iconst 0, 1) := by decide +kernel
theorem dL_holds_13 : decode cL_holds 13 = .ok (.iconst 0, 1) := by decide +kernel
theorem dL_holds_14 : decode cL_holds 14 = .ok (.invokestatic 184, 3) := by decide +kernel
theorem dL_holds_17 : decode cL_holds 17 = .ok (.istore_n 3, 1) := by decide +kernel
theorem dL_holds_18 : decode cL_holds 18 = .ok (.aload_n 0, 1) := by decide +kernel
theorem dL_holds_19 : decode cL_holds 19 = .ok (.iconst 2, 1) := by decide +kernel
theorem dL_holds_20 : decode cL_holds 20 = .ok (.bipush 11, 2) := by decide +kernel
theorem dL_holds_22 : decode cL_holds 22 = .ok (.iconst 0, 1) := by decide +kernel
theorem dL_holds_23 : decode cL_holds 23 = .ok (.iconst 0, 1) := by decide +kernel
theorem dL_holds_24 : decode cL_holds 24 = .ok (.invokestatic 184, 3) := by decide +kernel
theorem dL_holds_27 : decode cL_holds 27 = .ok (.istore 4, 2) := by decide +kernel
theorem dL_holds_29 : decode cL_holds 29 = .ok (.iload 4, 2) := by decide +kernel
theorem dL_holds_31 : decode cL_holds 31 = .ok (.aload_n 0, 1) := by decide +kernel
theorem dL_holds_32 : decode cL_holds 32 = .ok (.iconst 2, 1) := by decide +kernel
theorem dL_holds_33 : decode cL_holds 33 = .ok (.bipush 8, 2) := by decide +kernel
theorem dL_holds_35 : decode cL_holds 35 = .ok (.iconst 0, 1) := by decide +kernel
theorem dL_holds_36 : decode cL_holds 36 = .ok (.iconst 0, 1) := by decide +kernel
theorem dL_holds_37 : decode cL_holds 37 = .ok (.invokestatic 184, 3) := by decide +kernel
theorem dL_holds_40 : decode cL_holds 40 = .ok (.aload_n 0, 1) := by decide +kernel
theorem dL_holds_41 : decode cL_holds 41 = .ok (.iconst 2, 1) := by decide +kernel
theorem dL_holds_42 : decode cL_holds 42 = .ok (.bipush 10, 2) := by decide +kernel
theorem dL_holds_44 : decode cL_holds 44 = .ok (.iconst 0, 1) := by decide +kernel
theorem dL_holds_45 : decode cL_holds 45 = .ok (.iconst 0, 1) := by decide +kernel
theorem dL_holds_46 : decode cL_holds 46 = .ok (.invokestatic 184, 3) := by decide +kernel
theorem dL_holds_49 : decode cL_holds 49 = .ok (.iadd, 1) := by decide +kernel
theorem dL_holds_50 : decode cL_holds 50 = .ok (.aload_n 0, 1) := by decide +kernel
theorem dL_holds_51 : decode cL_holds 51 = .ok (.iconst 2, 1) := by decide +kernel
theorem dL_holds_52 : decode cL_holds 52 = .ok (.bipush 9, 2) := by decide +kernel
theorem dL_holds_54 : decode cL_holds 54 = .ok (.iconst 0, 1) := by decide +kernel
theorem dL_holds_55 : decode cL_holds 55 = .ok (.iconst 0, 1) := by decide +kernel
theorem dL_holds_56 : decode cL_holds 56 = .ok (.invokestatic 184, 3) := by decide +kernel
theorem dL_holds_59 : decode cL_holds 59 = .ok (.isub, 1) := by decide +kernel
theorem dL_holds_60 : decode cL_holds 60 = .ok (.if_icmp .ne 35, 3) := by decide +kernel
theorem dL_holds_63 : decode cL_holds 63 = .ok (.aload_n 0, 1) := by decide +kernel
theorem dL_holds_64 : decode cL_holds 64 = .ok (.iconst 2, 1) := by decide +kernel
theorem dL_holds_65 : decode cL_holds 65 = .ok (.iconst 3, 1) := by decide +kernel
theorem dL_holds_66 : decode cL_holds 66 = .ok (.iconst 0, 1) := by decide +kernel
theorem dL_holds_67 : decode cL_holds 67 = .ok (.iconst 0, 1) := by decide +kernel
theorem dL_holds_68 : decode cL_holds 68 = .ok (.invokestatic 184, 3) := by decide +kernel
theorem dL_holds_71 : decode cL_holds 71 = .ok (.aload_n 0, 1) := by decide +kernel
theorem dL_holds_72 : decode cL_holds 72 = .ok (.iconst 2, 1) := by decide +kernel
theorem dL_holds_73 : decode cL_holds 73 = .ok (.iconst 4, 1) := by decide +kernel
theorem dL_holds_74 : decode cL_holds 74 = .ok (.iconst 0, 1) := by decide +kernel
theorem dL_holds_75 : decode cL_holds 75 = .ok (.iconst 0, 1) := by decide +kernel
theorem dL_holds_76 : decode cL_holds 76 = .ok (.invokestatic 184, 3) := by decide +kernel
theorem dL_holds_79 : decode cL_holds 79 = .ok (.aload_n 0, 1) := by decide +kernel
theorem dL_holds_80 : decode cL_holds 80 = .ok (.iconst 2, 1) := by decide +kernel
theorem dL_holds_81 : decode cL_holds 81 = .ok (.iconst 5, 1) := by decide +kernel
theorem dL_holds_82 : decode cL_holds 82 = .ok (.iconst 0, 1) := by decide +kernel
theorem dL_holds_83 : decode cL_holds 83 = .ok (.iconst 0, 1) := by decide +kernel
theorem dL_holds_84 : decode cL_holds 84 = .ok (.invokestatic 184, 3) := by decide +kernel
theorem dL_holds_87 : decode cL_holds 87 = .ok (.iadd, 1) := by decide +kernel
theorem dL_holds_88 : decode cL_holds 88 = .ok (.if_icmp .ne 7, 3) := by decide +kernel
theorem dL_holds_91 : decode cL_holds 91 = .ok (.iconst 1, 1) := by decide +kernel
theorem dL_holds_92 : decode cL_holds 92 = .ok (.goto 4, 3) := by decide +kernel
theorem dL_holds_95 : decode cL_holds 95 = .ok (.iconst 0, 1) := by decide +kernel
theorem dL_holds_96 : decode cL_holds 96 = .ok (.istore 5, 2) := by decide +kernel
theorem dL_holds_98 : decode cL_holds 98 = .ok (.iconst 0, 1) := by decide +kernel
theorem dL_holds_99 : decode cL_holds 99 = .ok (.istore 6, 2) := by decide +kernel
theorem dL_holds_101 : decode cL_holds 101 = .ok (.iconst 0, 1) := by decide +kernel
theorem dL_holds_102 : decode cL_holds 102 = .ok (.istore 7, 2) := by decide +kernel
theorem dL_holds_104 : decode cL_holds 104 = .ok (.iconst 0, 1) := by decide +kernel
theorem dL_holds_105 : decode cL_holds 105 = .ok (.istore 8, 2) := by decide +kernel
theorem dL_holds_107 : decode cL_holds 107 = .ok (.iload 8, 2) := by decide +kernel
theorem dL_holds_109 : decode cL_holds 109 = .ok (.bipush 40, 2) := by decide +kernel
theorem dL_holds_111 : decode cL_holds 111 = .ok (.if_icmp .ge 88, 3) := by decide +kernel
theorem dL_holds_114 : decode cL_holds 114 = .ok (.iload 5, 2) := by decide +kernel
theorem dL_holds_116 : decode cL_holds 116 = .ok (.ifCond .eq 83, 3) := by decide +kernel
theorem dL_holds_119 : decode cL_holds 119 = .ok (.iload 6, 2) := by decide +kernel
theorem dL_holds_121 : decode cL_holds 121 = .ok (.aload_n 0, 1) := by decide +kernel
theorem dL_holds_122 : decode cL_holds 122 = .ok (.iconst 5, 1) := by decide +kernel
theorem dL_holds_123 : decode cL_holds 123 = .ok (.iload 8, 2) := by decide +kernel
theorem dL_holds_125 : decode cL_holds 125 = .ok (.iconst 1, 1) := by decide +kernel
theorem dL_holds_126 : decode cL_holds 126 = .ok (.iconst 0, 1) := by decide +kernel
theorem dL_holds_127 : decode cL_holds 127 = .ok (.invokestatic 184, 3) := by decide +kernel
theorem dL_holds_130 : decode cL_holds 130 = .ok (.iadd, 1) := by decide +kernel
theorem dL_holds_131 : decode cL_holds 131 = .ok (.istore 6, 2) := by decide +kernel
theorem dL_holds_133 : decode cL_holds 133 = .ok (.iload 7, 2) := by decide +kernel
theorem dL_holds_135 : decode cL_holds 135 = .ok (.aload_n 0, 1) := by decide +kernel
theorem dL_holds_136 : decode cL_holds 136 = .ok (.iconst 5, 1) := by decide +kernel
theorem dL_holds_137 : decode cL_holds 137 = .ok (.iload 8, 2) := by decide +kernel
theorem dL_holds_139 : decode cL_holds 139 = .ok (.iconst 3, 1) := by decide +kernel
theorem dL_holds_140 : decode cL_holds 140 = .ok (.iconst 0, 1) := by decide +kernel
theorem dL_holds_141 : decode cL_holds 141 = .ok (.invokestatic 184, 3) := by decide +kernel
theorem dL_holds_144 : decode cL_holds 144 = .ok (.iadd, 1) := by decide +kernel
theorem dL_holds_145 : decode cL_holds 145 = .ok (.istore 7, 2) := by decide +kernel
theorem dL_holds_147 : decode cL_holds 147 = .ok (.aload_n 0, 1) := by decide +kernel
theorem dL_holds_148 : decode cL_holds 148 = .ok (.iconst 5, 1) := by decide +kernel
theorem dL_holds_149 : decode cL_holds 149 = .ok (.iload 8, 2) := by decide +kernel
theorem dL_holds_151 : decode cL_holds 151 = .ok (.iconst 2, 1) := by decide +kernel
theorem dL_holds_152 : decode cL_holds 152 = .ok (.iconst 0, 1) := by decide +kernel
theorem dL_holds_153 : decode cL_holds 153 = .ok (.invokestatic 184, 3) := by decide +kernel
theorem dL_holds_156 : decode cL_holds 156 = .ok (.aload_n 0, 1) := by decide +kernel
theorem dL_holds_157 : decode cL_holds 157 = .ok (.iconst 5, 1) := by decide +kernel
theorem dL_holds_158 : decode cL_holds 158 = .ok (.iload 8, 2) := by decide +kernel
theorem dL_holds_160 : decode cL_holds 160 = .ok (.iconst 1, 1) := by decide +kernel
theorem dL_holds_161 : decode cL_holds 161 = .ok (.iconst 0, 1) := by decide +kernel
theorem dL_holds_162 : decode cL_holds 162 = .ok (.invokestatic 184, 3) := by decide +kernel
theorem dL_holds_165 : decode cL_holds 165 = .ok (.if_icmp .gt 25, 3) := by decide +kernel
theorem dL_holds_168 : decode cL_holds 168 = .ok (.iload 8, 2) := by decide +kernel
theorem dL_holds_170 : decode cL_holds 170 = .ok (.iload_n 3, 1) := by decide +kernel
theorem dL_holds_171 : decode cL_holds 171 = .ok (.if_icmp .lt 15, 3) := by decide +kernel
theorem dL_holds_174 : decode cL_holds 174 = .ok (.aload_n 0, 1) := by decide +kernel
theorem dL_holds_175 : decode cL_holds 175 = .ok (.iconst 5, 1) := by decide +kernel
theorem dL_holds_176 : decode cL_holds 176 = .ok (.iload 8, 2) := by decide +kernel
theorem dL_holds_178 : decode cL_holds 178 = .ok (.iconst 2, 1) := by decide +kernel
theorem dL_holds_179 : decode cL_holds 179 = .ok (.iconst 0, 1) := by decide +kernel
theorem dL_holds_180 : decode cL_holds 180 = .ok (.invokestatic 184, 3) := by decide +kernel
theorem dL_holds_183 : decode cL_holds 183 = .ok (.ifCond .ne 7, 3) := by decide +kernel
theorem dL_holds_186 : decode cL_holds 186 = .ok (.iconst 1, 1) := by decide +kernel
theorem dL_holds_187 : decode cL_holds 187 = .ok (.goto 4, 3) := by decide +kernel
theorem dL_holds_190 : decode cL_holds 190 = .ok (.iconst 0, 1) := by decide +kernel
theorem dL_holds_191 : decode cL_holds 191 = .ok (.istore 5, 2) := by decide +kernel
theorem dL_holds_193 : decode cL_holds 193 = .ok (.iinc 8 1, 3) := by decide +kernel
theorem dL_holds_196 : decode cL_holds 196 = .ok (.goto (-89), 3) := by decide +kernel
theorem dL_holds_199 : decode cL_holds 199 = .ok (.iload 5, 2) := by decide +kernel
theorem dL_holds_201 : decode cL_holds 201 = .ok (.ifCond .eq 63, 3) := by decide +kernel
theorem dL_holds_204 : decode cL_holds 204 = .ok (.iload 7, 2) := by decide +kernel
theorem dL_holds_206 : decode cL_holds 206 = .ok (.aload_n 0, 1) := by decide +kernel
theorem dL_holds_207 : decode cL_holds 207 = .ok (.iconst 2, 1) := by decide +kernel
theorem dL_holds_208 : decode cL_holds 208 = .ok (.bipush 9, 2) := by decide +kernel
theorem dL_holds_210 : decode cL_holds 210 = .ok (.iconst 0, 1) := by decide +kernel
theorem dL_holds_211 : decode cL_holds 211 = .ok (.iconst 0, 1) := by decide +kernel
theorem dL_holds_212 : decode cL_holds 212 = .ok (.invokestatic 184, 3) := by decide +kernel
theorem dL_holds_215 : decode cL_holds 215 = .ok (.if_icmp .ne 49, 3) := by decide +kernel
theorem dL_holds_218 : decode cL_holds 218 = .ok (.iload 6, 2) := by decide +kernel
theorem dL_holds_220 : decode cL_holds 220 = .ok (.aload_n 0, 1) := by decide +kernel
theorem dL_holds_221 : decode cL_holds 221 = .ok (.iconst 2, 1) := by decide +kernel
theorem dL_holds_222 : decode cL_holds 222 = .ok (.iconst 2, 1) := by decide +kernel
theorem dL_holds_223 : decode cL_holds 223 = .ok (.iconst 0, 1) := by decide +kernel
theorem dL_holds_224 : decode cL_holds 224 = .ok (.iconst 0, 1) := by decide +kernel
theorem dL_holds_225 : decode cL_holds 225 = .ok (.invokestatic 184, 3) := by decide +kernel
theorem dL_holds_228 : decode cL_holds 228 = .ok (.aload_n 0, 1) := by decide +kernel
theorem dL_holds_229 : decode cL_holds 229 = .ok (.iconst 2, 1) := by decide +kernel
theorem dL_holds_230 : decode cL_holds 230 = .ok (.iconst 3, 1) := by decide +kernel
theorem dL_holds_231 : decode cL_holds 231 = .ok (.iconst 0, 1) := by decide +kernel
theorem dL_holds_232 : decode cL_holds 232 = .ok (.iconst 0, 1) := by decide +kernel
theorem dL_holds_233 : decode cL_holds 233 = .ok (.invokestatic 184, 3) := by decide +kernel
theorem dL_holds_236 : decode cL_holds 236 = .ok (.iadd, 1) := by decide +kernel
theorem dL_holds_237 : decode cL_holds 237 = .ok (.aload_n 0, 1) := by decide +kernel
theorem dL_holds_238 : decode cL_holds 238 = .ok (.iconst 2, 1) := by decide +kernel
theorem dL_holds_239 : decode cL_holds 239 = .ok (.bipush 6, 2) := by decide +kernel
theorem dL_holds_241 : decode cL_holds 241 = .ok (.iconst 0, 1) := by decide +kernel
theorem dL_holds_242 : decode cL_holds 242 = .ok (.iconst 0, 1) := by decide +kernel
theorem dL_holds_243 : decode cL_holds 243 = .ok (.invokestatic 184, 3) := by decide +kernel
theorem dL_holds_246 : decode cL_holds 246 = .ok (.iadd, 1) := by decide +kernel
theorem dL_holds_247 : decode cL_holds 247 = .ok (.aload_n 0, 1) := by decide +kernel
theorem dL_holds_248 : decode cL_holds 248 = .ok (.iconst 2, 1) := by decide +kernel
theorem dL_holds_249 : decode cL_holds 249 = .ok (.bipush 7, 2) := by decide +kernel
theorem dL_holds_251 : decode cL_holds 251 = .ok (.iconst 0, 1) := by decide +kernel
theorem dL_holds_252 : decode cL_holds 252 = .ok (.iconst 0, 1) := by decide +kernel
theorem dL_holds_253 : decode cL_holds 253 = .ok (.invokestatic 184, 3) := by decide +kernel
theorem dL_holds_256 : decode cL_holds 256 = .ok (.iadd, 1) := by decide +kernel
theorem dL_holds_257 : decode cL_holds 257 = .ok (.if_icmp .ne 7, 3) := by decide +kernel
theorem dL_holds_260 : decode cL_holds 260 = .ok (.iconst 1, 1) := by decide +kernel
theorem dL_holds_261 : decode cL_holds 261 = .ok (.goto 4, 3) := by decide +kernel
theorem dL_holds_264 : decode cL_holds 264 = .ok (.iconst 0, 1) := by decide +kernel
theorem dL_holds_265 : decode cL_holds 265 = .ok (.istore 5, 2) := by decide +kernel
theorem dL_holds_267 : decode cL_holds 267 = .ok (.iconst 0, 1) := by decide +kernel
theorem dL_holds_268 : decode cL_holds 268 = .ok (.istore 8, 2) := by decide +kernel
theorem dL_holds_270 : decode cL_holds 270 = .ok (.iconst 0, 1) := by decide +kernel
theorem dL_holds_271 : decode cL_holds 271 = .ok (.istore 9, 2) := by decide +kernel
theorem dL_holds_273 : decode cL_holds 273 = .ok (.iconst 0, 1) := by decide +kernel
theorem dL_holds_274 : decode cL_holds 274 = .ok (.istore 10, 2) := by decide +kernel
theorem dL_holds_276 : decode cL_holds 276 = .ok (.iload 10, 2) := by decide +kernel
theorem dL_holds_278 : decode cL_holds 278 = .ok (.iload_n 2, 1) := by decide +kernel
theorem dL_holds_279 : decode cL_holds 279 = .ok (.if_icmp .ge 273, 3) := by decide +kernel
theorem dL_holds_282 : decode cL_holds 282 = .ok (.iload 5, 2) := by decide +kernel
theorem dL_holds_284 : decode cL_holds 284 = .ok (.ifCond .eq 268, 3) := by decide +kernel
theorem dL_holds_287 : decode cL_holds 287 = .ok (.iload 8, 2) := by decide +kernel
theorem dL_holds_289 : decode cL_holds 289 = .ok (.aload_n 0, 1) := by decide +kernel
theorem dL_holds_290 : decode cL_holds 290 = .ok (.iconst 3, 1) := by decide +kernel
theorem dL_holds_291 : decode cL_holds 291 = .ok (.iload 10, 2) := by decide +kernel
theorem dL_holds_293 : decode cL_holds 293 = .ok (.iconst 2, 1) := by decide +kernel
theorem dL_holds_294 : decode cL_holds 294 = .ok (.iconst 0, 1) := by decide +kernel
theorem dL_holds_295 : decode cL_holds 295 = .ok (.invokestatic 184, 3) := by decide +kernel
theorem dL_holds_298 : decode cL_holds 298 = .ok (.iadd, 1) := by decide +kernel
theorem dL_holds_299 : decode cL_holds 299 = .ok (.istore 8, 2) := by decide +kernel
theorem dL_holds_301 : decode cL_holds 301 = .ok (.iload 9, 2) := by decide +kernel
theorem dL_holds_303 : decode cL_holds 303 = .ok (.aload_n 0, 1) := by decide +kernel
theorem dL_holds_304 : decode cL_holds 304 = .ok (.iconst 3, 1) := by decide +kernel
theorem dL_holds_305 : decode cL_holds 305 = .ok (.iload 10, 2) := by decide +kernel
theorem dL_holds_307 : decode cL_holds 307 = .ok (.bipush 7, 2) := by decide +kernel
theorem dL_holds_309 : decode cL_holds 309 = .ok (.iconst 0, 1) := by decide +kernel
theorem dL_holds_310 : decode cL_holds 310 = .ok (.invokestatic 184, 3) := by decide +kernel
theorem dL_holds_313 : decode cL_holds 313 = .ok (.iadd, 1) := by decide +kernel
theorem dL_holds_314 : decode cL_holds 314 = .ok (.istore 9, 2) := by decide +kernel
theorem dL_holds_316 : decode cL_holds 316 = .ok (.iload_n 1, 1) := by decide +kernel
theorem dL_holds_317 : decode cL_holds 317 = .ok (.bipush 40, 2) := by decide +kernel
theorem dL_holds_319 : decode cL_holds 319 = .ok (.irem, 1) := by decide +kernel
theorem dL_holds_320 : decode cL_holds 320 = .ok (.iload 10, 2) := by decide +kernel
theorem dL_holds_322 : decode cL_holds 322 = .ok (.iadd, 1) := by decide +kernel
theorem dL_holds_323 : decode cL_holds 323 = .ok (.bipush 40, 2) := by decide +kernel
theorem dL_holds_325 : decode cL_holds 325 = .ok (.irem, 1) := by decide +kernel
theorem dL_holds_326 : decode cL_holds 326 = .ok (.istore 11, 2) := by decide +kernel
theorem dL_holds_328 : decode cL_holds 328 = .ok (.aload_n 0, 1) := by decide +kernel
theorem dL_holds_329 : decode cL_holds 329 = .ok (.bipush 6, 2) := by decide +kernel
theorem dL_holds_331 : decode cL_holds 331 = .ok (.iload 10, 2) := by decide +kernel
theorem dL_holds_333 : decode cL_holds 333 = .ok (.iload 11, 2) := by decide +kernel
theorem dL_holds_335 : decode cL_holds 335 = .ok (.iconst 0, 1) := by decide +kernel
theorem dL_holds_336 : decode cL_holds 336 = .ok (.invokestatic 184, 3) := by decide +kernel
theorem dL_holds_339 : decode cL_holds 339 = .ok (.istore 12, 2) := by decide +kernel
theorem dL_holds_341 : decode cL_holds 341 = .ok (.aload_n 0, 1) := by decide +kernel
theorem dL_holds_342 : decode cL_holds 342 = .ok (.bipush 6, 2) := by decide +kernel
theorem dL_holds_344 : decode cL_holds 344 = .ok (.iload 10, 2) := by decide +kernel
theorem dL_holds_346 : decode cL_holds 346 = .ok (.iload 11, 2) := by decide +kernel
theorem dL_holds_348 : decode cL_holds 348 = .ok (.iconst 2, 1) := by decide +kernel
theorem dL_holds_349 : decode cL_holds 349 = .ok (.invokestatic 184, 3) := by decide +kernel
theorem dL_holds_352 : decode cL_holds 352 = .ok (.istore 13, 2) := by decide +kernel
theorem dL_holds_354 : decode cL_holds 354 = .ok (.aload_n 0, 1) := by decide +kernel
theorem dL_holds_355 : decode cL_holds 355 = .ok (.iconst 3, 1) := by decide +kernel
theorem dL_holds_356 : decode cL_holds 356 = .ok (.iload 10, 2) := by decide +kernel
theorem dL_holds_358 : decode cL_holds 358 = .ok (.iconst 3, 1) := by decide +kernel
theorem dL_holds_359 : decode cL_holds 359 = .ok (.iconst 0, 1) := by decide +kernel
theorem dL_holds_360 : decode cL_holds 360 = .ok (.invokestatic 184, 3) := by decide +kernel
theorem dL_holds_363 : decode cL_holds 363 = .ok (.iconst (-1), 1) := by decide +kernel
theorem dL_holds_364 : decode cL_holds 364 = .ok (.if_icmp .eq 35, 3) := by decide +kernel
theorem dL_holds_367 : decode cL_holds 367 = .ok (.iload 11, 2) := by decide +kernel
theorem dL_holds_369 : decode cL_holds 369 = .ok (.aload_n 0, 1) := by decide +kernel
theorem dL_holds_370 : decode cL_holds 370 = .ok (.iconst 3, 1) := by decide +kernel
theorem dL_holds_371 : decode cL_holds 371 = .ok (.iload 10, 2) := by decide +kernel
theorem dL_holds_373 : decode cL_holds 373 = .ok (.iconst 3, 1) := by decide +kernel
theorem dL_holds_374 : decode cL_holds 374 = .ok (.iconst 0, 1) := by decide +kernel
theorem dL_holds_375 : decode cL_holds 375 = .ok (.invokestatic 184, 3) := by decide +kernel
theorem dL_holds_378 : decode cL_holds 378 = .ok (.if_icmp .lt 21, 3) := by decide +kernel
theorem dL_holds_381 : decode cL_holds 381 = .ok (.iload 11, 2) := by decide +kernel
theorem dL_holds_383 : decode cL_holds 383 = .ok (.aload_n 0, 1) := by decide +kernel
theorem dL_holds_384 : decode cL_holds 384 = .ok (.iconst 3, 1) := by decide +kernel
theorem dL_holds_385 : decode cL_holds 385 = .ok (.iload 10, 2) := by decide +kernel
theorem dL_holds_387 : decode cL_holds 387 = .ok (.iconst 4, 1) := by decide +kernel
theorem dL_holds_388 : decode cL_holds 388 = .ok (.iconst 0, 1) := by decide +kernel
theorem dL_holds_389 : decode cL_holds 389 = .ok (.invokestatic 184, 3) := by decide +kernel
theorem dL_holds_392 : decode cL_holds 392 = .ok (.if_icmp .gt 7, 3) := by decide +kernel
theorem dL_holds_395 : decode cL_holds 395 = .ok (.iconst 1, 1) := by decide +kernel
theorem dL_holds_396 : decode cL_holds 396 = .ok (.goto 4, 3) := by decide +kernel
theorem dL_holds_399 : decode cL_holds 399 = .ok (.iconst 0, 1) := by decide +kernel
theorem dL_holds_400 : decode cL_holds 400 = .ok (.istore 14, 2) := by decide +kernel
theorem dL_holds_402 : decode cL_holds 402 = .ok (.iload 12, 2) := by decide +kernel
theorem dL_holds_404 : decode cL_holds 404 = .ok (.iconst 2, 1) := by decide +kernel
theorem dL_holds_405 : decode cL_holds 405 = .ok (.if_icmp .ne 48, 3) := by decide +kernel
theorem dL_holds_408 : decode cL_holds 408 = .ok (.iload 14, 2) := by decide +kernel
theorem dL_holds_410 : decode cL_holds 410 = .ok (.ifCond .ne 133, 3) := by decide +kernel
theorem dL_holds_413 : decode cL_holds 413 = .ok (.iload 13, 2) := by decide +kernel
theorem dL_holds_415 : decode cL_holds 415 = .ok (.ifCond .lt 128, 3) := by decide +kernel
theorem dL_holds_418 : decode cL_holds 418 = .ok (.aload_n 0, 1) := by decide +kernel
theorem dL_holds_419 : decode cL_holds 419 = .ok (.iconst 3, 1) := by decide +kernel
theorem dL_holds_420 : decode cL_holds 420 = .ok (.iload 13, 2) := by decide +kernel
theorem dL_holds_422 : decode cL_holds 422 = .ok (.iconst 0, 1) := by decide +kernel
theorem dL_holds_423 : decode cL_holds 423 = .ok (.iconst 0, 1) := by decide +kernel
theorem dL_holds_424 : decode cL_holds 424 = .ok (.invokestatic 184, 3) := by decide +kernel
theorem dL_holds_427 : decode cL_holds 427 = .ok (.aload_n 0, 1) := by decide +kernel
theorem dL_holds_428 : decode cL_holds 428 = .ok (.iconst 3, 1) := by decide +kernel
theorem dL_holds_429 : decode cL_holds 429 = .ok (.iload 10, 2) := by decide +kernel
theorem dL_holds_431 : decode cL_holds 431 = .ok (.iconst 0, 1) := by decide +kernel
theorem dL_holds_432 : decode cL_holds 432 = .ok (.iconst 0, 1) := by decide +kernel
theorem dL_holds_433 : decode cL_holds 433 = .ok (.invokestatic 184, 3) := by decide +kernel
theorem dL_holds_436 : decode cL_holds 436 = .ok (.if_icmp .ne 107, 3) := by decide +kernel
theorem dL_holds_439 : decode cL_holds 439 = .ok (.aload_n 0, 1) := by decide +kernel
theorem dL_holds_440 : decode cL_holds 440 = .ok (.bipush 6, 2) := by decide +kernel
theorem dL_holds_442 : decode cL_holds 442 = .ok (.iload 10, 2) := by decide +kernel
theorem dL_holds_444 : decode cL_holds 444 = .ok (.iload 11, 2) := by decide +kernel
theorem dL_holds_446 : decode cL_holds 446 = .ok (.iconst 1, 1) := by decide +kernel
theorem dL_holds_447 : decode cL_holds 447 = .ok (.invokestatic 184, 3) := by decide +kernel
theorem dL_holds_450 : decode cL_holds 450 = .ok (.ifCond .le 93, 3) := by decide +kernel
theorem dL_holds_453 : decode cL_holds 453 = .ok (.iload 12, 2) := by decide +kernel
theorem dL_holds_455 : decode cL_holds 455 = .ok (.iconst 3, 1) := by decide +kernel
theorem dL_holds_456 : decode cL_holds 456 = .ok (.if_icmp .ne 22, 3) := by decide +kernel
theorem dL_holds_459 : decode cL_holds 459 = .ok (.iload 14, 2) := by decide +kernel
theorem dL_holds_461 : decode cL_holds 461 = .ok (.ifCond .eq 82, 3) := by decide +kernel
theorem dL_holds_464 : decode cL_holds 464 = .ok (.aload_n 0, 1) := by decide +kernel
theorem dL_holds_465 : decode cL_holds 465 = .ok (.bipush 6, 2) := by decide +kernel
theorem dL_holds_467 : decode cL_holds 467 = .ok (.iload 10, 2) := by decide +kernel
theorem dL_holds_469 : decode cL_holds 469 = .ok (.iload 11, 2) := by decide +kernel
theorem dL_holds_471 : decode cL_holds 471 = .ok (.iconst 1, 1) := by decide +kernel
theorem dL_holds_472 : decode cL_holds 472 = .ok (.invokestatic 184, 3) := by decide +kernel
theorem dL_holds_475 : decode cL_holds 475 = .ok (.ifCond .ne 68, 3) := by decide +kernel
theorem dL_holds_478 : decode cL_holds 478 = .ok (.iload 12, 2) := by decide +kernel
theorem dL_holds_480 : decode cL_holds 480 = .ok (.iconst 2, 1) := by decide +kernel
theorem dL_holds_481 : decode cL_holds 481 = .ok (.if_icmp .eq 9, 3) := by decide +kernel
theorem dL_holds_484 : decode cL_holds 484 = .ok (.iload 13, 2) := by decide +kernel
theorem dL_holds_486 : decode cL_holds 486 = .ok (.iconst (-1), 1) := by decide +kernel
theorem dL_holds_487 : decode cL_holds 487 = .ok (.if_icmp .ne 56, 3) := by decide +kernel
theorem dL_holds_490 : decode cL_holds 490 = .ok (.iload 11, 2) := by decide +kernel
theorem dL_holds_492 : decode cL_holds 492 = .ok (.iload_n 3, 1) := by decide +kernel
theorem dL_holds_493 : decode cL_holds 493 = .ok (.if_icmp .ge 12, 3) := by decide +kernel
theorem dL_holds_496 : decode cL_holds 496 = .ok (.iload 12, 2) := by decide +kernel
theorem dL_holds_498 : decode cL_holds 498 = .ok (.iconst 1, 1) := by decide +kernel
theorem dL_holds_499 : decode cL_holds 499 = .ok (.if_icmp .eq 44, 3) := by decide +kernel
theorem dL_holds_502 : decode cL_holds 502 = .ok (.goto 9, 3) := by decide +kernel
theorem dL_holds_505 : decode cL_holds 505 = .ok (.iload 12, 2) := by decide +kernel
theorem dL_holds_507 : decode cL_holds 507 = .ok (.iconst 2, 1) := by decide +kernel
theorem dL_holds_508 : decode cL_holds 508 = .ok (.if_icmp .ge 35, 3) := by decide +kernel
theorem dL_holds_511 : decode cL_holds 511 = .ok (.iload 12, 2) := by decide +kernel
theorem dL_holds_513 : decode cL_holds 513 = .ok (.iconst 5, 1) := by decide +kernel
theorem dL_holds_514 : decode cL_holds 514 = .ok (.if_icmp .ne 25, 3) := by decide +kernel
theorem dL_holds_517 : decode cL_holds 517 = .ok (.aload_n 0, 1) := by decide +kernel
theorem dL_holds_518 : decode cL_holds 518 = .ok (.iconst 5, 1) := by decide +kernel
theorem dL_holds_519 : decode cL_holds 519 = .ok (.iload 11, 2) := by decide +kernel
theorem dL_holds_521 : decode cL_holds 521 = .ok (.iconst 0, 1) := by decide +kernel
theorem dL_holds_522 : decode cL_holds 522 = .ok (.iconst 0, 1) := by decide +kernel
theorem dL_holds_523 : decode cL_holds 523 = .ok (.invokestatic 184, 3) := by decide +kernel
theorem dL_holds_526 : decode cL_holds 526 = .ok (.aload_n 0, 1) := by decide +kernel
theorem dL_holds_527 : decode cL_holds 527 = .ok (.iconst 3, 1) := by decide +kernel
theorem dL_holds_528 : decode cL_holds 528 = .ok (.iload 10, 2) := by decide +kernel
theorem dL_holds_530 : decode cL_holds 530 = .ok (.iconst 1, 1) := by decide +kernel
theorem dL_holds_531 : decode cL_holds 531 = .ok (.iconst 0, 1) := by decide +kernel
theorem dL_holds_532 : decode cL_holds 532 = .ok (.invokestatic 184, 3) := by decide +kernel
theorem dL_holds_535 : decode cL_holds 535 = .ok (.iand, 1) := by decide +kernel
theorem dL_holds_536 : decode cL_holds 536 = .ok (.ifCond .eq 7, 3) := by decide +kernel
theorem dL_holds_539 : decode cL_holds 539 = .ok (.iconst 1, 1) := by decide +kernel
theorem dL_holds_540 : decode cL_holds 540 = .ok (.goto 4, 3) := by decide +kernel
theorem dL_holds_543 : decode cL_holds 543 = .ok (.iconst 0, 1) := by decide +kernel
theorem dL_holds_544 : decode cL_holds 544 = .ok (.istore 5, 2) := by decide +kernel
theorem dL_holds_546 : decode cL_holds 546 = .ok (.iinc 10 1, 3) := by decide +kernel
theorem dL_holds_549 : decode cL_holds 549 = .ok (.goto (-273), 3) := by decide +kernel
theorem dL_holds_552 : decode cL_holds 552 = .ok (.iload 5, 2) := by decide +kernel
theorem dL_holds_554 : decode cL_holds 554 = .ok (.ifCond .eq 21, 3) := by decide +kernel
theorem dL_holds_557 : decode cL_holds 557 = .ok (.iload 8, 2) := by decide +kernel
theorem dL_holds_559 : decode cL_holds 559 = .ok (.iload 4, 2) := by decide +kernel
theorem dL_holds_561 : decode cL_holds 561 = .ok (.if_icmp .ne 14, 3) := by decide +kernel
theorem dL_holds_564 : decode cL_holds 564 = .ok (.iload 9, 2) := by decide +kernel
theorem dL_holds_566 : decode cL_holds 566 = .ok (.iload 7, 2) := by decide +kernel
theorem dL_holds_568 : decode cL_holds 568 = .ok (.if_icmp .ne 7, 3) := by decide +kernel
theorem dL_holds_571 : decode cL_holds 571 = .ok (.iconst 1, 1) := by decide +kernel
theorem dL_holds_572 : decode cL_holds 572 = .ok (.goto 4, 3) := by decide +kernel
theorem dL_holds_575 : decode cL_holds 575 = .ok (.iconst 0, 1) := by decide +kernel
theorem dL_holds_576 : decode cL_holds 576 = .ok (.istore 5, 2) := by decide +kernel
theorem dL_holds_578 : decode cL_holds 578 = .ok (.iconst 0, 1) := by decide +kernel
theorem dL_holds_579 : decode cL_holds 579 = .ok (.istore 10, 2) := by decide +kernel
theorem dL_holds_581 : decode cL_holds 581 = .ok (.iconst 0, 1) := by decide +kernel
theorem dL_holds_582 : decode cL_holds 582 = .ok (.istore 11, 2) := by decide +kernel
theorem dL_holds_584 : decode cL_holds 584 = .ok (.iconst 0, 1) := by decide +kernel
theorem dL_holds_585 : decode cL_holds 585 = .ok (.istore 12, 2) := by decide +kernel
theorem dL_holds_587 : decode cL_holds 587 = .ok (.iload 12, 2) := by decide +kernel
theorem dL_holds_589 : decode cL_holds 589 = .ok (.iconst 5, 1) := by decide +kernel
theorem dL_holds_590 : decode cL_holds 590 = .ok (.if_icmp .ge 37, 3) := by decide +kernel
theorem dL_holds_593 : decode cL_holds 593 = .ok (.iload 10, 2) := by decide +kernel
theorem dL_holds_595 : decode cL_holds 595 = .ok (.aload_n 0, 1) := by decide +kernel
theorem dL_holds_596 : decode cL_holds 596 = .ok (.iconst 4, 1) := by decide +kernel
theorem dL_holds_597 : decode cL_holds 597 = .ok (.iload 12, 2) := by decide +kernel
theorem dL_holds_599 : decode cL_holds 599 = .ok (.iconst 3, 1) := by decide +kernel
theorem dL_holds_600 : decode cL_holds 600 = .ok (.iconst 0, 1) := by decide +kernel
theorem dL_holds_601 : decode cL_holds 601 = .ok (.invokestatic 184, 3) := by decide +kernel
theorem dL_holds_604 : decode cL_holds 604 = .ok (.iadd, 1) := by decide +kernel
theorem dL_holds_605 : decode cL_holds 605 = .ok (.istore 10, 2) := by decide +kernel
theorem dL_holds_607 : decode cL_holds 607 = .ok (.iload 11, 2) := by decide +kernel
theorem dL_holds_609 : decode cL_holds 609 = .ok (.aload_n 0, 1) := by decide +kernel
theorem dL_holds_610 : decode cL_holds 610 = .ok (.iconst 4, 1) := by decide +kernel
theorem dL_holds_611 : decode cL_holds 611 = .ok (.iload 12, 2) := by decide +kernel
theorem dL_holds_613 : decode cL_holds 613 = .ok (.iconst 2, 1) := by decide +kernel
theorem dL_holds_614 : decode cL_holds 614 = .ok (.iconst 0, 1) := by decide +kernel
theorem dL_holds_615 : decode cL_holds 615 = .ok (.invokestatic 184, 3) := by decide +kernel
theorem dL_holds_618 : decode cL_holds 618 = .ok (.iadd, 1) := by decide +kernel
theorem dL_holds_619 : decode cL_holds 619 = .ok (.istore 11, 2) := by decide +kernel
theorem dL_holds_621 : decode cL_holds 621 = .ok (.iinc 12 1, 3) := by decide +kernel
theorem dL_holds_624 : decode cL_holds 624 = .ok (.goto (-37), 3) := by decide +kernel
theorem dL_holds_627 : decode cL_holds 627 = .ok (.iload 5, 2) := by decide +kernel
theorem dL_holds_629 : decode cL_holds 629 = .ok (.ifCond .eq 19, 3) := by decide +kernel
theorem dL_holds_632 : decode cL_holds 632 = .ok (.iload 11, 2) := by decide +kernel
theorem dL_holds_634 : decode cL_holds 634 = .ok (.iload 4, 2) := by decide +kernel
theorem dL_holds_636 : decode cL_holds 636 = .ok (.if_icmp .ne 12, 3) := by decide +kernel
theorem dL_holds_639 : decode cL_holds 639 = .ok (.iload 10, 2) := by decide +kernel
theorem dL_holds_641 : decode cL_holds 641 = .ok (.ifCond .lt 7, 3) := by decide +kernel
theorem dL_holds_644 : decode cL_holds 644 = .ok (.iconst 1, 1) := by decide +kernel
theorem dL_holds_645 : decode cL_holds 645 = .ok (.goto 4, 3) := by decide +kernel
theorem dL_holds_648 : decode cL_holds 648 = .ok (.iconst 0, 1) := by decide +kernel
theorem dL_holds_649 : decode cL_holds 649 = .ok (.istore 5, 2) := by decide +kernel
theorem dL_holds_651 : decode cL_holds 651 = .ok (.iload_n 2, 1) := by decide +kernel
theorem dL_holds_652 : decode cL_holds 652 = .ok (.ifCond .le 330, 3) := by decide +kernel
theorem dL_holds_655 : decode cL_holds 655 = .ok (.iload 5, 2) := by decide +kernel
theorem dL_holds_657 : decode cL_holds 657 = .ok (.ifCond .eq 325, 3) := by decide +kernel
theorem dL_holds_660 : decode cL_holds 660 = .ok (.iload_n 1, 1) := by decide +kernel
theorem dL_holds_661 : decode cL_holds 661 = .ok (.iload_n 2, 1) := by decide +kernel
theorem dL_holds_662 : decode cL_holds 662 = .ok (.irem, 1) := by decide +kernel
theorem dL_holds_663 : decode cL_holds 663 = .ok (.istore 12, 2) := by decide +kernel
theorem dL_holds_665 : decode cL_holds 665 = .ok (.iload_n 1, 1) := by decide +kernel
theorem dL_holds_666 : decode cL_holds 666 = .ok (.bipush 16, 2) := by decide +kernel
theorem dL_holds_668 : decode cL_holds 668 = .ok (.idiv, 1) := by decide +kernel
theorem dL_holds_669 : decode cL_holds 669 = .ok (.bipush 40, 2) := by decide +kernel
theorem dL_holds_671 : decode cL_holds 671 = .ok (.irem, 1) := by decide +kernel
theorem dL_holds_672 : decode cL_holds 672 = .ok (.istore 13, 2) := by decide +kernel
theorem dL_holds_674 : decode cL_holds 674 = .ok (.iload_n 1, 1) := by decide +kernel
theorem dL_holds_675 : decode cL_holds 675 = .ok (.sipush 1024, 3) := by decide +kernel
theorem dL_holds_678 : decode cL_holds 678 = .ok (.idiv, 1) := by decide +kernel
theorem dL_holds_679 : decode cL_holds 679 = .ok (.iconst 3, 1) := by decide +kernel
theorem dL_holds_680 : decode cL_holds 680 = .ok (.irem, 1) := by decide +kernel
theorem dL_holds_681 : decode cL_holds 681 = .ok (.ifCond .ne 7, 3) := by decide +kernel
theorem dL_holds_684 : decode cL_holds 684 = .ok (.iconst (-1), 1) := by decide +kernel
theorem dL_holds_685 : decode cL_holds 685 = .ok (.goto 17, 3) := by decide +kernel
theorem dL_holds_688 : decode cL_holds 688 = .ok (.iload 13, 2) := by decide +kernel
theorem dL_holds_690 : decode cL_holds 690 = .ok (.iload_n 1, 1) := by decide +kernel
theorem dL_holds_691 : decode cL_holds 691 = .ok (.sipush 4096, 3) := by decide +kernel
theorem dL_holds_694 : decode cL_holds 694 = .ok (.idiv, 1) := by decide +kernel
theorem dL_holds_695 : decode cL_holds 695 = .ok (.bipush 40, 2) := by decide +kernel
theorem dL_holds_697 : decode cL_holds 697 = .ok (.iload 13, 2) := by decide +kernel
theorem dL_holds_699 : decode cL_holds 699 = .ok (.isub, 1) := by decide +kernel
theorem dL_holds_700 : decode cL_holds 700 = .ok (.irem, 1) := by decide +kernel
theorem dL_holds_701 : decode cL_holds 701 = .ok (.iadd, 1) := by decide +kernel
theorem dL_holds_702 : decode cL_holds 702 = .ok (.istore 14, 2) := by decide +kernel
theorem dL_holds_704 : decode cL_holds 704 = .ok (.aload_n 0, 1) := by decide +kernel
theorem dL_holds_705 : decode cL_holds 705 = .ok (.bipush 19, 2) := by decide +kernel
theorem dL_holds_707 : decode cL_holds 707 = .ok (.iload 12, 2) := by decide +kernel
theorem dL_holds_709 : decode cL_holds 709 = .ok (.iload 13, 2) := by decide +kernel
theorem dL_holds_711 : decode cL_holds 711 = .ok (.iload 14, 2) := by decide +kernel
theorem dL_holds_713 : decode cL_holds 713 = .ok (.invokestatic 184, 3) := by decide +kernel
theorem dL_holds_716 : decode cL_holds 716 = .ok (.istore 15, 2) := by decide +kernel
theorem dL_holds_718 : decode cL_holds 718 = .ok (.aload_n 0, 1) := by decide +kernel
theorem dL_holds_719 : decode cL_holds 719 = .ok (.bipush 17, 2) := by decide +kernel
theorem dL_holds_721 : decode cL_holds 721 = .ok (.iload 12, 2) := by decide +kernel
theorem dL_holds_723 : decode cL_holds 723 = .ok (.iconst 0, 1) := by decide +kernel
theorem dL_holds_724 : decode cL_holds 724 = .ok (.iconst 0, 1) := by decide +kernel
theorem dL_holds_725 : decode cL_holds 725 = .ok (.invokestatic 184, 3) := by decide +kernel
theorem dL_holds_728 : decode cL_holds 728 = .ok (.istore 16, 2) := by decide +kernel
theorem dL_holds_730 : decode cL_holds 730 = .ok (.aload_n 0, 1) := by decide +kernel
theorem dL_holds_731 : decode cL_holds 731 = .ok (.bipush 20, 2) := by decide +kernel
theorem dL_holds_733 : decode cL_holds 733 = .ok (.aload_n 0, 1) := by decide +kernel
theorem dL_holds_734 : decode cL_holds 734 = .ok (.bipush 7, 2) := by decide +kernel
theorem dL_holds_736 : decode cL_holds 736 = .ok (.iconst 0, 1) := by decide +kernel
theorem dL_holds_737 : decode cL_holds 737 = .ok (.iconst 0, 1) := by decide +kernel
theorem dL_holds_738 : decode cL_holds 738 = .ok (.iconst 0, 1) := by decide +kernel
theorem dL_holds_739 : decode cL_holds 739 = .ok (.invokestatic 184, 3) := by decide +kernel
theorem dL_holds_742 : decode cL_holds 742 = .ok (.iconst 0, 1) := by decide +kernel
theorem dL_holds_743 : decode cL_holds 743 = .ok (.iconst 0, 1) := by decide +kernel
theorem dL_holds_744 : decode cL_holds 744 = .ok (.invokestatic 184, 3) := by decide +kernel
theorem dL_holds_747 : decode cL_holds 747 = .ok (.istore 17, 2) := by decide +kernel
theorem dL_holds_749 : decode cL_holds 749 = .ok (.aload_n 0, 1) := by decide +kernel
theorem dL_holds_750 : decode cL_holds 750 = .ok (.iconst 2, 1) := by decide +kernel
theorem dL_holds_751 : decode cL_holds 751 = .ok (.iconst 3, 1) := by decide +kernel
theorem dL_holds_752 : decode cL_holds 752 = .ok (.iconst 0, 1) := by decide +kernel
theorem dL_holds_753 : decode cL_holds 753 = .ok (.iconst 0, 1) := by decide +kernel
theorem dL_holds_754 : decode cL_holds 754 = .ok (.invokestatic 184, 3) := by decide +kernel
theorem dL_holds_757 : decode cL_holds 757 = .ok (.istore 18, 2) := by decide +kernel
theorem dL_holds_759 : decode cL_holds 759 = .ok (.aload_n 0, 1) := by decide +kernel
theorem dL_holds_760 : decode cL_holds 760 = .ok (.iconst 3, 1) := by decide +kernel
theorem dL_holds_761 : decode cL_holds 761 = .ok (.iload 12, 2) := by decide +kernel
theorem dL_holds_763 : decode cL_holds 763 = .ok (.bipush 8, 2) := by decide +kernel
theorem dL_holds_765 : decode cL_holds 765 = .ok (.iconst 0, 1) := by decide +kernel
theorem dL_holds_766 : decode cL_holds 766 = .ok (.invokestatic 184, 3) := by decide +kernel
theorem dL_holds_769 : decode cL_holds 769 = .ok (.istore 19, 2) := by decide +kernel
theorem dL_holds_771 : decode cL_holds 771 = .ok (.aload_n 0, 1) := by decide +kernel
theorem dL_holds_772 : decode cL_holds 772 = .ok (.invokevirtual 211, 3) := by decide +kernel
theorem dL_holds_775 : decode cL_holds 775 = .ok (.istore 20, 2) := by decide +kernel
theorem dL_holds_777 : decode cL_holds 777 = .ok (.aload_n 0, 1) := by decide +kernel
theorem dL_holds_778 : decode cL_holds 778 = .ok (.bipush 12, 2) := by decide +kernel
theorem dL_holds_780 : decode cL_holds 780 = .ok (.iload 12, 2) := by decide +kernel
theorem dL_holds_782 : decode cL_holds 782 = .ok (.iload 13, 2) := by decide +kernel
theorem dL_holds_784 : decode cL_holds 784 = .ok (.iload 14, 2) := by decide +kernel
theorem dL_holds_786 : decode cL_holds 786 = .ok (.invokestatic 184, 3) := by decide +kernel
theorem dL_holds_789 : decode cL_holds 789 = .ok (.iload 15, 2) := by decide +kernel
theorem dL_holds_791 : decode cL_holds 791 = .ok (.if_icmp .ne 60, 3) := by decide +kernel
theorem dL_holds_794 : decode cL_holds 794 = .ok (.aload_n 0, 1) := by decide +kernel
theorem dL_holds_795 : decode cL_holds 795 = .ok (.iconst 2, 1) := by decide +kernel
theorem dL_holds_796 : decode cL_holds 796 = .ok (.bipush 11, 2) := by decide +kernel
theorem dL_holds_798 : decode cL_holds 798 = .ok (.iconst 0, 1) := by decide +kernel
theorem dL_holds_799 : decode cL_holds 799 = .ok (.iconst 0, 1) := by decide +kernel
theorem dL_holds_800 : decode cL_holds 800 = .ok (.invokestatic 184, 3) := by decide +kernel
theorem dL_holds_803 : decode cL_holds 803 = .ok (.iload 4, 2) := by decide +kernel
theorem dL_holds_805 : decode cL_holds 805 = .ok (.iload 15, 2) := by decide +kernel
theorem dL_holds_807 : decode cL_holds 807 = .ok (.iadd, 1) := by decide +kernel
theorem dL_holds_808 : decode cL_holds 808 = .ok (.if_icmp .ne 43, 3) := by decide +kernel
theorem dL_holds_811 : decode cL_holds 811 = .ok (.aload_n 0, 1) := by decide +kernel
theorem dL_holds_812 : decode cL_holds 812 = .ok (.iconst 2, 1) := by decide +kernel
theorem dL_holds_813 : decode cL_holds 813 = .ok (.iconst 3, 1) := by decide +kernel
theorem dL_holds_814 : decode cL_holds 814 = .ok (.iconst 0, 1) := by decide +kernel
theorem dL_holds_815 : decode cL_holds 815 = .ok (.iconst 0, 1) := by decide +kernel
theorem dL_holds_816 : decode cL_holds 816 = .ok (.invokestatic 184, 3) := by decide +kernel
theorem dL_holds_819 : decode cL_holds 819 = .ok (.iload 18, 2) := by decide +kernel
theorem dL_holds_821 : decode cL_holds 821 = .ok (.if_icmp .ne 30, 3) := by decide +kernel
theorem dL_holds_824 : decode cL_holds 824 = .ok (.aload_n 0, 1) := by decide +kernel
theorem dL_holds_825 : decode cL_holds 825 = .ok (.bipush 16, 2) := by decide +kernel
theorem dL_holds_827 : decode cL_holds 827 = .ok (.iconst 0, 1) := by decide +kernel
theorem dL_holds_828 : decode cL_holds 828 = .ok (.iconst 0, 1) := by decide +kernel
theorem dL_holds_829 : decode cL_holds 829 = .ok (.iconst 0, 1) := by decide +kernel
theorem dL_holds_830 : decode cL_holds 830 = .ok (.invokestatic 184, 3) := by decide +kernel
theorem dL_holds_833 : decode cL_holds 833 = .ok (.ifCond .lt 18, 3) := by decide +kernel
theorem dL_holds_836 : decode cL_holds 836 = .ok (.iload 20, 2) := by decide +kernel
theorem dL_holds_838 : decode cL_holds 838 = .ok (.ifCond .lt 13, 3) := by decide +kernel
theorem dL_holds_841 : decode cL_holds 841 = .ok (.iload 20, 2) := by decide +kernel
theorem dL_holds_843 : decode cL_holds 843 = .ok (.iload_n 2, 1) := by decide +kernel
theorem dL_holds_844 : decode cL_holds 844 = .ok (.if_icmp .ge 7, 3) := by decide +kernel
theorem dL_holds_847 : decode cL_holds 847 = .ok (.iconst 1, 1) := by decide +kernel
theorem dL_holds_848 : decode cL_holds 848 = .ok (.goto 4, 3) := by decide +kernel
theorem dL_holds_851 : decode cL_holds 851 = .ok (.iconst 0, 1) := by decide +kernel
theorem dL_holds_852 : decode cL_holds 852 = .ok (.istore 5, 2) := by decide +kernel
theorem dL_holds_854 : decode cL_holds 854 = .ok (.iload_n 3, 1) := by decide +kernel
theorem dL_holds_855 : decode cL_holds 855 = .ok (.bipush 40, 2) := by decide +kernel
theorem dL_holds_857 : decode cL_holds 857 = .ok (.if_icmp .ge 125, 3) := by decide +kernel
theorem dL_holds_860 : decode cL_holds 860 = .ok (.iload 5, 2) := by decide +kernel
theorem dL_holds_862 : decode cL_holds 862 = .ok (.ifCond .eq 120, 3) := by decide +kernel
theorem dL_holds_865 : decode cL_holds 865 = .ok (.aload_n 0, 1) := by decide +kernel
theorem dL_holds_866 : decode cL_holds 866 = .ok (.bipush 14, 2) := by decide +kernel
theorem dL_holds_868 : decode cL_holds 868 = .ok (.bipush 40, 2) := by decide +kernel
theorem dL_holds_870 : decode cL_holds 870 = .ok (.iload_n 3, 1) := by decide +kernel
theorem dL_holds_871 : decode cL_holds 871 = .ok (.isub, 1) := by decide +kernel
theorem dL_holds_872 : decode cL_holds 872 = .ok (.iconst 0, 1) := by decide +kernel
theorem dL_holds_873 : decode cL_holds 873 = .ok (.iconst 0, 1) := by decide +kernel
theorem dL_holds_874 : decode cL_holds 874 = .ok (.invokestatic 184, 3) := by decide +kernel
theorem dL_holds_877 : decode cL_holds 877 = .ok (.iload 17, 2) := by decide +kernel
theorem dL_holds_879 : decode cL_holds 879 = .ok (.if_icmp .ne 100, 3) := by decide +kernel
theorem dL_holds_882 : decode cL_holds 882 = .ok (.aload_n 0, 1) := by decide +kernel
theorem dL_holds_883 : decode cL_holds 883 = .ok (.iconst 2, 1) := by decide +kernel
theorem dL_holds_884 : decode cL_holds 884 = .ok (.iconst 3, 1) := by decide +kernel
theorem dL_holds_885 : decode cL_holds 885 = .ok (.iconst 0, 1) := by decide +kernel
theorem dL_holds_886 : decode cL_holds 886 = .ok (.iconst 0, 1) := by decide +kernel
theorem dL_holds_887 : decode cL_holds 887 = .ok (.invokestatic 184, 3) := by decide +kernel
theorem dL_holds_890 : decode cL_holds 890 = .ok (.iload 18, 2) := by decide +kernel
theorem dL_holds_892 : decode cL_holds 892 = .ok (.iload 17, 2) := by decide +kernel
theorem dL_holds_894 : decode cL_holds 894 = .ok (.iadd, 1) := by decide +kernel
theorem dL_holds_895 : decode cL_holds 895 = .ok (.if_icmp .ne 84, 3) := by decide +kernel
theorem dL_holds_898 : decode cL_holds 898 = .ok (.aload_n 0, 1) := by decide +kernel
theorem dL_holds_899 : decode cL_holds 899 = .ok (.iconst 2, 1) := by decide +kernel
theorem dL_holds_900 : decode cL_holds 900 = .ok (.iconst 2, 1) := by decide +kernel
theorem dL_holds_901 : decode cL_holds 901 = .ok (.iconst 0, 1) := by decide +kernel
theorem dL_holds_902 : decode cL_holds 902 = .ok (.iconst 0, 1) := by decide +kernel
theorem dL_holds_903 : decode cL_holds 903 = .ok (.invokestatic 184, 3) := by decide +kernel
theorem dL_holds_906 : decode cL_holds 906 = .ok (.ifCond .ne 73, 3) := by decide +kernel
theorem dL_holds_909 : decode cL_holds 909 = .ok (.iload 16, 2) := by decide +kernel
theorem dL_holds_911 : decode cL_holds 911 = .ok (.iconst (-1), 1) := by decide +kernel
theorem dL_holds_912 : decode cL_holds 912 = .ok (.if_icmp .ne 21, 3) := by decide +kernel
theorem dL_holds_915 : decode cL_holds 915 = .ok (.aload_n 0, 1) := by decide +kernel
theorem dL_holds_916 : decode cL_holds 916 = .ok (.iconst 3, 1) := by decide +kernel
theorem dL_holds_917 : decode cL_holds 917 = .ok (.iload 12, 2) := by decide +kernel
theorem dL_holds_919 : decode cL_holds 919 = .ok (.bipush 8, 2) := by decide +kernel
theorem dL_holds_921 : decode cL_holds 921 = .ok (.iconst 0, 1) := by decide +kernel
theorem dL_holds_922 : decode cL_holds 922 = .ok (.invokestatic 184, 3) := by decide +kernel
theorem dL_holds_925 : decode cL_holds 925 = .ok (.iload 19, 2) := by decide +kernel
theorem dL_holds_927 : decode cL_holds 927 = .ok (.if_icmp .ne 52, 3) := by decide +kernel
theorem dL_holds_930 : decode cL_holds 930 = .ok (.goto 33, 3) := by decide +kernel
theorem dL_holds_933 : decode cL_holds 933 = .ok (.aload_n 0, 1) := by decide +kernel
theorem dL_holds_934 : decode cL_holds 934 = .ok (.bipush 6, 2) := by decide +kernel
theorem dL_holds_936 : decode cL_holds 936 = .ok (.iload 12, 2) := by decide +kernel
theorem dL_holds_938 : decode cL_holds 938 = .ok (.iload 16, 2) := by decide +kernel
theorem dL_holds_940 : decode cL_holds 940 = .ok (.iconst 0, 1) := by decide +kernel
theorem dL_holds_941 : decode cL_holds 941 = .ok (.invokestatic 184, 3) := by decide +kernel
theorem dL_holds_944 : decode cL_holds 944 = .ok (.iconst 4, 1) := by decide +kernel
theorem dL_holds_945 : decode cL_holds 945 = .ok (.if_icmp .ne 34, 3) := by decide +kernel
theorem dL_holds_948 : decode cL_holds 948 = .ok (.aload_n 0, 1) := by decide +kernel
theorem dL_holds_949 : decode cL_holds 949 = .ok (.iconst 3, 1) := by decide +kernel
theorem dL_holds_950 : decode cL_holds 950 = .ok (.iload 12, 2) := by decide +kernel
theorem dL_holds_952 : decode cL_holds 952 = .ok (.bipush 8, 2) := by decide +kernel
theorem dL_holds_954 : decode cL_holds 954 = .ok (.iconst 0, 1) := by decide +kernel
theorem dL_holds_955 : decode cL_holds 955 = .ok (.invokestatic 184, 3) := by decide +kernel
theorem dL_holds_958 : decode cL_holds 958 = .ok (.iload 19, 2) := by decide +kernel
theorem dL_holds_960 : decode cL_holds 960 = .ok (.if_icmp .le 19, 3) := by decide +kernel
theorem dL_holds_963 : decode cL_holds 963 = .ok (.aload_n 0, 1) := by decide +kernel
theorem dL_holds_964 : decode cL_holds 964 = .ok (.bipush 16, 2) := by decide +kernel
theorem dL_holds_966 : decode cL_holds 966 = .ok (.iconst 0, 1) := by decide +kernel
theorem dL_holds_967 : decode cL_holds 967 = .ok (.iconst 0, 1) := by decide +kernel
theorem dL_holds_968 : decode cL_holds 968 = .ok (.iconst 0, 1) := by decide +kernel
theorem dL_holds_969 : decode cL_holds 969 = .ok (.invokestatic 184, 3) := by decide +kernel
theorem dL_holds_972 : decode cL_holds 972 = .ok (.ifCond .lt 7, 3) := by decide +kernel
theorem dL_holds_975 : decode cL_holds 975 = .ok (.iconst 1, 1) := by decide +kernel
theorem dL_holds_976 : decode cL_holds 976 = .ok (.goto 4, 3) := by decide +kernel
theorem dL_holds_979 : decode cL_holds 979 = .ok (.iconst 0, 1) := by decide +kernel
theorem dL_holds_980 : decode cL_holds 980 = .ok (.istore 5, 2) := by decide +kernel
theorem dL_holds_982 : decode cL_holds 982 = .ok (.iload_n 1, 1) := by decide +kernel
theorem dL_holds_983 : decode cL_holds 983 = .ok (.iconst 5, 1) := by decide +kernel
theorem dL_holds_984 : decode cL_holds 984 = .ok (.irem, 1) := by decide +kernel
theorem dL_holds_985 : decode cL_holds 985 = .ok (.istore 12, 2) := by decide +kernel
theorem dL_holds_987 : decode cL_holds 987 = .ok (.aload_n 0, 1) := by decide +kernel
theorem dL_holds_988 : decode cL_holds 988 = .ok (.bipush 18, 2) := by decide +kernel
theorem dL_holds_990 : decode cL_holds 990 = .ok (.iload 12, 2) := by decide +kernel
theorem dL_holds_992 : decode cL_holds 992 = .ok (.iconst 0, 1) := by decide +kernel
theorem dL_holds_993 : decode cL_holds 993 = .ok (.iconst 0, 1) := by decide +kernel
theorem dL_holds_994 : decode cL_holds 994 = .ok (.invokestatic 184, 3) := by decide +kernel
theorem dL_holds_997 : decode cL_holds 997 = .ok (.istore 13, 2) := by decide +kernel
theorem dL_holds_999 : decode cL_holds 999 = .ok (.iload 5, 2) := by decide +kernel
theorem dL_holds_1001 : decode cL_holds 1001 = .ok (.ifCond .eq 33, 3) := by decide +kernel
theorem dL_holds_1004 : decode cL_holds 1004 = .ok (.iload 13, 2) := by decide +kernel
theorem dL_holds_1006 : decode cL_holds 1006 = .ok (.iconst (-1), 1) := by decide +kernel
theorem dL_holds_1007 : decode cL_holds 1007 = .ok (.if_icmp .eq 23, 3) := by decide +kernel
theorem dL_holds_1010 : decode cL_holds 1010 = .ok (.iload 13, 2) := by decide +kernel
theorem dL_holds_1012 : decode cL_holds 1012 = .ok (.bipush 100, 2) := by decide +kernel
theorem dL_holds_1014 : decode cL_holds 1014 = .ok (.irem, 1) := by decide +kernel
theorem dL_holds_1015 : decode cL_holds 1015 = .ok (.ifCond .ne 19, 3) := by decide +kernel
theorem dL_holds_1018 : decode cL_holds 1018 = .ok (.aload_n 0, 1) := by decide +kernel
theorem dL_holds_1019 : decode cL_holds 1019 = .ok (.iconst 4, 1) := by decide +kernel
theorem dL_holds_1020 : decode cL_holds 1020 = .ok (.iload 12, 2) := by decide +kernel
theorem dL_holds_1022 : decode cL_holds 1022 = .ok (.iconst 0, 1) := by decide +kernel
theorem dL_holds_1023 : decode cL_holds 1023 = .ok (.iconst 0, 1) := by decide +kernel
theorem dL_holds_1024 : decode cL_holds 1024 = .ok (.invokestatic 184, 3) := by decide +kernel
theorem dL_holds_1027 : decode cL_holds 1027 = .ok (.ifCond .le 7, 3) := by decide +kernel
theorem dL_holds_1030 : decode cL_holds 1030 = .ok (.iconst 1, 1) := by decide +kernel
theorem dL_holds_1031 : decode cL_holds 1031 = .ok (.goto 4, 3) := by decide +kernel
theorem dL_holds_1034 : decode cL_holds 1034 = .ok (.iconst 0, 1) := by decide +kernel
theorem dL_holds_1035 : decode cL_holds 1035 = .ok (.istore 5, 2) := by decide +kernel
theorem dL_holds_1037 : decode cL_holds 1037 = .ok (.iload 5, 2) := by decide +kernel
theorem dL_holds_1039 : decode cL_holds 1039 = .ok (.ifCond .eq 33, 3) := by decide +kernel
theorem dL_holds_1042 : decode cL_holds 1042 = .ok (.aload_n 0, 1) := by decide +kernel
theorem dL_holds_1043 : decode cL_holds 1043 = .ok (.iconst 2, 1) := by decide +kernel
theorem dL_holds_1044 : decode cL_holds 1044 = .ok (.iconst 0, 1) := by decide +kernel
theorem dL_holds_1045 : decode cL_holds 1045 = .ok (.iconst 0, 1) := by decide +kernel
theorem dL_holds_1046 : decode cL_holds 1046 = .ok (.iconst 0, 1) := by decide +kernel
theorem dL_holds_1047 : decode cL_holds 1047 = .ok (.invokestatic 184, 3) := by decide +kernel
theorem dL_holds_1050 : decode cL_holds 1050 = .ok (.iload_n 3, 1) := by decide +kernel
theorem dL_holds_1051 : decode cL_holds 1051 = .ok (.if_icmp .ne 21, 3) := by decide +kernel
theorem dL_holds_1054 : decode cL_holds 1054 = .ok (.aload_n 0, 1) := by decide +kernel
theorem dL_holds_1055 : decode cL_holds 1055 = .ok (.iconst 2, 1) := by decide +kernel
theorem dL_holds_1056 : decode cL_holds 1056 = .ok (.bipush 11, 2) := by decide +kernel
theorem dL_holds_1058 : decode cL_holds 1058 = .ok (.iconst 0, 1) := by decide +kernel
theorem dL_holds_1059 : decode cL_holds 1059 = .ok (.iconst 0, 1) := by decide +kernel
theorem dL_holds_1060 : decode cL_holds 1060 = .ok (.invokestatic 184, 3) := by decide +kernel
theorem dL_holds_1063 : decode cL_holds 1063 = .ok (.iload 4, 2) := by decide +kernel
theorem dL_holds_1065 : decode cL_holds 1065 = .ok (.if_icmp .ne 7, 3) := by decide +kernel
theorem dL_holds_1068 : decode cL_holds 1068 = .ok (.iconst 1, 1) := by decide +kernel
theorem dL_holds_1069 : decode cL_holds 1069 = .ok (.goto 4, 3) := by decide +kernel
theorem dL_holds_1072 : decode cL_holds 1072 = .ok (.iconst 0, 1) := by decide +kernel
theorem dL_holds_1073 : decode cL_holds 1073 = .ok (.ireturn, 1) := by decide +kernel
theorem dL_act_0 : decode cL_act 0 = .ok (.aload_n 0, 1) := by decide +kernel
theorem dL_act_1 : decode cL_act 1 = .ok (.iconst 2, 1) := by decide +kernel
theorem dL_act_2 : decode cL_act 2 = .ok (.iconst 1, 1) := by decide +kernel
theorem dL_act_3 : decode cL_act 3 = .ok (.iconst 0, 1) := by decide +kernel
theorem dL_act_4 : decode cL_act 4 = .ok (.iconst 0, 1) := by decide +kernel
theorem dL_act_5 : decode cL_act 5 = .ok (.invokestatic 184, 3) := by decide +kernel
theorem dL_act_8 : decode cL_act 8 = .ok (.istore_n 3, 1) := by decide +kernel
theorem dL_act_9 : decode cL_act 9 = .ok (.iload_n 3, 1) := by decide +kernel
theorem dL_act_10 : decode cL_act 10 = .ok (.ifCond .ne 7, 3) := by decide +kernel
theorem dL_act_13 : decode cL_act 13 = .ok (.iconst 0, 1) := by decide +kernel
theorem dL_act_14 : decode cL_act 14 = .ok (.goto 6, 3) := by decide +kernel
theorem dL_act_17 : decode cL_act 17 = .ok (.iload_n 2, 1) := by decide +kernel
theorem dL_act_18 : decode cL_act 18 = .ok (.iload_n 3, 1) := by decide +kernel
theorem dL_act_19 : decode cL_act 19 = .ok (.irem, 1) := by decide +kernel
theorem dL_act_20 : decode cL_act 20 = .ok (.istore 4, 2) := by decide +kernel
theorem dL_act_22 : decode cL_act 22 = .ok (.iload_n 2, 1) := by decide +kernel
theorem dL_act_23 : decode cL_act 23 = .ok (.bipush 16, 2) := by decide +kernel
theorem dL_act_25 : decode cL_act 25 = .ok (.idiv, 1) := by decide +kernel
theorem dL_act_26 : decode cL_act 26 = .ok (.bipush 40, 2) := by decide +kernel
theorem dL_act_28 : decode cL_act 28 = .ok (.irem, 1) := by decide +kernel
theorem dL_act_29 : decode cL_act 29 = .ok (.istore 5, 2) := by decide +kernel
theorem dL_act_31 : decode cL_act 31 = .ok (.iload_n 1, 1) := by decide +kernel
theorem dL_act_32 : decode cL_act 32 = .ok (.bipush 24, 2) := by decide +kernel
theorem dL_act_34 : decode cL_act 34 = .ok (.irem, 1) := by decide +kernel
theorem dL_act_35 : decode cL_act 35 = .ok (.tableswitch 439 0 17 #[85, 85, 119, 136, 136, 178, 212, 234, 234, 270, 282, 302, 312, 324, 336, 336, 336, 350], 85) := by decide +kernel
theorem dL_act_120 : decode cL_act 120 = .ok (.iload_n 3, 1) := by decide +kernel
theorem dL_act_121 : decode cL_act 121 = .ok (.bipush 7, 2) := by decide +kernel
theorem dL_act_123 : decode cL_act 123 = .ok (.if_icmp .le 15, 3) := by decide +kernel
theorem dL_act_126 : decode cL_act 126 = .ok (.aload_n 0, 1) := by decide +kernel
theorem dL_act_127 : decode cL_act 127 = .ok (.bipush 14, 2) := by decide +kernel
theorem dL_act_129 : decode cL_act 129 = .ok (.iconst 1, 1) := by decide +kernel
theorem dL_act_130 : decode cL_act 130 = .ok (.iconst 0, 1) := by decide +kernel
theorem dL_act_131 : decode cL_act 131 = .ok (.iconst 0, 1) := by decide +kernel
theorem dL_act_132 : decode cL_act 132 = .ok (.invokestatic 184, 3) := by decide +kernel
theorem dL_act_135 : decode cL_act 135 = .ok (.goto 18, 3) := by decide +kernel
theorem dL_act_138 : decode cL_act 138 = .ok (.aload_n 0, 1) := by decide +kernel
theorem dL_act_139 : decode cL_act 139 = .ok (.bipush 8, 2) := by decide +kernel
theorem dL_act_141 : decode cL_act 141 = .ok (.iload_n 2, 1) := by decide +kernel
theorem dL_act_142 : decode cL_act 142 = .ok (.iconst 3, 1) := by decide +kernel
theorem dL_act_143 : decode cL_act 143 = .ok (.irem, 1) := by decide +kernel
theorem dL_act_144 : decode cL_act 144 = .ok (.iload_n 2, 1) := by decide +kernel
theorem dL_act_145 : decode cL_act 145 = .ok (.iconst 4, 1) := by decide +kernel
theorem dL_act_146 : decode cL_act 146 = .ok (.idiv, 1) := by decide +kernel
theorem dL_act_147 : decode cL_act 147 = .ok (.iconst 4, 1) := by decide +kernel
theorem dL_act_148 : decode cL_act 148 = .ok (.irem, 1) := by decide +kernel
theorem dL_act_149 : decode cL_act 149 = .ok (.iconst 0, 1) := by decide +kernel
theorem dL_act_150 : decode cL_act 150 = .ok (.invokestatic 184, 3) := by decide +kernel
theorem dL_act_153 : decode cL_act 153 = .ok (.ireturn, 1) := by decide +kernel
theorem dL_act_154 : decode cL_act 154 = .ok (.aload_n 0, 1) := by decide +kernel
theorem dL_act_155 : decode cL_act 155 = .ok (.bipush 9, 2) := by decide +kernel
theorem dL_act_157 : decode cL_act 157 = .ok (.iload 5, 2) := by decide +kernel
theorem dL_act_159 : decode cL_act 159 = .ok (.iload_n 2, 1) := by decide +kernel
theorem dL_act_160 : decode cL_act 160 = .ok (.sipush 1024, 3) := by decide +kernel
theorem dL_act_163 : decode cL_act 163 = .ok (.idiv, 1) := by decide +kernel
theorem dL_act_164 : decode cL_act 164 = .ok (.iconst 4, 1) := by decide +kernel
theorem dL_act_165 : decode cL_act 165 = .ok (.irem, 1) := by decide +kernel
theorem dL_act_166 : decode cL_act 166 = .ok (.iconst 0, 1) := by decide +kernel
theorem dL_act_167 : decode cL_act 167 = .ok (.invokestatic 184, 3) := by decide +kernel
theorem dL_act_170 : decode cL_act 170 = .ok (.ireturn, 1) := by decide +kernel
theorem dL_act_171 : decode cL_act 171 = .ok (.aload_n 0, 1) := by decide +kernel
theorem dL_act_172 : decode cL_act 172 = .ok (.bipush 10, 2) := by decide +kernel
theorem dL_act_174 : decode cL_act 174 = .ok (.iload 4, 2) := by decide +kernel
theorem dL_act_176 : decode cL_act 176 = .ok (.iload_n 2, 1) := by decide +kernel
theorem dL_act_177 : decode cL_act 177 = .ok (.bipush 16, 2) := by decide +kernel
theorem dL_act_179 : decode cL_act 179 = .ok (.idiv, 1) := by decide +kernel
theorem dL_act_180 : decode cL_act 180 = .ok (.iconst 4, 1) := by decide +kernel
theorem dL_act_181 : decode cL_act 181 = .ok (.irem, 1) := by decide +kernel
theorem dL_act_182 : decode cL_act 182 = .ok (.ifCond .ne 16, 3) := by decide +kernel
theorem dL_act_185 : decode cL_act 185 = .ok (.iconst (-1), 1) := by decide +kernel
theorem dL_act_186 : decode cL_act 186 = .ok (.iload_n 2, 1) := by decide +kernel
theorem dL_act_187 : decode cL_act 187 = .ok (.bipush 64, 2) := by decide +kernel
theorem dL_act_189 : decode cL_act 189 = .ok (.idiv, 1) := by decide +kernel
theorem dL_act_190 : decode cL_act 190 = .ok (.sipush 300, 3) := by decide +kernel
theorem dL_act_193 : decode cL_act 193 = .ok (.irem, 1) := by decide +kernel
theorem dL_act_194 : decode cL_act 194 = .ok (.isub, 1) := by decide +kernel
theorem dL_act_195 : decode cL_act 195 = .ok (.goto 13, 3) := by decide +kernel
theorem dL_act_198 : decode cL_act 198 = .ok (.iconst 1, 1) := by decide +kernel
theorem dL_act_199 : decode cL_act 199 = .ok (.iload_n 2, 1) := by decide +kernel
theorem dL_act_200 : decode cL_act 200 = .ok (.bipush 64, 2) := by decide +kernel
theorem dL_act_202 : decode cL_act 202 = .ok (.idiv, 1) := by decide +kernel
theorem dL_act_203 : decode cL_act 203 = .ok (.sipush 900, 3) := by decide +kernel
theorem dL_act_206 : decode cL_act 206 = .ok (.irem, 1) := by decide +kernel
theorem dL_act_207 : decode cL_act 207 = .ok (.iadd, 1) := by decide +kernel
theorem dL_act_208 : decode cL_act 208 = .ok (.iconst 0, 1) := by decide +kernel
theorem dL_act_209 : decode cL_act 209 = .ok (.invokestatic 184, 3) := by decide +kernel
theorem dL_act_212 : decode cL_act 212 = .ok (.ireturn, 1) := by decide +kernel
theorem dL_act_213 : decode cL_act 213 = .ok (.iload_n 3, 1) := by decide +kernel
theorem dL_act_214 : decode cL_act 214 = .ok (.ifCond .ne 7, 3) := by decide +kernel
theorem dL_act_217 : decode cL_act 217 = .ok (.iconst 0, 1) := by decide +kernel
theorem dL_act_218 : decode cL_act 218 = .ok (.goto 28, 3) := by decide +kernel
theorem dL_act_221 : decode cL_act 221 = .ok (.aload_n 0, 1) := by decide +kernel
theorem dL_act_222 : decode cL_act 222 = .ok (.bipush 11, 2) := by decide +kernel
theorem dL_act_224 : decode cL_act 224 = .ok (.iload 4, 2) := by decide +kernel
theorem dL_act_226 : decode cL_act 226 = .ok (.iload_n 2, 1) := by decide +kernel
theorem dL_act_227 : decode cL_act 227 = .ok (.bipush 16, 2) := by decide +kernel
theorem dL_act_229 : decode cL_act 229 = .ok (.idiv, 1) := by decide +kernel
theorem dL_act_230 : decode cL_act 230 = .ok (.iload_n 3, 1) := by decide +kernel
theorem dL_act_231 : decode cL_act 231 = .ok (.irem, 1) := by decide +kernel
theorem dL_act_232 : decode cL_act 232 = .ok (.iconst 1, 1) := by decide +kernel
theorem dL_act_233 : decode cL_act 233 = .ok (.iload_n 2, 1) := by decide +kernel
theorem dL_act_234 : decode cL_act 234 = .ok (.sipush 256, 3) := by decide +kernel
theorem dL_act_237 : decode cL_act 237 = .ok (.idiv, 1) := by decide +kernel
theorem dL_act_238 : decode cL_act 238 = .ok (.sipush 200, 3) := by decide +kernel
theorem dL_act_241 : decode cL_act 241 = .ok (.irem, 1) := by decide +kernel
theorem dL_act_242 : decode cL_act 242 = .ok (.iadd, 1) := by decide +kernel
theorem dL_act_243 : decode cL_act 243 = .ok (.invokestatic 184, 3) := by decide +kernel
theorem dL_act_246 : decode cL_act 246 = .ok (.ireturn, 1) := by decide +kernel
theorem dL_act_247 : decode cL_act 247 = .ok (.aload_n 0, 1) := by decide +kernel
theorem dL_act_248 : decode cL_act 248 = .ok (.iload_n 2, 1) := by decide +kernel
theorem dL_act_249 : decode cL_act 249 = .ok (.iconst 5, 1) := by decide +kernel
theorem dL_act_250 : decode cL_act 250 = .ok (.irem, 1) := by decide +kernel
theorem dL_act_251 : decode cL_act 251 = .ok (.iload_n 2, 1) := by decide +kernel
theorem dL_act_252 : decode cL_act 252 = .ok (.bipush 8, 2) := by decide +kernel
theorem dL_act_254 : decode cL_act 254 = .ok (.idiv, 1) := by decide +kernel
theorem dL_act_255 : decode cL_act 255 = .ok (.iconst 3, 1) := by decide +kernel
theorem dL_act_256 : decode cL_act 256 = .ok (.irem, 1) := by decide +kernel
theorem dL_act_257 : decode cL_act 257 = .ok (.ifCond .le 7, 3) := by decide +kernel
theorem dL_act_260 : decode cL_act 260 = .ok (.iconst 1, 1) := by decide +kernel
theorem dL_act_261 : decode cL_act 261 = .ok (.goto 4, 3) := by decide +kernel
theorem dL_act_264 : decode cL_act 264 = .ok (.iconst 0, 1) := by decide +kernel
theorem dL_act_265 : decode cL_act 265 = .ok (.invokestatic 192, 3) := by decide +kernel
theorem dL_act_268 : decode cL_act 268 = .ok (.ireturn, 1) := by decide +kernel
theorem dL_act_269 : decode cL_act 269 = .ok (.aload_n 0, 1) := by decide +kernel
theorem dL_act_270 : decode cL_act 270 = .ok (.bipush 12, 2) := by decide +kernel
theorem dL_act_272 : decode cL_act 272 = .ok (.iload 4, 2) := by decide +kernel
theorem dL_act_274 : decode cL_act 274 = .ok (.iload 5, 2) := by decide +kernel
theorem dL_act_276 : decode cL_act 276 = .ok (.iload_n 2, 1) := by decide +kernel
theorem dL_act_277 : decode cL_act 277 = .ok (.sipush 1024, 3) := by decide +kernel
theorem dL_act_280 : decode cL_act 280 = .ok (.idiv, 1) := by decide +kernel
theorem dL_act_281 : decode cL_act 281 = .ok (.iconst 3, 1) := by decide +kernel
theorem dL_act_282 : decode cL_act 282 = .ok (.irem, 1) := by decide +kernel
theorem dL_act_283 : decode cL_act 283 = .ok (.ifCond .ne 7, 3) := by decide +kernel
theorem dL_act_286 : decode cL_act 286 = .ok (.iconst (-1), 1) := by decide +kernel
theorem dL_act_287 : decode cL_act 287 = .ok (.goto 14, 3) := by decide +kernel
theorem dL_act_290 : decode cL_act 290 = .ok (.iload 5, 2) := by decide +kernel
theorem dL_act_292 : decode cL_act 292 = .ok (.iload_n 2, 1) := by decide +kernel
theorem dL_act_293 : decode cL_act 293 = .ok (.sipush 4096, 3) := by decide +kernel
theorem dL_act_296 : decode cL_act 296 = .ok (.idiv, 1) := by decide +kernel
theorem dL_act_297 : decode cL_act 297 = .ok (.bipush 10, 2) := by decide +kernel
theorem dL_act_299 : decode cL_act 299 = .ok (.irem, 1) := by decide +kernel
theorem dL_act_300 : decode cL_act 300 = .ok (.iadd, 1) := by decide +kernel
theorem dL_act_301 : decode cL_act 301 = .ok (.invokestatic 184, 3) := by decide +kernel
theorem dL_act_304 : decode cL_act 304 = .ok (.ireturn, 1) := by decide +kernel
theorem dL_act_305 : decode cL_act 305 = .ok (.aload_n 0, 1) := by decide +kernel
theorem dL_act_306 : decode cL_act 306 = .ok (.bipush 13, 2) := by decide +kernel
theorem dL_act_308 : decode cL_act 308 = .ok (.iload_n 2, 1) := by decide +kernel
theorem dL_act_309 : decode cL_act 309 = .ok (.iconst 3, 1) := by decide +kernel
theorem dL_act_310 : decode cL_act 310 = .ok (.irem, 1) := by decide +kernel
theorem dL_act_311 : decode cL_act 311 = .ok (.iconst 0, 1) := by decide +kernel
theorem dL_act_312 : decode cL_act 312 = .ok (.iconst 0, 1) := by decide +kernel
theorem dL_act_313 : decode cL_act 313 = .ok (.invokestatic 184, 3) := by decide +kernel
theorem dL_act_316 : decode cL_act 316 = .ok (.ireturn, 1) := by decide +kernel
theorem dL_act_317 : decode cL_act 317 = .ok (.aload_n 0, 1) := by decide +kernel
theorem dL_act_318 : decode cL_act 318 = .ok (.bipush 15, 2) := by decide +kernel
theorem dL_act_320 : decode cL_act 320 = .ok (.iload_n 2, 1) := by decide +kernel
theorem dL_act_321 : decode cL_act 321 = .ok (.iconst 2, 1) := by decide +kernel
theorem dL_act_322 : decode cL_act 322 = .ok (.irem, 1) := by decide +kernel
theorem dL_act_323 : decode cL_act 323 = .ok (.iconst 1, 1) := by decide +kernel
theorem dL_act_324 : decode cL_act 324 = .ok (.iload_n 2, 1) := by decide +kernel
theorem dL_act_325 : decode cL_act 325 = .ok (.iconst 2, 1) := by decide +kernel
theorem dL_act_326 : decode cL_act 326 = .ok (.idiv, 1) := by decide +kernel
theorem dL_act_327 : decode cL_act 327 = .ok (.sipush 500, 3) := by decide +kernel
theorem dL_act_330 : decode cL_act 330 = .ok (.irem, 1) := by decide +kernel
theorem dL_act_331 : decode cL_act 331 = .ok (.iadd, 1) := by decide +kernel
theorem dL_act_332 : decode cL_act 332 = .ok (.iconst 0, 1) := by decide +kernel
theorem dL_act_333 : decode cL_act 333 = .ok (.invokestatic 184, 3) := by decide +kernel
theorem dL_act_336 : decode cL_act 336 = .ok (.ireturn, 1) := by decide +kernel
theorem dL_act_337 : decode cL_act 337 = .ok (.aload_n 0, 1) := by decide +kernel
theorem dL_act_338 : decode cL_act 338 = .ok (.bipush 16, 2) := by decide +kernel
theorem dL_act_340 : decode cL_act 340 = .ok (.iconst 0, 1) := by decide +kernel
theorem dL_act_341 : decode cL_act 341 = .ok (.iconst 0, 1) := by decide +kernel
theorem dL_act_342 : decode cL_act 342 = .ok (.iconst 0, 1) := by decide +kernel
theorem dL_act_343 : decode cL_act 343 = .ok (.invokestatic 184, 3) := by decide +kernel
theorem dL_act_346 : decode cL_act 346 = .ok (.ireturn, 1) := by decide +kernel
theorem dL_act_347 : decode cL_act 347 = .ok (.aload_n 0, 1) := by decide +kernel
theorem dL_act_348 : decode cL_act 348 = .ok (.bipush 21, 2) := by decide +kernel
theorem dL_act_350 : decode cL_act 350 = .ok (.iload_n 2, 1) := by decide +kernel
theorem dL_act_351 : decode cL_act 351 = .ok (.iconst 2, 1) := by decide +kernel
theorem dL_act_352 : decode cL_act 352 = .ok (.irem, 1) := by decide +kernel
theorem dL_act_353 : decode cL_act 353 = .ok (.iconst 0, 1) := by decide +kernel
theorem dL_act_354 : decode cL_act 354 = .ok (.iconst 0, 1) := by decide +kernel
theorem dL_act_355 : decode cL_act 355 = .ok (.invokestatic 184, 3) := by decide +kernel
theorem dL_act_358 : decode cL_act 358 = .ok (.ireturn, 1) := by decide +kernel
theorem dL_act_359 : decode cL_act 359 = .ok (.aload_n 0, 1) := by decide +kernel
theorem dL_act_360 : decode cL_act 360 = .ok (.bipush 22, 2) := by decide +kernel
theorem dL_act_362 : decode cL_act 362 = .ok (.iload_n 2, 1) := by decide +kernel
theorem dL_act_363 : decode cL_act 363 = .ok (.iconst 2, 1) := by decide +kernel
theorem dL_act_364 : decode cL_act 364 = .ok (.irem, 1) := by decide +kernel
theorem dL_act_365 : decode cL_act 365 = .ok (.iconst 0, 1) := by decide +kernel
theorem dL_act_366 : decode cL_act 366 = .ok (.iconst 0, 1) := by decide +kernel
theorem dL_act_367 : decode cL_act 367 = .ok (.invokestatic 184, 3) := by decide +kernel
theorem dL_act_370 : decode cL_act 370 = .ok (.ireturn, 1) := by decide +kernel
theorem dL_act_371 : decode cL_act 371 = .ok (.aload_n 0, 1) := by decide +kernel
theorem dL_act_372 : decode cL_act 372 = .ok (.bipush 14, 2) := by decide +kernel
theorem dL_act_374 : decode cL_act 374 = .ok (.iconst 1, 1) := by decide +kernel
theorem dL_act_375 : decode cL_act 375 = .ok (.iload_n 2, 1) := by decide +kernel
theorem dL_act_376 : decode cL_act 376 = .ok (.iconst 4, 1) := by decide +kernel
theorem dL_act_377 : decode cL_act 377 = .ok (.irem, 1) := by decide +kernel
theorem dL_act_378 : decode cL_act 378 = .ok (.iadd, 1) := by decide +kernel
theorem dL_act_379 : decode cL_act 379 = .ok (.iconst 0, 1) := by decide +kernel
theorem dL_act_380 : decode cL_act 380 = .ok (.iconst 0, 1) := by decide +kernel
theorem dL_act_381 : decode cL_act 381 = .ok (.invokestatic 184, 3) := by decide +kernel
theorem dL_act_384 : decode cL_act 384 = .ok (.ireturn, 1) := by decide +kernel
theorem dL_act_385 : decode cL_act 385 = .ok (.aload_n 0, 1) := by decide +kernel
theorem dL_act_386 : decode cL_act 386 = .ok (.invokevirtual 214, 3) := by decide +kernel
theorem dL_act_389 : decode cL_act 389 = .ok (.pop, 1) := by decide +kernel
theorem dL_act_390 : decode cL_act 390 = .ok (.aload_n 0, 1) := by decide +kernel
theorem dL_act_391 : decode cL_act 391 = .ok (.iconst 0, 1) := by decide +kernel
theorem dL_act_392 : decode cL_act 392 = .ok (.bipush 83, 2) := by decide +kernel
theorem dL_act_394 : decode cL_act 394 = .ok (.iconst 0, 1) := by decide +kernel
theorem dL_act_395 : decode cL_act 395 = .ok (.iconst 0, 1) := by decide +kernel
theorem dL_act_396 : decode cL_act 396 = .ok (.invokestatic 184, 3) := by decide +kernel
theorem dL_act_399 : decode cL_act 399 = .ok (.aload_n 0, 1) := by decide +kernel
theorem dL_act_400 : decode cL_act 400 = .ok (.iconst 0, 1) := by decide +kernel
theorem dL_act_401 : decode cL_act 401 = .ok (.iload_n 2, 1) := by decide +kernel
theorem dL_act_402 : decode cL_act 402 = .ok (.iconst 3, 1) := by decide +kernel
theorem dL_act_403 : decode cL_act 403 = .ok (.irem, 1) := by decide +kernel
theorem dL_act_404 : decode cL_act 404 = .ok (.ifCond .ne 8, 3) := by decide +kernel
theorem dL_act_407 : decode cL_act 407 = .ok (.bipush 99, 2) := by decide +kernel
theorem dL_act_409 : decode cL_act 409 = .ok (.goto 5, 3) := by decide +kernel
theorem dL_act_412 : decode cL_act 412 = .ok (.bipush 109, 2) := by decide +kernel
theorem dL_act_414 : decode cL_act 414 = .ok (.iconst 0, 1) := by decide +kernel
theorem dL_act_415 : decode cL_act 415 = .ok (.iconst 0, 1) := by decide +kernel
theorem dL_act_416 : decode cL_act 416 = .ok (.invokestatic 184, 3) := by decide +kernel
theorem dL_act_419 : decode cL_act 419 = .ok (.iadd, 1) := by decide +kernel
theorem dL_act_420 : decode cL_act 420 = .ok (.aload_n 0, 1) := by decide +kernel
theorem dL_act_421 : decode cL_act 421 = .ok (.iconst 0, 1) := by decide +kernel
theorem dL_act_422 : decode cL_act 422 = .ok (.bipush 48, 2) := by decide +kernel
theorem dL_act_424 : decode cL_act 424 = .ok (.iload_n 2, 1) := by decide +kernel
theorem dL_act_425 : decode cL_act 425 = .ok (.iconst 4, 1) := by decide +kernel
theorem dL_act_426 : decode cL_act 426 = .ok (.idiv, 1) := by decide +kernel
theorem dL_act_427 : decode cL_act 427 = .ok (.iconst 5, 1) := by decide +kernel
theorem dL_act_428 : decode cL_act 428 = .ok (.irem, 1) := by decide +kernel
theorem dL_act_429 : decode cL_act 429 = .ok (.iadd, 1) := by decide +kernel
theorem dL_act_430 : decode cL_act 430 = .ok (.iconst 0, 1) := by decide +kernel
theorem dL_act_431 : decode cL_act 431 = .ok (.iconst 0, 1) := by decide +kernel
theorem dL_act_432 : decode cL_act 432 = .ok (.invokestatic 184, 3) := by decide +kernel
theorem dL_act_435 : decode cL_act 435 = .ok (.iadd, 1) := by decide +kernel
theorem dL_act_436 : decode cL_act 436 = .ok (.aload_n 0, 1) := by decide +kernel
theorem dL_act_437 : decode cL_act 437 = .ok (.iconst 0, 1) := by decide +kernel
theorem dL_act_438 : decode cL_act 438 = .ok (.bipush 48, 2) := by decide +kernel
theorem dL_act_440 : decode cL_act 440 = .ok (.iload_n 2, 1) := by decide +kernel
theorem dL_act_441 : decode cL_act 441 = .ok (.bipush 32, 2) := by decide +kernel
theorem dL_act_443 : decode cL_act 443 = .ok (.idiv, 1) := by decide +kernel
theorem dL_act_444 : decode cL_act 444 = .ok (.iconst 4, 1) := by decide +kernel
theorem dL_act_445 : decode cL_act 445 = .ok (.irem, 1) := by decide +kernel
theorem dL_act_446 : decode cL_act 446 = .ok (.iadd, 1) := by decide +kernel
theorem dL_act_447 : decode cL_act 447 = .ok (.iconst 0, 1) := by decide +kernel
theorem dL_act_448 : decode cL_act 448 = .ok (.iconst 0, 1) := by decide +kernel
theorem dL_act_449 : decode cL_act 449 = .ok (.invokestatic 184, 3) := by decide +kernel
theorem dL_act_452 : decode cL_act 452 = .ok (.iadd, 1) := by decide +kernel
theorem dL_act_453 : decode cL_act 453 = .ok (.iload_n 2, 1) := by decide +kernel
