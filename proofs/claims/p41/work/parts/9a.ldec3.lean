/-! the law: its code read -/
theorem dL_law_747 : decode cL_law 747 = .ok (.goto 130, 3) := by decide +kernel
theorem dL_law_750 : decode cL_law 750 = .ok (.iload 16, 2) := by decide +kernel
theorem dL_law_752 : decode cL_law 752 = .ok (.bipush 18, 2) := by decide +kernel
theorem dL_law_754 : decode cL_law 754 = .ok (.if_icmp .ne 47, 3) := by decide +kernel
theorem dL_law_757 : decode cL_law 757 = .ok (.aload_n 1, 1) := by decide +kernel
theorem dL_law_758 : decode cL_law 758 = .ok (.iload 17, 2) := by decide +kernel
theorem dL_law_760 : decode cL_law 760 = .ok (.invokestatic 194, 3) := by decide +kernel
theorem dL_law_763 : decode cL_law 763 = .ok (.istore 18, 2) := by decide +kernel
theorem dL_law_765 : decode cL_law 765 = .ok (.iload 18, 2) := by decide +kernel
theorem dL_law_767 : decode cL_law 767 = .ok (.ifCond .lt 24, 3) := by decide +kernel
theorem dL_law_770 : decode cL_law 770 = .ok (.iload 18, 2) := by decide +kernel
theorem dL_law_772 : decode cL_law 772 = .ok (.aload 8, 2) := by decide +kernel
theorem dL_law_774 : decode cL_law 774 = .ok (.iload 17, 2) := by decide +kernel
theorem dL_law_776 : decode cL_law 776 = .ok (.iaload, 1) := by decide +kernel
theorem dL_law_777 : decode cL_law 777 = .ok (.if_icmp .ne 18, 3) := by decide +kernel
theorem dL_law_780 : decode cL_law 780 = .ok (.aload_n 1, 1) := by decide +kernel
theorem dL_law_781 : decode cL_law 781 = .ok (.iload 17, 2) := by decide +kernel
theorem dL_law_783 : decode cL_law 783 = .ok (.invokestatic 196, 3) := by decide +kernel
theorem dL_law_786 : decode cL_law 786 = .ok (.bipush 99, 2) := by decide +kernel
theorem dL_law_788 : decode cL_law 788 = .ok (.if_icmp .ne 7, 3) := by decide +kernel
theorem dL_law_791 : decode cL_law 791 = .ok (.iconst 1, 1) := by decide +kernel
theorem dL_law_792 : decode cL_law 792 = .ok (.goto 4, 3) := by decide +kernel
theorem dL_law_795 : decode cL_law 795 = .ok (.iconst 0, 1) := by decide +kernel
theorem dL_law_796 : decode cL_law 796 = .ok (.istore 6, 2) := by decide +kernel
theorem dL_law_798 : decode cL_law 798 = .ok (.goto 79, 3) := by decide +kernel
theorem dL_law_801 : decode cL_law 801 = .ok (.aload_n 1, 1) := by decide +kernel
theorem dL_law_802 : decode cL_law 802 = .ok (.invokevirtual 187, 3) := by decide +kernel
theorem dL_law_805 : decode cL_law 805 = .ok (.istore 19, 2) := by decide +kernel
theorem dL_law_807 : decode cL_law 807 = .ok (.iload 15, 2) := by decide +kernel
theorem dL_law_809 : decode cL_law 809 = .ok (.bipush 31, 2) := by decide +kernel
theorem dL_law_811 : decode cL_law 811 = .ok (.irem, 1) := by decide +kernel
theorem dL_law_812 : decode cL_law 812 = .ok (.ifCond .ne 7, 3) := by decide +kernel
theorem dL_law_815 : decode cL_law 815 = .ok (.iconst 0, 1) := by decide +kernel
theorem dL_law_816 : decode cL_law 816 = .ok (.goto 9, 3) := by decide +kernel
theorem dL_law_819 : decode cL_law 819 = .ok (.iconst 1, 1) := by decide +kernel
theorem dL_law_820 : decode cL_law 820 = .ok (.iload 15, 2) := by decide +kernel
theorem dL_law_822 : decode cL_law 822 = .ok (.iconst 3, 1) := by decide +kernel
theorem dL_law_823 : decode cL_law 823 = .ok (.irem, 1) := by decide +kernel
theorem dL_law_824 : decode cL_law 824 = .ok (.iadd, 1) := by decide +kernel
theorem dL_law_825 : decode cL_law 825 = .ok (.istore 20, 2) := by decide +kernel
theorem dL_law_827 : decode cL_law 827 = .ok (.aload_n 1, 1) := by decide +kernel
theorem dL_law_828 : decode cL_law 828 = .ok (.invokestatic 198, 3) := by decide +kernel
theorem dL_law_831 : decode cL_law 831 = .ok (.istore 21, 2) := by decide +kernel
theorem dL_law_833 : decode cL_law 833 = .ok (.aload_n 1, 1) := by decide +kernel
theorem dL_law_834 : decode cL_law 834 = .ok (.iload 20, 2) := by decide +kernel
theorem dL_law_836 : decode cL_law 836 = .ok (.invokestatic 201, 3) := by decide +kernel
theorem dL_law_839 : decode cL_law 839 = .ok (.istore 18, 2) := by decide +kernel
theorem dL_law_841 : decode cL_law 841 = .ok (.iload 18, 2) := by decide +kernel
theorem dL_law_843 : decode cL_law 843 = .ok (.ifCond .lt 27, 3) := by decide +kernel
theorem dL_law_846 : decode cL_law 846 = .ok (.aload_n 1, 1) := by decide +kernel
theorem dL_law_847 : decode cL_law 847 = .ok (.invokevirtual 187, 3) := by decide +kernel
theorem dL_law_850 : decode cL_law 850 = .ok (.iload 19, 2) := by decide +kernel
theorem dL_law_852 : decode cL_law 852 = .ok (.iload 20, 2) := by decide +kernel
theorem dL_law_854 : decode cL_law 854 = .ok (.iadd, 1) := by decide +kernel
theorem dL_law_855 : decode cL_law 855 = .ok (.if_icmp .ne 19, 3) := by decide +kernel
theorem dL_law_858 : decode cL_law 858 = .ok (.aload_n 1, 1) := by decide +kernel
theorem dL_law_859 : decode cL_law 859 = .ok (.invokestatic 198, 3) := by decide +kernel
theorem dL_law_862 : decode cL_law 862 = .ok (.iload 21, 2) := by decide +kernel
theorem dL_law_864 : decode cL_law 864 = .ok (.iload 18, 2) := by decide +kernel
theorem dL_law_866 : decode cL_law 866 = .ok (.iadd, 1) := by decide +kernel
theorem dL_law_867 : decode cL_law 867 = .ok (.if_icmp .ne 7, 3) := by decide +kernel
theorem dL_law_870 : decode cL_law 870 = .ok (.iconst 1, 1) := by decide +kernel
theorem dL_law_871 : decode cL_law 871 = .ok (.goto 4, 3) := by decide +kernel
theorem dL_law_874 : decode cL_law 874 = .ok (.iconst 0, 1) := by decide +kernel
theorem dL_law_875 : decode cL_law 875 = .ok (.istore 6, 2) := by decide +kernel
theorem dL_law_877 : decode cL_law 877 = .ok (.iinc 9 4, 3) := by decide +kernel
theorem dL_law_880 : decode cL_law 880 = .ok (.iload 6, 2) := by decide +kernel
theorem dL_law_882 : decode cL_law 882 = .ok (.iload 18, 2) := by decide +kernel
theorem dL_law_884 : decode cL_law 884 = .ok (.ifCond .ge 14, 3) := by decide +kernel
theorem dL_law_887 : decode cL_law 887 = .ok (.aload_n 1, 1) := by decide +kernel
theorem dL_law_888 : decode cL_law 888 = .ok (.iload_n 3, 1) := by decide +kernel
theorem dL_law_889 : decode cL_law 889 = .ok (.invokestatic 141, 3) := by decide +kernel
theorem dL_law_892 : decode cL_law 892 = .ok (.lload 11, 2) := by decide +kernel
theorem dL_law_894 : decode cL_law 894 = .ok (.lcmp, 1) := by decide +kernel
theorem dL_law_895 : decode cL_law 895 = .ok (.ifCond .ne 28, 3) := by decide +kernel
theorem dL_law_898 : decode cL_law 898 = .ok (.aload_n 1, 1) := by decide +kernel
theorem dL_law_899 : decode cL_law 899 = .ok (.iload_n 3, 1) := by decide +kernel
theorem dL_law_900 : decode cL_law 900 = .ok (.aload 7, 2) := by decide +kernel
theorem dL_law_902 : decode cL_law 902 = .ok (.iload 5, 2) := by decide +kernel
theorem dL_law_904 : decode cL_law 904 = .ok (.invokestatic 203, 3) := by decide +kernel
theorem dL_law_907 : decode cL_law 907 = .ok (.ifCond .eq 16, 3) := by decide +kernel
theorem dL_law_910 : decode cL_law 910 = .ok (.aload_n 1, 1) := by decide +kernel
theorem dL_law_911 : decode cL_law 911 = .ok (.aload 7, 2) := by decide +kernel
theorem dL_law_913 : decode cL_law 913 = .ok (.invokestatic 207, 3) := by decide +kernel
theorem dL_law_916 : decode cL_law 916 = .ok (.ifCond .eq 7, 3) := by decide +kernel
theorem dL_law_919 : decode cL_law 919 = .ok (.iconst 1, 1) := by decide +kernel
theorem dL_law_920 : decode cL_law 920 = .ok (.goto 4, 3) := by decide +kernel
theorem dL_law_923 : decode cL_law 923 = .ok (.iconst 0, 1) := by decide +kernel
theorem dL_law_924 : decode cL_law 924 = .ok (.iand, 1) := by decide +kernel
theorem dL_law_925 : decode cL_law 925 = .ok (.istore 6, 2) := by decide +kernel
theorem dL_law_927 : decode cL_law 927 = .ok (.iload 6, 2) := by decide +kernel
theorem dL_law_929 : decode cL_law 929 = .ok (.iload 10, 2) := by decide +kernel
theorem dL_law_931 : decode cL_law 931 = .ok (.bipush 7, 2) := by decide +kernel
theorem dL_law_933 : decode cL_law 933 = .ok (.irem, 1) := by decide +kernel
theorem dL_law_934 : decode cL_law 934 = .ok (.bipush 6, 2) := by decide +kernel
theorem dL_law_936 : decode cL_law 936 = .ok (.if_icmp .lt 20, 3) := by decide +kernel
theorem dL_law_939 : decode cL_law 939 = .ok (.aload_n 1, 1) := by decide +kernel
theorem dL_law_940 : decode cL_law 940 = .ok (.iload_n 2, 1) := by decide +kernel
theorem dL_law_941 : decode cL_law 941 = .ok (.invokestatic 211, 3) := by decide +kernel
theorem dL_law_944 : decode cL_law 944 = .ok (.ifCond .eq 16, 3) := by decide +kernel
theorem dL_law_947 : decode cL_law 947 = .ok (.aload_n 1, 1) := by decide +kernel
theorem dL_law_948 : decode cL_law 948 = .ok (.aload 8, 2) := by decide +kernel
theorem dL_law_950 : decode cL_law 950 = .ok (.invokestatic 215, 3) := by decide +kernel
theorem dL_law_953 : decode cL_law 953 = .ok (.ifCond .eq 7, 3) := by decide +kernel
theorem dL_law_956 : decode cL_law 956 = .ok (.iconst 1, 1) := by decide +kernel
theorem dL_law_957 : decode cL_law 957 = .ok (.goto 4, 3) := by decide +kernel
theorem dL_law_960 : decode cL_law 960 = .ok (.iconst 0, 1) := by decide +kernel
theorem dL_law_961 : decode cL_law 961 = .ok (.iand, 1) := by decide +kernel
theorem dL_law_962 : decode cL_law 962 = .ok (.istore 6, 2) := by decide +kernel
theorem dL_law_964 : decode cL_law 964 = .ok (.iinc 10 1, 3) := by decide +kernel
theorem dL_law_967 : decode cL_law 967 = .ok (.goto (-765), 3) := by decide +kernel
theorem dL_law_970 : decode cL_law 970 = .ok (.iload 6, 2) := by decide +kernel
theorem dL_law_972 : decode cL_law 972 = .ok (.ifCond .eq 24, 3) := by decide +kernel
theorem dL_law_975 : decode cL_law 975 = .ok (.aload_n 1, 1) := by decide +kernel
theorem dL_law_976 : decode cL_law 976 = .ok (.iload_n 2, 1) := by decide +kernel
theorem dL_law_977 : decode cL_law 977 = .ok (.invokestatic 211, 3) := by decide +kernel
theorem dL_law_980 : decode cL_law 980 = .ok (.ifCond .eq 16, 3) := by decide +kernel
theorem dL_law_983 : decode cL_law 983 = .ok (.aload_n 1, 1) := by decide +kernel
theorem dL_law_984 : decode cL_law 984 = .ok (.aload 8, 2) := by decide +kernel
theorem dL_law_986 : decode cL_law 986 = .ok (.invokestatic 215, 3) := by decide +kernel
theorem dL_law_989 : decode cL_law 989 = .ok (.ifCond .eq 7, 3) := by decide +kernel
theorem dL_law_992 : decode cL_law 992 = .ok (.iconst 1, 1) := by decide +kernel
theorem dL_law_993 : decode cL_law 993 = .ok (.goto 4, 3) := by decide +kernel
theorem dL_law_996 : decode cL_law 996 = .ok (.iconst 0, 1) := by decide +kernel
theorem dL_law_997 : decode cL_law 997 = .ok (.ireturn, 1) := by decide +kernel
