theorem d_L_law_765 : decode b_L_law 765 = .ok (.iload 5, 2) := by decide +kernel
theorem d_L_law_767 : decode b_L_law 767 = .ok (.iconst 2, 1) := by decide +kernel
theorem d_L_law_768 : decode b_L_law 768 = .ok (.iadd, 1) := by decide +kernel
theorem d_L_law_769 : decode b_L_law 769 = .ok (.iaload, 1) := by decide +kernel
theorem d_L_law_770 : decode b_L_law 770 = .ok (.i2d, 1) := by decide +kernel
theorem d_L_law_771 : decode b_L_law 771 = .ok (.ldc2_w 110, 3) := by decide +kernel
theorem d_L_law_774 : decode b_L_law 774 = .ok (.dmul, 1) := by decide +kernel
theorem d_L_law_775 : decode b_L_law 775 = .ok (.invokevirtual 115, 3) := by decide +kernel
theorem d_L_law_778 : decode b_L_law 778 = .ok (.dstore 7, 2) := by decide +kernel
theorem d_L_law_780 : decode b_L_law 780 = .ok (.aload_n 2, 1) := by decide +kernel
theorem d_L_law_781 : decode b_L_law 781 = .ok (.invokevirtual 77, 3) := by decide +kernel
theorem d_L_law_784 : decode b_L_law 784 = .ok (.iload 6, 2) := by decide +kernel
theorem d_L_law_786 : decode b_L_law 786 = .ok (.if_icmp .eq 5, 3) := by decide +kernel
theorem d_L_law_789 : decode b_L_law 789 = .ok (.iconst 0, 1) := by decide +kernel
theorem d_L_law_790 : decode b_L_law 790 = .ok (.ireturn, 1) := by decide +kernel
theorem d_L_law_791 : decode b_L_law 791 = .ok (.iload 6, 2) := by decide +kernel
theorem d_L_law_793 : decode b_L_law 793 = .ok (.ifCond .ne 35, 3) := by decide +kernel
theorem d_L_law_796 : decode b_L_law 796 = .ok (.aload 4, 2) := by decide +kernel
theorem d_L_law_798 : decode b_L_law 798 = .ok (.iconst 0, 1) := by decide +kernel
theorem d_L_law_799 : decode b_L_law 799 = .ok (.daload, 1) := by decide +kernel
theorem d_L_law_800 : decode b_L_law 800 = .ok (.dload 7, 2) := by decide +kernel
theorem d_L_law_802 : decode b_L_law 802 = .ok (.dcmp .l, 1) := by decide +kernel
theorem d_L_law_803 : decode b_L_law 803 = .ok (.ifCond .eq 25, 3) := by decide +kernel
theorem d_L_law_806 : decode b_L_law 806 = .ok (.aload 4, 2) := by decide +kernel
theorem d_L_law_808 : decode b_L_law 808 = .ok (.iconst 0, 1) := by decide +kernel
theorem d_L_law_809 : decode b_L_law 809 = .ok (.daload, 1) := by decide +kernel
theorem d_L_law_810 : decode b_L_law 810 = .ok (.aload 4, 2) := by decide +kernel
theorem d_L_law_812 : decode b_L_law 812 = .ok (.iconst 0, 1) := by decide +kernel
theorem d_L_law_813 : decode b_L_law 813 = .ok (.daload, 1) := by decide +kernel
theorem d_L_law_814 : decode b_L_law 814 = .ok (.dcmp .l, 1) := by decide +kernel
theorem d_L_law_815 : decode b_L_law 815 = .ok (.ifCond .eq 11, 3) := by decide +kernel
theorem d_L_law_818 : decode b_L_law 818 = .ok (.dload 7, 2) := by decide +kernel
theorem d_L_law_820 : decode b_L_law 820 = .ok (.dload 7, 2) := by decide +kernel
theorem d_L_law_822 : decode b_L_law 822 = .ok (.dcmp .l, 1) := by decide +kernel
theorem d_L_law_823 : decode b_L_law 823 = .ok (.ifCond .ne 5, 3) := by decide +kernel
theorem d_L_law_826 : decode b_L_law 826 = .ok (.iconst 0, 1) := by decide +kernel
theorem d_L_law_827 : decode b_L_law 827 = .ok (.ireturn, 1) := by decide +kernel
theorem d_L_law_828 : decode b_L_law 828 = .ok (.goto 269, 3) := by decide +kernel
theorem d_L_law_831 : decode b_L_law 831 = .ok (.aload_n 1, 1) := by decide +kernel
theorem d_L_law_832 : decode b_L_law 832 = .ok (.aload_n 0, 1) := by decide +kernel
theorem d_L_law_833 : decode b_L_law 833 = .ok (.iload 5, 2) := by decide +kernel
theorem d_L_law_835 : decode b_L_law 835 = .ok (.iconst 1, 1) := by decide +kernel
theorem d_L_law_836 : decode b_L_law 836 = .ok (.iadd, 1) := by decide +kernel
theorem d_L_law_837 : decode b_L_law 837 = .ok (.iaload, 1) := by decide +kernel
theorem d_L_law_838 : decode b_L_law 838 = .ok (.aload 4, 2) := by decide +kernel
theorem d_L_law_840 : decode b_L_law 840 = .ok (.invokestatic 116, 3) := by decide +kernel
theorem d_L_law_843 : decode b_L_law 843 = .ok (.istore 6, 2) := by decide +kernel
theorem d_L_law_845 : decode b_L_law 845 = .ok (.aload_n 2, 1) := by decide +kernel
theorem d_L_law_846 : decode b_L_law 846 = .ok (.aload_n 0, 1) := by decide +kernel
theorem d_L_law_847 : decode b_L_law 847 = .ok (.iload 5, 2) := by decide +kernel
theorem d_L_law_849 : decode b_L_law 849 = .ok (.iconst 1, 1) := by decide +kernel
theorem d_L_law_850 : decode b_L_law 850 = .ok (.iadd, 1) := by decide +kernel
theorem d_L_law_851 : decode b_L_law 851 = .ok (.iaload, 1) := by decide +kernel
theorem d_L_law_852 : decode b_L_law 852 = .ok (.invokevirtual 119, 3) := by decide +kernel
theorem d_L_law_855 : decode b_L_law 855 = .ok (.dstore 7, 2) := by decide +kernel
theorem d_L_law_857 : decode b_L_law 857 = .ok (.aload_n 2, 1) := by decide +kernel
theorem d_L_law_858 : decode b_L_law 858 = .ok (.invokevirtual 77, 3) := by decide +kernel
theorem d_L_law_861 : decode b_L_law 861 = .ok (.iload 6, 2) := by decide +kernel
theorem d_L_law_863 : decode b_L_law 863 = .ok (.if_icmp .eq 5, 3) := by decide +kernel
theorem d_L_law_866 : decode b_L_law 866 = .ok (.iconst 0, 1) := by decide +kernel
theorem d_L_law_867 : decode b_L_law 867 = .ok (.ireturn, 1) := by decide +kernel
theorem d_L_law_868 : decode b_L_law 868 = .ok (.iload 6, 2) := by decide +kernel
theorem d_L_law_870 : decode b_L_law 870 = .ok (.ifCond .ne 35, 3) := by decide +kernel
theorem d_L_law_873 : decode b_L_law 873 = .ok (.aload 4, 2) := by decide +kernel
theorem d_L_law_875 : decode b_L_law 875 = .ok (.iconst 0, 1) := by decide +kernel
theorem d_L_law_876 : decode b_L_law 876 = .ok (.daload, 1) := by decide +kernel
theorem d_L_law_877 : decode b_L_law 877 = .ok (.dload 7, 2) := by decide +kernel
theorem d_L_law_879 : decode b_L_law 879 = .ok (.dcmp .l, 1) := by decide +kernel
theorem d_L_law_880 : decode b_L_law 880 = .ok (.ifCond .eq 25, 3) := by decide +kernel
theorem d_L_law_883 : decode b_L_law 883 = .ok (.aload 4, 2) := by decide +kernel
theorem d_L_law_885 : decode b_L_law 885 = .ok (.iconst 0, 1) := by decide +kernel
theorem d_L_law_886 : decode b_L_law 886 = .ok (.daload, 1) := by decide +kernel
theorem d_L_law_887 : decode b_L_law 887 = .ok (.aload 4, 2) := by decide +kernel
theorem d_L_law_889 : decode b_L_law 889 = .ok (.iconst 0, 1) := by decide +kernel
theorem d_L_law_890 : decode b_L_law 890 = .ok (.daload, 1) := by decide +kernel
theorem d_L_law_891 : decode b_L_law 891 = .ok (.dcmp .l, 1) := by decide +kernel
theorem d_L_law_892 : decode b_L_law 892 = .ok (.ifCond .eq 11, 3) := by decide +kernel
theorem d_L_law_895 : decode b_L_law 895 = .ok (.dload 7, 2) := by decide +kernel
theorem d_L_law_897 : decode b_L_law 897 = .ok (.dload 7, 2) := by decide +kernel
theorem d_L_law_899 : decode b_L_law 899 = .ok (.dcmp .l, 1) := by decide +kernel
theorem d_L_law_900 : decode b_L_law 900 = .ok (.ifCond .ne 5, 3) := by decide +kernel
theorem d_L_law_903 : decode b_L_law 903 = .ok (.iconst 0, 1) := by decide +kernel
theorem d_L_law_904 : decode b_L_law 904 = .ok (.ireturn, 1) := by decide +kernel
theorem d_L_law_905 : decode b_L_law 905 = .ok (.goto 192, 3) := by decide +kernel
theorem d_L_law_908 : decode b_L_law 908 = .ok (.aload_n 1, 1) := by decide +kernel
theorem d_L_law_909 : decode b_L_law 909 = .ok (.aload_n 0, 1) := by decide +kernel
theorem d_L_law_910 : decode b_L_law 910 = .ok (.iload 5, 2) := by decide +kernel
theorem d_L_law_912 : decode b_L_law 912 = .ok (.iconst 1, 1) := by decide +kernel
theorem d_L_law_913 : decode b_L_law 913 = .ok (.iadd, 1) := by decide +kernel
theorem d_L_law_914 : decode b_L_law 914 = .ok (.iaload, 1) := by decide +kernel
theorem d_L_law_915 : decode b_L_law 915 = .ok (.aload 4, 2) := by decide +kernel
theorem d_L_law_917 : decode b_L_law 917 = .ok (.invokestatic 120, 3) := by decide +kernel
theorem d_L_law_920 : decode b_L_law 920 = .ok (.istore 6, 2) := by decide +kernel
theorem d_L_law_922 : decode b_L_law 922 = .ok (.aload_n 2, 1) := by decide +kernel
theorem d_L_law_923 : decode b_L_law 923 = .ok (.aload_n 0, 1) := by decide +kernel
theorem d_L_law_924 : decode b_L_law 924 = .ok (.iload 5, 2) := by decide +kernel
theorem d_L_law_926 : decode b_L_law 926 = .ok (.iconst 1, 1) := by decide +kernel
theorem d_L_law_927 : decode b_L_law 927 = .ok (.iadd, 1) := by decide +kernel
theorem d_L_law_928 : decode b_L_law 928 = .ok (.iaload, 1) := by decide +kernel
theorem d_L_law_929 : decode b_L_law 929 = .ok (.invokevirtual 122, 3) := by decide +kernel
theorem d_L_law_932 : decode b_L_law 932 = .ok (.dstore 7, 2) := by decide +kernel
theorem d_L_law_934 : decode b_L_law 934 = .ok (.aload_n 2, 1) := by decide +kernel
theorem d_L_law_935 : decode b_L_law 935 = .ok (.invokevirtual 77, 3) := by decide +kernel
theorem d_L_law_938 : decode b_L_law 938 = .ok (.iload 6, 2) := by decide +kernel
theorem d_L_law_940 : decode b_L_law 940 = .ok (.if_icmp .eq 5, 3) := by decide +kernel
theorem d_L_law_943 : decode b_L_law 943 = .ok (.iconst 0, 1) := by decide +kernel
theorem d_L_law_944 : decode b_L_law 944 = .ok (.ireturn, 1) := by decide +kernel
theorem d_L_law_945 : decode b_L_law 945 = .ok (.iload 6, 2) := by decide +kernel
theorem d_L_law_947 : decode b_L_law 947 = .ok (.ifCond .ne 35, 3) := by decide +kernel
theorem d_L_law_950 : decode b_L_law 950 = .ok (.aload 4, 2) := by decide +kernel
theorem d_L_law_952 : decode b_L_law 952 = .ok (.iconst 0, 1) := by decide +kernel
theorem d_L_law_953 : decode b_L_law 953 = .ok (.daload, 1) := by decide +kernel
theorem d_L_law_954 : decode b_L_law 954 = .ok (.dload 7, 2) := by decide +kernel
theorem d_L_law_956 : decode b_L_law 956 = .ok (.dcmp .l, 1) := by decide +kernel
theorem d_L_law_957 : decode b_L_law 957 = .ok (.ifCond .eq 25, 3) := by decide +kernel
theorem d_L_law_960 : decode b_L_law 960 = .ok (.aload 4, 2) := by decide +kernel
theorem d_L_law_962 : decode b_L_law 962 = .ok (.iconst 0, 1) := by decide +kernel
theorem d_L_law_963 : decode b_L_law 963 = .ok (.daload, 1) := by decide +kernel
theorem d_L_law_964 : decode b_L_law 964 = .ok (.aload 4, 2) := by decide +kernel
theorem d_L_law_966 : decode b_L_law 966 = .ok (.iconst 0, 1) := by decide +kernel
theorem d_L_law_967 : decode b_L_law 967 = .ok (.daload, 1) := by decide +kernel
theorem d_L_law_968 : decode b_L_law 968 = .ok (.dcmp .l, 1) := by decide +kernel
theorem d_L_law_969 : decode b_L_law 969 = .ok (.ifCond .eq 11, 3) := by decide +kernel
theorem d_L_law_972 : decode b_L_law 972 = .ok (.dload 7, 2) := by decide +kernel
theorem d_L_law_974 : decode b_L_law 974 = .ok (.dload 7, 2) := by decide +kernel
theorem d_L_law_976 : decode b_L_law 976 = .ok (.dcmp .l, 1) := by decide +kernel
theorem d_L_law_977 : decode b_L_law 977 = .ok (.ifCond .ne 5, 3) := by decide +kernel
theorem d_L_law_980 : decode b_L_law 980 = .ok (.iconst 0, 1) := by decide +kernel
theorem d_L_law_981 : decode b_L_law 981 = .ok (.ireturn, 1) := by decide +kernel
theorem d_L_law_982 : decode b_L_law 982 = .ok (.goto 115, 3) := by decide +kernel
theorem d_L_law_985 : decode b_L_law 985 = .ok (.aload_n 1, 1) := by decide +kernel
theorem d_L_law_986 : decode b_L_law 986 = .ok (.aload_n 0, 1) := by decide +kernel
theorem d_L_law_987 : decode b_L_law 987 = .ok (.iload 5, 2) := by decide +kernel
theorem d_L_law_989 : decode b_L_law 989 = .ok (.iconst 1, 1) := by decide +kernel
theorem d_L_law_990 : decode b_L_law 990 = .ok (.iadd, 1) := by decide +kernel
theorem d_L_law_991 : decode b_L_law 991 = .ok (.iaload, 1) := by decide +kernel
theorem d_L_law_992 : decode b_L_law 992 = .ok (.aload_n 3, 1) := by decide +kernel
theorem d_L_law_993 : decode b_L_law 993 = .ok (.invokestatic 123, 3) := by decide +kernel
theorem d_L_law_996 : decode b_L_law 996 = .ok (.istore 6, 2) := by decide +kernel
theorem d_L_law_998 : decode b_L_law 998 = .ok (.aload_n 2, 1) := by decide +kernel
theorem d_L_law_999 : decode b_L_law 999 = .ok (.aload_n 0, 1) := by decide +kernel
theorem d_L_law_1000 : decode b_L_law 1000 = .ok (.iload 5, 2) := by decide +kernel
theorem d_L_law_1002 : decode b_L_law 1002 = .ok (.iconst 1, 1) := by decide +kernel
theorem d_L_law_1003 : decode b_L_law 1003 = .ok (.iadd, 1) := by decide +kernel
theorem d_L_law_1004 : decode b_L_law 1004 = .ok (.iaload, 1) := by decide +kernel
theorem d_L_law_1005 : decode b_L_law 1005 = .ok (.invokevirtual 126, 3) := by decide +kernel
theorem d_L_law_1008 : decode b_L_law 1008 = .ok (.istore 7, 2) := by decide +kernel
theorem d_L_law_1010 : decode b_L_law 1010 = .ok (.aload_n 2, 1) := by decide +kernel
theorem d_L_law_1011 : decode b_L_law 1011 = .ok (.invokevirtual 77, 3) := by decide +kernel
theorem d_L_law_1014 : decode b_L_law 1014 = .ok (.iload 6, 2) := by decide +kernel
theorem d_L_law_1016 : decode b_L_law 1016 = .ok (.if_icmp .eq 5, 3) := by decide +kernel
theorem d_L_law_1019 : decode b_L_law 1019 = .ok (.iconst 0, 1) := by decide +kernel
theorem d_L_law_1020 : decode b_L_law 1020 = .ok (.ireturn, 1) := by decide +kernel
theorem d_L_law_1021 : decode b_L_law 1021 = .ok (.iload 6, 2) := by decide +kernel
theorem d_L_law_1023 : decode b_L_law 1023 = .ok (.ifCond .ne 15, 3) := by decide +kernel
theorem d_L_law_1026 : decode b_L_law 1026 = .ok (.aload_n 3, 1) := by decide +kernel
theorem d_L_law_1027 : decode b_L_law 1027 = .ok (.iconst 0, 1) := by decide +kernel
theorem d_L_law_1028 : decode b_L_law 1028 = .ok (.laload, 1) := by decide +kernel
theorem d_L_law_1029 : decode b_L_law 1029 = .ok (.iload 7, 2) := by decide +kernel
theorem d_L_law_1031 : decode b_L_law 1031 = .ok (.i2l, 1) := by decide +kernel
theorem d_L_law_1032 : decode b_L_law 1032 = .ok (.lcmp, 1) := by decide +kernel
theorem d_L_law_1033 : decode b_L_law 1033 = .ok (.ifCond .eq 5, 3) := by decide +kernel
theorem d_L_law_1036 : decode b_L_law 1036 = .ok (.iconst 0, 1) := by decide +kernel
theorem d_L_law_1037 : decode b_L_law 1037 = .ok (.ireturn, 1) := by decide +kernel
theorem d_L_law_1038 : decode b_L_law 1038 = .ok (.goto 59, 3) := by decide +kernel
theorem d_L_law_1041 : decode b_L_law 1041 = .ok (.aload_n 1, 1) := by decide +kernel
theorem d_L_law_1042 : decode b_L_law 1042 = .ok (.aload_n 0, 1) := by decide +kernel
theorem d_L_law_1043 : decode b_L_law 1043 = .ok (.iload 5, 2) := by decide +kernel
theorem d_L_law_1045 : decode b_L_law 1045 = .ok (.iconst 1, 1) := by decide +kernel
theorem d_L_law_1046 : decode b_L_law 1046 = .ok (.iadd, 1) := by decide +kernel
theorem d_L_law_1047 : decode b_L_law 1047 = .ok (.iaload, 1) := by decide +kernel
theorem d_L_law_1048 : decode b_L_law 1048 = .ok (.aload_n 3, 1) := by decide +kernel
theorem d_L_law_1049 : decode b_L_law 1049 = .ok (.invokestatic 127, 3) := by decide +kernel
theorem d_L_law_1052 : decode b_L_law 1052 = .ok (.istore 6, 2) := by decide +kernel
theorem d_L_law_1054 : decode b_L_law 1054 = .ok (.aload_n 2, 1) := by decide +kernel
theorem d_L_law_1055 : decode b_L_law 1055 = .ok (.aload_n 0, 1) := by decide +kernel
theorem d_L_law_1056 : decode b_L_law 1056 = .ok (.iload 5, 2) := by decide +kernel
theorem d_L_law_1058 : decode b_L_law 1058 = .ok (.iconst 1, 1) := by decide +kernel
theorem d_L_law_1059 : decode b_L_law 1059 = .ok (.iadd, 1) := by decide +kernel
theorem d_L_law_1060 : decode b_L_law 1060 = .ok (.iaload, 1) := by decide +kernel
theorem d_L_law_1061 : decode b_L_law 1061 = .ok (.invokevirtual 129, 3) := by decide +kernel
theorem d_L_law_1064 : decode b_L_law 1064 = .ok (.istore 7, 2) := by decide +kernel
theorem d_L_law_1066 : decode b_L_law 1066 = .ok (.aload_n 2, 1) := by decide +kernel
theorem d_L_law_1067 : decode b_L_law 1067 = .ok (.invokevirtual 77, 3) := by decide +kernel
theorem d_L_law_1070 : decode b_L_law 1070 = .ok (.iload 6, 2) := by decide +kernel
theorem d_L_law_1072 : decode b_L_law 1072 = .ok (.if_icmp .eq 5, 3) := by decide +kernel
theorem d_L_law_1075 : decode b_L_law 1075 = .ok (.iconst 0, 1) := by decide +kernel
theorem d_L_law_1076 : decode b_L_law 1076 = .ok (.ireturn, 1) := by decide +kernel
theorem d_L_law_1077 : decode b_L_law 1077 = .ok (.iload 6, 2) := by decide +kernel
theorem d_L_law_1079 : decode b_L_law 1079 = .ok (.ifCond .ne 15, 3) := by decide +kernel
theorem d_L_law_1082 : decode b_L_law 1082 = .ok (.aload_n 3, 1) := by decide +kernel
theorem d_L_law_1083 : decode b_L_law 1083 = .ok (.iconst 0, 1) := by decide +kernel
theorem d_L_law_1084 : decode b_L_law 1084 = .ok (.laload, 1) := by decide +kernel
theorem d_L_law_1085 : decode b_L_law 1085 = .ok (.iload 7, 2) := by decide +kernel
theorem d_L_law_1087 : decode b_L_law 1087 = .ok (.i2l, 1) := by decide +kernel
theorem d_L_law_1088 : decode b_L_law 1088 = .ok (.lcmp, 1) := by decide +kernel
theorem d_L_law_1089 : decode b_L_law 1089 = .ok (.ifCond .eq 5, 3) := by decide +kernel
theorem d_L_law_1092 : decode b_L_law 1092 = .ok (.iconst 0, 1) := by decide +kernel
theorem d_L_law_1093 : decode b_L_law 1093 = .ok (.ireturn, 1) := by decide +kernel
theorem d_L_law_1094 : decode b_L_law 1094 = .ok (.goto 3, 3) := by decide +kernel
theorem d_L_law_1097 : decode b_L_law 1097 = .ok (.iinc 5 6, 3) := by decide +kernel
theorem d_L_law_1100 : decode b_L_law 1100 = .ok (.goto (-1072), 3) := by decide +kernel
theorem d_L_law_1103 : decode b_L_law 1103 = .ok (.iconst 1, 1) := by decide +kernel
theorem d_L_law_1104 : decode b_L_law 1104 = .ok (.ireturn, 1) := by decide +kernel
