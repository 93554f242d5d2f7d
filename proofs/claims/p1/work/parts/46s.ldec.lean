theorem dc_L_law_827 : decode code 827 = .ok (.invokevirtual 76, 3) := by decide +kernel
theorem dc_L_law_830 : decode code 830 = .ok (.iload 5, 2) := by decide +kernel
theorem dc_L_law_832 : decode code 832 = .ok (.if_icmp .eq 5, 3) := by decide +kernel
theorem dc_L_law_837 : decode code 837 = .ok (.iload 5, 2) := by decide +kernel
theorem dc_L_law_839 : decode code 839 = .ok (.ifCond .ne 15, 3) := by decide +kernel
theorem dc_L_law_854 : decode code 854 = .ok (.goto 232, 3) := by decide +kernel
theorem dc_L_law_842 : decode code 842 = .ok (.aload_n 3, 1) := by decide +kernel
theorem dc_L_law_843 : decode code 843 = .ok (.iconst 0, 1) := by decide +kernel
theorem dc_L_law_844 : decode code 844 = .ok (.laload, 1) := by decide +kernel
theorem dc_L_law_845 : decode code 845 = .ok (.iload 6, 2) := by decide +kernel
theorem dc_L_law_847 : decode code 847 = .ok (.i2l, 1) := by decide +kernel
theorem dc_L_law_848 : decode code 848 = .ok (.lcmp, 1) := by decide +kernel
theorem dc_L_law_849 : decode code 849 = .ok (.ifCond .eq 5, 3) := by decide +kernel
theorem dc_L_law_852 : decode code 852 = .ok (.iconst 0, 1) := by decide +kernel
theorem dc_L_law_835 : decode code 835 = .ok (.iconst 0, 1) := by decide +kernel
theorem dc_L_law_857 : decode code 857 = .ok (.aload_n 1, 1) := by decide +kernel
theorem dc_L_law_858 : decode code 858 = .ok (.aload_n 0, 1) := by decide +kernel
theorem dc_L_law_859 : decode code 859 = .ok (.iload 4, 2) := by decide +kernel
theorem dc_L_law_861 : decode code 861 = .ok (.iconst 1, 1) := by decide +kernel
theorem dc_L_law_862 : decode code 862 = .ok (.iadd, 1) := by decide +kernel
theorem dc_L_law_863 : decode code 863 = .ok (.iaload, 1) := by decide +kernel
theorem dc_L_law_864 : decode code 864 = .ok (.aload_n 0, 1) := by decide +kernel
theorem dc_L_law_865 : decode code 865 = .ok (.iload 4, 2) := by decide +kernel
theorem dc_L_law_867 : decode code 867 = .ok (.iconst 2, 1) := by decide +kernel
theorem dc_L_law_868 : decode code 868 = .ok (.iadd, 1) := by decide +kernel
theorem dc_L_law_869 : decode code 869 = .ok (.iaload, 1) := by decide +kernel
theorem dc_L_law_870 : decode code 870 = .ok (.aload_n 3, 1) := by decide +kernel
theorem dc_L_law_871 : decode code 871 = .ok (.invokestatic 114, 3) := by decide +kernel
theorem dc_L_law_874 : decode code 874 = .ok (.istore 5, 2) := by decide +kernel
theorem dc_L_law_876 : decode code 876 = .ok (.aload_n 2, 1) := by decide +kernel
theorem dc_L_law_877 : decode code 877 = .ok (.aload_n 0, 1) := by decide +kernel
theorem dc_L_law_878 : decode code 878 = .ok (.iload 4, 2) := by decide +kernel
theorem dc_L_law_880 : decode code 880 = .ok (.iconst 1, 1) := by decide +kernel
theorem dc_L_law_881 : decode code 881 = .ok (.iadd, 1) := by decide +kernel
theorem dc_L_law_882 : decode code 882 = .ok (.iaload, 1) := by decide +kernel
theorem dc_L_law_883 : decode code 883 = .ok (.aload_n 0, 1) := by decide +kernel
theorem dc_L_law_884 : decode code 884 = .ok (.iload 4, 2) := by decide +kernel
theorem dc_L_law_886 : decode code 886 = .ok (.iconst 2, 1) := by decide +kernel
theorem dc_L_law_887 : decode code 887 = .ok (.iadd, 1) := by decide +kernel
theorem dc_L_law_888 : decode code 888 = .ok (.iaload, 1) := by decide +kernel
theorem dc_L_law_889 : decode code 889 = .ok (.invokevirtual 116, 3) := by decide +kernel
theorem dc_L_law_892 : decode code 892 = .ok (.istore 6, 2) := by decide +kernel
theorem dc_L_law_894 : decode code 894 = .ok (.aload_n 2, 1) := by decide +kernel
theorem dc_L_law_895 : decode code 895 = .ok (.invokevirtual 76, 3) := by decide +kernel
theorem dc_L_law_898 : decode code 898 = .ok (.iload 5, 2) := by decide +kernel
theorem dc_L_law_900 : decode code 900 = .ok (.if_icmp .eq 5, 3) := by decide +kernel
theorem dc_L_law_905 : decode code 905 = .ok (.iload 5, 2) := by decide +kernel
theorem dc_L_law_907 : decode code 907 = .ok (.ifCond .ne 15, 3) := by decide +kernel
theorem dc_L_law_922 : decode code 922 = .ok (.goto 164, 3) := by decide +kernel
theorem dc_L_law_910 : decode code 910 = .ok (.aload_n 3, 1) := by decide +kernel
theorem dc_L_law_911 : decode code 911 = .ok (.iconst 0, 1) := by decide +kernel
theorem dc_L_law_912 : decode code 912 = .ok (.laload, 1) := by decide +kernel
theorem dc_L_law_913 : decode code 913 = .ok (.iload 6, 2) := by decide +kernel
theorem dc_L_law_915 : decode code 915 = .ok (.i2l, 1) := by decide +kernel
theorem dc_L_law_916 : decode code 916 = .ok (.lcmp, 1) := by decide +kernel
theorem dc_L_law_917 : decode code 917 = .ok (.ifCond .eq 5, 3) := by decide +kernel
theorem dc_L_law_920 : decode code 920 = .ok (.iconst 0, 1) := by decide +kernel
theorem dc_L_law_903 : decode code 903 = .ok (.iconst 0, 1) := by decide +kernel
theorem dc_L_law_925 : decode code 925 = .ok (.aload_n 1, 1) := by decide +kernel
theorem dc_L_law_926 : decode code 926 = .ok (.invokevirtual 117, 3) := by decide +kernel
theorem dc_L_law_929 : decode code 929 = .ok (.aload_n 2, 1) := by decide +kernel
theorem dc_L_law_930 : decode code 930 = .ok (.invokevirtual 120, 3) := by decide +kernel
theorem dc_L_law_933 : decode code 933 = .ok (.if_icmp .eq 153, 3) := by decide +kernel
theorem dc_L_law_936 : decode code 936 = .ok (.iconst 0, 1) := by decide +kernel
theorem dc_L_law_938 : decode code 938 = .ok (.aload_n 1, 1) := by decide +kernel
theorem dc_L_law_939 : decode code 939 = .ok (.aload_n 0, 1) := by decide +kernel
theorem dc_L_law_940 : decode code 940 = .ok (.iload 4, 2) := by decide +kernel
theorem dc_L_law_942 : decode code 942 = .ok (.iconst 1, 1) := by decide +kernel
theorem dc_L_law_943 : decode code 943 = .ok (.iadd, 1) := by decide +kernel
theorem dc_L_law_944 : decode code 944 = .ok (.iaload, 1) := by decide +kernel
theorem dc_L_law_945 : decode code 945 = .ok (.aload_n 3, 1) := by decide +kernel
theorem dc_L_law_946 : decode code 946 = .ok (.invokestatic 121, 3) := by decide +kernel
theorem dc_L_law_949 : decode code 949 = .ok (.istore 5, 2) := by decide +kernel
theorem dc_L_law_951 : decode code 951 = .ok (.aload_n 2, 1) := by decide +kernel
theorem dc_L_law_952 : decode code 952 = .ok (.aload_n 0, 1) := by decide +kernel
theorem dc_L_law_953 : decode code 953 = .ok (.iload 4, 2) := by decide +kernel
theorem dc_L_law_955 : decode code 955 = .ok (.iconst 1, 1) := by decide +kernel
theorem dc_L_law_956 : decode code 956 = .ok (.iadd, 1) := by decide +kernel
theorem dc_L_law_957 : decode code 957 = .ok (.iaload, 1) := by decide +kernel
theorem dc_L_law_958 : decode code 958 = .ok (.invokevirtual 123, 3) := by decide +kernel
theorem dc_L_law_961 : decode code 961 = .ok (.istore 6, 2) := by decide +kernel
theorem dc_L_law_963 : decode code 963 = .ok (.aload_n 2, 1) := by decide +kernel
theorem dc_L_law_964 : decode code 964 = .ok (.invokevirtual 76, 3) := by decide +kernel
theorem dc_L_law_967 : decode code 967 = .ok (.iload 5, 2) := by decide +kernel
theorem dc_L_law_969 : decode code 969 = .ok (.if_icmp .eq 5, 3) := by decide +kernel
theorem dc_L_law_974 : decode code 974 = .ok (.iload 5, 2) := by decide +kernel
theorem dc_L_law_976 : decode code 976 = .ok (.ifCond .ne 15, 3) := by decide +kernel
theorem dc_L_law_991 : decode code 991 = .ok (.goto 95, 3) := by decide +kernel
theorem dc_L_law_979 : decode code 979 = .ok (.aload_n 3, 1) := by decide +kernel
theorem dc_L_law_980 : decode code 980 = .ok (.iconst 0, 1) := by decide +kernel
theorem dc_L_law_981 : decode code 981 = .ok (.laload, 1) := by decide +kernel
theorem dc_L_law_982 : decode code 982 = .ok (.iload 6, 2) := by decide +kernel
theorem dc_L_law_984 : decode code 984 = .ok (.i2l, 1) := by decide +kernel
theorem dc_L_law_985 : decode code 985 = .ok (.lcmp, 1) := by decide +kernel
theorem dc_L_law_986 : decode code 986 = .ok (.ifCond .eq 5, 3) := by decide +kernel
theorem dc_L_law_989 : decode code 989 = .ok (.iconst 0, 1) := by decide +kernel
theorem dc_L_law_972 : decode code 972 = .ok (.iconst 0, 1) := by decide +kernel
theorem dc_L_law_994 : decode code 994 = .ok (.aload_n 1, 1) := by decide +kernel
theorem dc_L_law_995 : decode code 995 = .ok (.aload_n 0, 1) := by decide +kernel
theorem dc_L_law_996 : decode code 996 = .ok (.iload 4, 2) := by decide +kernel
theorem dc_L_law_998 : decode code 998 = .ok (.iconst 1, 1) := by decide +kernel
theorem dc_L_law_999 : decode code 999 = .ok (.iadd, 1) := by decide +kernel
theorem dc_L_law_1000 : decode code 1000 = .ok (.iaload, 1) := by decide +kernel
theorem dc_L_law_1001 : decode code 1001 = .ok (.aload_n 3, 1) := by decide +kernel
theorem dc_L_law_1002 : decode code 1002 = .ok (.invokestatic 124, 3) := by decide +kernel
theorem dc_L_law_1005 : decode code 1005 = .ok (.istore 5, 2) := by decide +kernel
theorem dc_L_law_1007 : decode code 1007 = .ok (.aload_n 2, 1) := by decide +kernel
theorem dc_L_law_1008 : decode code 1008 = .ok (.aload_n 0, 1) := by decide +kernel
theorem dc_L_law_1009 : decode code 1009 = .ok (.iload 4, 2) := by decide +kernel
theorem dc_L_law_1011 : decode code 1011 = .ok (.iconst 1, 1) := by decide +kernel
theorem dc_L_law_1012 : decode code 1012 = .ok (.iadd, 1) := by decide +kernel
theorem dc_L_law_1013 : decode code 1013 = .ok (.iaload, 1) := by decide +kernel
theorem dc_L_law_1014 : decode code 1014 = .ok (.invokevirtual 126, 3) := by decide +kernel
theorem dc_L_law_1017 : decode code 1017 = .ok (.istore 6, 2) := by decide +kernel
theorem dc_L_law_1019 : decode code 1019 = .ok (.aload_n 2, 1) := by decide +kernel
theorem dc_L_law_1020 : decode code 1020 = .ok (.invokevirtual 76, 3) := by decide +kernel
theorem dc_L_law_1023 : decode code 1023 = .ok (.iload 5, 2) := by decide +kernel
theorem dc_L_law_1025 : decode code 1025 = .ok (.if_icmp .eq 5, 3) := by decide +kernel
theorem dc_L_law_1030 : decode code 1030 = .ok (.iload 5, 2) := by decide +kernel
theorem dc_L_law_1032 : decode code 1032 = .ok (.ifCond .ne 15, 3) := by decide +kernel
theorem dc_L_law_1047 : decode code 1047 = .ok (.goto 39, 3) := by decide +kernel
theorem dc_L_law_1035 : decode code 1035 = .ok (.aload_n 3, 1) := by decide +kernel
theorem dc_L_law_1036 : decode code 1036 = .ok (.iconst 0, 1) := by decide +kernel
theorem dc_L_law_1037 : decode code 1037 = .ok (.laload, 1) := by decide +kernel
theorem dc_L_law_1038 : decode code 1038 = .ok (.iload 6, 2) := by decide +kernel
theorem dc_L_law_1040 : decode code 1040 = .ok (.i2l, 1) := by decide +kernel
theorem dc_L_law_1041 : decode code 1041 = .ok (.lcmp, 1) := by decide +kernel
theorem dc_L_law_1042 : decode code 1042 = .ok (.ifCond .eq 5, 3) := by decide +kernel
theorem dc_L_law_1045 : decode code 1045 = .ok (.iconst 0, 1) := by decide +kernel
theorem dc_L_law_1028 : decode code 1028 = .ok (.iconst 0, 1) := by decide +kernel
theorem dc_L_law_1050 : decode code 1050 = .ok (.aload_n 1, 1) := by decide +kernel
theorem dc_L_law_1051 : decode code 1051 = .ok (.aload_n 0, 1) := by decide +kernel
theorem dc_L_law_1052 : decode code 1052 = .ok (.iload 4, 2) := by decide +kernel
theorem dc_L_law_1054 : decode code 1054 = .ok (.iconst 1, 1) := by decide +kernel
theorem dc_L_law_1055 : decode code 1055 = .ok (.iadd, 1) := by decide +kernel
theorem dc_L_law_1056 : decode code 1056 = .ok (.iaload, 1) := by decide +kernel
theorem dc_L_law_1057 : decode code 1057 = .ok (.invokevirtual 127, 3) := by decide +kernel
theorem dc_L_law_1060 : decode code 1060 = .ok (.aload_n 2, 1) := by decide +kernel
theorem dc_L_law_1061 : decode code 1061 = .ok (.aload_n 0, 1) := by decide +kernel
theorem dc_L_law_1062 : decode code 1062 = .ok (.iload 4, 2) := by decide +kernel
theorem dc_L_law_1064 : decode code 1064 = .ok (.iconst 1, 1) := by decide +kernel
theorem dc_L_law_1065 : decode code 1065 = .ok (.iadd, 1) := by decide +kernel
theorem dc_L_law_1066 : decode code 1066 = .ok (.iaload, 1) := by decide +kernel
theorem dc_L_law_1067 : decode code 1067 = .ok (.invokevirtual 130, 3) := by decide +kernel
theorem dc_L_law_1070 : decode code 1070 = .ok (.if_icmp .eq 16, 3) := by decide +kernel
theorem dc_L_law_1073 : decode code 1073 = .ok (.iconst 0, 1) := by decide +kernel
theorem dc_L_law_1075 : decode code 1075 = .ok (.aload_n 1, 1) := by decide +kernel
theorem dc_L_law_1076 : decode code 1076 = .ok (.invokevirtual 131, 3) := by decide +kernel
theorem dc_L_law_1079 : decode code 1079 = .ok (.aload_n 2, 1) := by decide +kernel
theorem dc_L_law_1080 : decode code 1080 = .ok (.invokevirtual 134, 3) := by decide +kernel
theorem dc_L_law_1083 : decode code 1083 = .ok (.goto 3, 3) := by decide +kernel
theorem dc_L_law_0 : decode code 0 = .ok (.new 8, 3) := by decide +kernel
theorem dc_L_law_3 : decode code 3 = .ok (.dup, 1) := by decide +kernel
theorem dc_L_law_4 : decode code 4 = .ok (.aload_n 0, 1) := by decide +kernel
theorem dc_L_law_5 : decode code 5 = .ok (.iconst 0, 1) := by decide +kernel
theorem dc_L_law_6 : decode code 6 = .ok (.invokestatic 60, 3) := by decide +kernel
theorem dc_L_law_9 : decode code 9 = .ok (.aload_n 0, 1) := by decide +kernel
theorem dc_L_law_10 : decode code 10 = .ok (.iconst 1, 1) := by decide +kernel
theorem dc_L_law_11 : decode code 11 = .ok (.invokestatic 60, 3) := by decide +kernel
theorem dc_L_law_14 : decode code 14 = .ok (.invokespecial 66, 3) := by decide +kernel
theorem dc_L_law_17 : decode code 17 = .ok (.astore_n 1, 1) := by decide +kernel
theorem dc_L_law_18 : decode code 18 = .ok (.new 69, 3) := by decide +kernel
theorem dc_L_law_21 : decode code 21 = .ok (.dup, 1) := by decide +kernel
theorem dc_L_law_22 : decode code 22 = .ok (.aload_n 0, 1) := by decide +kernel
theorem dc_L_law_23 : decode code 23 = .ok (.iconst 0, 1) := by decide +kernel
theorem dc_L_law_24 : decode code 24 = .ok (.invokestatic 60, 3) := by decide +kernel
theorem dc_L_law_27 : decode code 27 = .ok (.aload_n 0, 1) := by decide +kernel
theorem dc_L_law_28 : decode code 28 = .ok (.iconst 1, 1) := by decide +kernel
theorem dc_L_law_29 : decode code 29 = .ok (.invokestatic 60, 3) := by decide +kernel
theorem dc_L_law_32 : decode code 32 = .ok (.invokespecial 71, 3) := by decide +kernel
theorem dc_L_law_35 : decode code 35 = .ok (.astore_n 2, 1) := by decide +kernel
theorem dc_L_law_36 : decode code 36 = .ok (.iconst 1, 1) := by decide +kernel
theorem dc_L_law_37 : decode code 37 = .ok (.newarray .long, 2) := by decide +kernel
theorem dc_L_law_39 : decode code 39 = .ok (.astore_n 3, 1) := by decide +kernel
theorem dc_L_law_40 : decode code 40 = .ok (.iconst 2, 1) := by decide +kernel
theorem dc_L_law_41 : decode code 41 = .ok (.istore 4, 2) := by decide +kernel
theorem dc_L_law_43 : decode code 43 = .ok (.iload 4, 2) := by decide +kernel
theorem dc_L_law_45 : decode code 45 = .ok (.aload_n 0, 1) := by decide +kernel
theorem dc_L_law_46 : decode code 46 = .ok (.arraylength, 1) := by decide +kernel
theorem dc_L_law_47 : decode code 47 = .ok (.iconst 5, 1) := by decide +kernel
theorem dc_L_law_48 : decode code 48 = .ok (.isub, 1) := by decide +kernel
theorem dc_L_law_49 : decode code 49 = .ok (.if_icmp .gt 1043, 3) := by decide +kernel
theorem dc_L_law_52 : decode code 52 = .ok (.aload_n 0, 1) := by decide +kernel
theorem dc_L_law_53 : decode code 53 = .ok (.iload 4, 2) := by decide +kernel
theorem dc_L_law_55 : decode code 55 = .ok (.iaload, 1) := by decide +kernel
theorem dc_L_law_56 : decode code 56 = .ok (.bipush 31, 2) := by decide +kernel
theorem dc_L_law_58 : decode code 58 = .ok (.iand, 1) := by decide +kernel
theorem dc_L_law_59 : decode code 59 = .ok (.tableswitch 1027 0 16 #[81, 173, 241, 321, 413, 469, 525, 538, 594, 662, 730, 798, 866, 879, 935, 991, 1016], 81) := by decide +kernel
theorem dc_L_law_211 : decode code 211 = .ok (.ireturn, 1) := by decide +kernel
theorem dc_L_law_228 : decode code 228 = .ok (.ireturn, 1) := by decide +kernel
theorem dc_L_law_279 : decode code 279 = .ok (.ireturn, 1) := by decide +kernel
theorem dc_L_law_296 : decode code 296 = .ok (.ireturn, 1) := by decide +kernel
theorem dc_L_law_359 : decode code 359 = .ok (.ireturn, 1) := by decide +kernel
theorem dc_L_law_376 : decode code 376 = .ok (.ireturn, 1) := by decide +kernel
theorem dc_L_law_451 : decode code 451 = .ok (.ireturn, 1) := by decide +kernel
theorem dc_L_law_468 : decode code 468 = .ok (.ireturn, 1) := by decide +kernel
theorem dc_L_law_507 : decode code 507 = .ok (.ireturn, 1) := by decide +kernel
theorem dc_L_law_524 : decode code 524 = .ok (.ireturn, 1) := by decide +kernel
theorem dc_L_law_563 : decode code 563 = .ok (.ireturn, 1) := by decide +kernel
theorem dc_L_law_580 : decode code 580 = .ok (.ireturn, 1) := by decide +kernel
theorem dc_L_law_596 : decode code 596 = .ok (.ireturn, 1) := by decide +kernel
theorem dc_L_law_632 : decode code 632 = .ok (.ireturn, 1) := by decide +kernel
theorem dc_L_law_649 : decode code 649 = .ok (.ireturn, 1) := by decide +kernel
theorem dc_L_law_700 : decode code 700 = .ok (.ireturn, 1) := by decide +kernel
theorem dc_L_law_717 : decode code 717 = .ok (.ireturn, 1) := by decide +kernel
theorem dc_L_law_768 : decode code 768 = .ok (.ireturn, 1) := by decide +kernel
theorem dc_L_law_785 : decode code 785 = .ok (.ireturn, 1) := by decide +kernel
theorem dc_L_law_836 : decode code 836 = .ok (.ireturn, 1) := by decide +kernel
theorem dc_L_law_853 : decode code 853 = .ok (.ireturn, 1) := by decide +kernel
theorem dc_L_law_904 : decode code 904 = .ok (.ireturn, 1) := by decide +kernel
theorem dc_L_law_921 : decode code 921 = .ok (.ireturn, 1) := by decide +kernel
theorem dc_L_law_937 : decode code 937 = .ok (.ireturn, 1) := by decide +kernel
theorem dc_L_law_973 : decode code 973 = .ok (.ireturn, 1) := by decide +kernel
theorem dc_L_law_990 : decode code 990 = .ok (.ireturn, 1) := by decide +kernel
theorem dc_L_law_1029 : decode code 1029 = .ok (.ireturn, 1) := by decide +kernel
theorem dc_L_law_1046 : decode code 1046 = .ok (.ireturn, 1) := by decide +kernel
theorem dc_L_law_1074 : decode code 1074 = .ok (.ireturn, 1) := by decide +kernel
theorem dc_L_law_1086 : decode code 1086 = .ok (.iinc 4 5, 3) := by decide +kernel
theorem dc_L_law_1089 : decode code 1089 = .ok (.goto (-1046), 3) := by decide +kernel
theorem dc_L_law_1092 : decode code 1092 = .ok (.iconst 1, 1) := by decide +kernel
