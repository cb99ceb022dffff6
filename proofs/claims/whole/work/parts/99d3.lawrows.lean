/-! the law's instructions (printed by wip/gen/g99d.py) -/
theorem dl_878 : decode code 878 = .ok (.iadd, 1) := by decide +kernel
theorem dl_879 : decode code 879 = .ok (.iaload, 1) := by decide +kernel
theorem dl_880 : decode code 880 = .ok (.invokevirtual 105, 3) := by decide +kernel
theorem dl_883 : decode code 883 = .ok (.if_icmp .eq 668, 3) := by decide +kernel
theorem dl_886 : decode code 886 = .ok (.iconst 0, 1) := by decide +kernel
theorem dl_887 : decode code 887 = .ok (.ireturn, 1) := by decide +kernel
theorem dl_888 : decode code 888 = .ok (.aload_n 1, 1) := by decide +kernel
theorem dl_889 : decode code 889 = .ok (.aload_n 0, 1) := by decide +kernel
theorem dl_890 : decode code 890 = .ok (.iload_n 3, 1) := by decide +kernel
theorem dl_891 : decode code 891 = .ok (.iconst 1, 1) := by decide +kernel
theorem dl_892 : decode code 892 = .ok (.iadd, 1) := by decide +kernel
theorem dl_893 : decode code 893 = .ok (.iaload, 1) := by decide +kernel
theorem dl_894 : decode code 894 = .ok (.aload_n 0, 1) := by decide +kernel
theorem dl_895 : decode code 895 = .ok (.iload_n 3, 1) := by decide +kernel
theorem dl_896 : decode code 896 = .ok (.iconst 2, 1) := by decide +kernel
theorem dl_897 : decode code 897 = .ok (.iadd, 1) := by decide +kernel
theorem dl_898 : decode code 898 = .ok (.iaload, 1) := by decide +kernel
theorem dl_899 : decode code 899 = .ok (.invokevirtual 106, 3) := by decide +kernel
theorem dl_902 : decode code 902 = .ok (.aload_n 2, 1) := by decide +kernel
theorem dl_903 : decode code 903 = .ok (.aload_n 0, 1) := by decide +kernel
theorem dl_904 : decode code 904 = .ok (.iload_n 3, 1) := by decide +kernel
theorem dl_905 : decode code 905 = .ok (.iconst 1, 1) := by decide +kernel
theorem dl_906 : decode code 906 = .ok (.iadd, 1) := by decide +kernel
theorem dl_907 : decode code 907 = .ok (.iaload, 1) := by decide +kernel
theorem dl_908 : decode code 908 = .ok (.aload_n 0, 1) := by decide +kernel
theorem dl_909 : decode code 909 = .ok (.iload_n 3, 1) := by decide +kernel
theorem dl_910 : decode code 910 = .ok (.iconst 2, 1) := by decide +kernel
theorem dl_911 : decode code 911 = .ok (.iadd, 1) := by decide +kernel
theorem dl_912 : decode code 912 = .ok (.iaload, 1) := by decide +kernel
theorem dl_913 : decode code 913 = .ok (.invokevirtual 109, 3) := by decide +kernel
theorem dl_916 : decode code 916 = .ok (.if_icmp .eq 635, 3) := by decide +kernel
theorem dl_919 : decode code 919 = .ok (.iconst 0, 1) := by decide +kernel
theorem dl_920 : decode code 920 = .ok (.ireturn, 1) := by decide +kernel
theorem dl_921 : decode code 921 = .ok (.aload_n 1, 1) := by decide +kernel
theorem dl_922 : decode code 922 = .ok (.aload_n 0, 1) := by decide +kernel
theorem dl_923 : decode code 923 = .ok (.iload_n 3, 1) := by decide +kernel
theorem dl_924 : decode code 924 = .ok (.iconst 1, 1) := by decide +kernel
theorem dl_925 : decode code 925 = .ok (.iadd, 1) := by decide +kernel
theorem dl_926 : decode code 926 = .ok (.iaload, 1) := by decide +kernel
theorem dl_927 : decode code 927 = .ok (.aload_n 0, 1) := by decide +kernel
theorem dl_928 : decode code 928 = .ok (.iload_n 3, 1) := by decide +kernel
theorem dl_929 : decode code 929 = .ok (.iconst 2, 1) := by decide +kernel
theorem dl_930 : decode code 930 = .ok (.iadd, 1) := by decide +kernel
theorem dl_931 : decode code 931 = .ok (.iaload, 1) := by decide +kernel
theorem dl_932 : decode code 932 = .ok (.invokevirtual 110, 3) := by decide +kernel
theorem dl_935 : decode code 935 = .ok (.aload_n 2, 1) := by decide +kernel
theorem dl_936 : decode code 936 = .ok (.aload_n 0, 1) := by decide +kernel
theorem dl_937 : decode code 937 = .ok (.iload_n 3, 1) := by decide +kernel
theorem dl_938 : decode code 938 = .ok (.iconst 1, 1) := by decide +kernel
theorem dl_939 : decode code 939 = .ok (.iadd, 1) := by decide +kernel
theorem dl_940 : decode code 940 = .ok (.iaload, 1) := by decide +kernel
theorem dl_941 : decode code 941 = .ok (.aload_n 0, 1) := by decide +kernel
theorem dl_942 : decode code 942 = .ok (.iload_n 3, 1) := by decide +kernel
theorem dl_943 : decode code 943 = .ok (.iconst 2, 1) := by decide +kernel
theorem dl_944 : decode code 944 = .ok (.iadd, 1) := by decide +kernel
theorem dl_945 : decode code 945 = .ok (.iaload, 1) := by decide +kernel
theorem dl_946 : decode code 946 = .ok (.invokevirtual 114, 3) := by decide +kernel
theorem dl_949 : decode code 949 = .ok (.lcmp, 1) := by decide +kernel
theorem dl_950 : decode code 950 = .ok (.ifCond .eq 601, 3) := by decide +kernel
theorem dl_953 : decode code 953 = .ok (.iconst 0, 1) := by decide +kernel
theorem dl_954 : decode code 954 = .ok (.ireturn, 1) := by decide +kernel
theorem dl_955 : decode code 955 = .ok (.aload_n 1, 1) := by decide +kernel
theorem dl_956 : decode code 956 = .ok (.aload_n 0, 1) := by decide +kernel
theorem dl_957 : decode code 957 = .ok (.iload_n 3, 1) := by decide +kernel
theorem dl_958 : decode code 958 = .ok (.iconst 1, 1) := by decide +kernel
theorem dl_959 : decode code 959 = .ok (.iadd, 1) := by decide +kernel
theorem dl_960 : decode code 960 = .ok (.iaload, 1) := by decide +kernel
theorem dl_961 : decode code 961 = .ok (.invokevirtual 115, 3) := by decide +kernel
theorem dl_964 : decode code 964 = .ok (.aload_n 2, 1) := by decide +kernel
theorem dl_965 : decode code 965 = .ok (.aload_n 0, 1) := by decide +kernel
theorem dl_966 : decode code 966 = .ok (.iload_n 3, 1) := by decide +kernel
theorem dl_967 : decode code 967 = .ok (.iconst 1, 1) := by decide +kernel
theorem dl_968 : decode code 968 = .ok (.iadd, 1) := by decide +kernel
theorem dl_969 : decode code 969 = .ok (.iaload, 1) := by decide +kernel
theorem dl_970 : decode code 970 = .ok (.invokevirtual 118, 3) := by decide +kernel
theorem dl_973 : decode code 973 = .ok (.if_icmp .eq 578, 3) := by decide +kernel
theorem dl_976 : decode code 976 = .ok (.iconst 0, 1) := by decide +kernel
theorem dl_977 : decode code 977 = .ok (.ireturn, 1) := by decide +kernel
theorem dl_978 : decode code 978 = .ok (.aload_n 1, 1) := by decide +kernel
theorem dl_979 : decode code 979 = .ok (.aload_n 0, 1) := by decide +kernel
theorem dl_980 : decode code 980 = .ok (.iload_n 3, 1) := by decide +kernel
theorem dl_981 : decode code 981 = .ok (.iconst 1, 1) := by decide +kernel
theorem dl_982 : decode code 982 = .ok (.iadd, 1) := by decide +kernel
theorem dl_983 : decode code 983 = .ok (.iaload, 1) := by decide +kernel
theorem dl_984 : decode code 984 = .ok (.invokevirtual 119, 3) := by decide +kernel
theorem dl_987 : decode code 987 = .ok (.aload_n 2, 1) := by decide +kernel
theorem dl_988 : decode code 988 = .ok (.aload_n 0, 1) := by decide +kernel
theorem dl_989 : decode code 989 = .ok (.iload_n 3, 1) := by decide +kernel
theorem dl_990 : decode code 990 = .ok (.iconst 1, 1) := by decide +kernel
theorem dl_991 : decode code 991 = .ok (.iadd, 1) := by decide +kernel
theorem dl_992 : decode code 992 = .ok (.iaload, 1) := by decide +kernel
theorem dl_993 : decode code 993 = .ok (.invokevirtual 122, 3) := by decide +kernel
theorem dl_996 : decode code 996 = .ok (.if_icmp .eq 555, 3) := by decide +kernel
theorem dl_999 : decode code 999 = .ok (.iconst 0, 1) := by decide +kernel
theorem dl_1000 : decode code 1000 = .ok (.ireturn, 1) := by decide +kernel
theorem dl_1001 : decode code 1001 = .ok (.aload_n 1, 1) := by decide +kernel
theorem dl_1002 : decode code 1002 = .ok (.aload_n 0, 1) := by decide +kernel
theorem dl_1003 : decode code 1003 = .ok (.iload_n 3, 1) := by decide +kernel
theorem dl_1004 : decode code 1004 = .ok (.iconst 1, 1) := by decide +kernel
theorem dl_1005 : decode code 1005 = .ok (.iadd, 1) := by decide +kernel
theorem dl_1006 : decode code 1006 = .ok (.iaload, 1) := by decide +kernel
theorem dl_1007 : decode code 1007 = .ok (.invokevirtual 123, 3) := by decide +kernel
theorem dl_1010 : decode code 1010 = .ok (.aload_n 2, 1) := by decide +kernel
theorem dl_1011 : decode code 1011 = .ok (.aload_n 0, 1) := by decide +kernel
theorem dl_1012 : decode code 1012 = .ok (.iload_n 3, 1) := by decide +kernel
theorem dl_1013 : decode code 1013 = .ok (.iconst 1, 1) := by decide +kernel
theorem dl_1014 : decode code 1014 = .ok (.iadd, 1) := by decide +kernel
theorem dl_1015 : decode code 1015 = .ok (.iaload, 1) := by decide +kernel
theorem dl_1016 : decode code 1016 = .ok (.invokevirtual 126, 3) := by decide +kernel
theorem dl_1019 : decode code 1019 = .ok (.if_icmp .eq 532, 3) := by decide +kernel
theorem dl_1022 : decode code 1022 = .ok (.iconst 0, 1) := by decide +kernel
theorem dl_1023 : decode code 1023 = .ok (.ireturn, 1) := by decide +kernel
theorem dl_1024 : decode code 1024 = .ok (.aload_n 1, 1) := by decide +kernel
theorem dl_1025 : decode code 1025 = .ok (.aload_n 0, 1) := by decide +kernel
theorem dl_1026 : decode code 1026 = .ok (.iload_n 3, 1) := by decide +kernel
theorem dl_1027 : decode code 1027 = .ok (.iconst 1, 1) := by decide +kernel
theorem dl_1028 : decode code 1028 = .ok (.iadd, 1) := by decide +kernel
theorem dl_1029 : decode code 1029 = .ok (.iaload, 1) := by decide +kernel
theorem dl_1030 : decode code 1030 = .ok (.aload_n 0, 1) := by decide +kernel
theorem dl_1031 : decode code 1031 = .ok (.iload_n 3, 1) := by decide +kernel
theorem dl_1032 : decode code 1032 = .ok (.iconst 2, 1) := by decide +kernel
theorem dl_1033 : decode code 1033 = .ok (.iadd, 1) := by decide +kernel
theorem dl_1034 : decode code 1034 = .ok (.iaload, 1) := by decide +kernel
theorem dl_1035 : decode code 1035 = .ok (.invokevirtual 127, 3) := by decide +kernel
theorem dl_1038 : decode code 1038 = .ok (.aload_n 2, 1) := by decide +kernel
theorem dl_1039 : decode code 1039 = .ok (.aload_n 0, 1) := by decide +kernel
theorem dl_1040 : decode code 1040 = .ok (.iload_n 3, 1) := by decide +kernel
theorem dl_1041 : decode code 1041 = .ok (.iconst 1, 1) := by decide +kernel
theorem dl_1042 : decode code 1042 = .ok (.iadd, 1) := by decide +kernel
theorem dl_1043 : decode code 1043 = .ok (.iaload, 1) := by decide +kernel
theorem dl_1044 : decode code 1044 = .ok (.aload_n 0, 1) := by decide +kernel
theorem dl_1045 : decode code 1045 = .ok (.iload_n 3, 1) := by decide +kernel
theorem dl_1046 : decode code 1046 = .ok (.iconst 2, 1) := by decide +kernel
theorem dl_1047 : decode code 1047 = .ok (.iadd, 1) := by decide +kernel
theorem dl_1048 : decode code 1048 = .ok (.iaload, 1) := by decide +kernel
theorem dl_1049 : decode code 1049 = .ok (.invokevirtual 130, 3) := by decide +kernel
theorem dl_1052 : decode code 1052 = .ok (.if_icmp .eq 499, 3) := by decide +kernel
theorem dl_1055 : decode code 1055 = .ok (.iconst 0, 1) := by decide +kernel
theorem dl_1056 : decode code 1056 = .ok (.ireturn, 1) := by decide +kernel
theorem dl_1057 : decode code 1057 = .ok (.aload_n 1, 1) := by decide +kernel
theorem dl_1058 : decode code 1058 = .ok (.aload_n 0, 1) := by decide +kernel
theorem dl_1059 : decode code 1059 = .ok (.iload_n 3, 1) := by decide +kernel
theorem dl_1060 : decode code 1060 = .ok (.iconst 1, 1) := by decide +kernel
theorem dl_1061 : decode code 1061 = .ok (.iadd, 1) := by decide +kernel
theorem dl_1062 : decode code 1062 = .ok (.iaload, 1) := by decide +kernel
theorem dl_1063 : decode code 1063 = .ok (.invokevirtual 131, 3) := by decide +kernel
theorem dl_1066 : decode code 1066 = .ok (.aload_n 2, 1) := by decide +kernel
theorem dl_1067 : decode code 1067 = .ok (.aload_n 0, 1) := by decide +kernel
theorem dl_1068 : decode code 1068 = .ok (.iload_n 3, 1) := by decide +kernel
theorem dl_1069 : decode code 1069 = .ok (.iconst 1, 1) := by decide +kernel
theorem dl_1070 : decode code 1070 = .ok (.iadd, 1) := by decide +kernel
theorem dl_1071 : decode code 1071 = .ok (.iaload, 1) := by decide +kernel
theorem dl_1072 : decode code 1072 = .ok (.invokevirtual 134, 3) := by decide +kernel
theorem dl_1075 : decode code 1075 = .ok (.if_icmp .eq 476, 3) := by decide +kernel
theorem dl_1078 : decode code 1078 = .ok (.iconst 0, 1) := by decide +kernel
theorem dl_1079 : decode code 1079 = .ok (.ireturn, 1) := by decide +kernel
theorem dl_1080 : decode code 1080 = .ok (.aload_n 1, 1) := by decide +kernel
theorem dl_1081 : decode code 1081 = .ok (.aload_n 0, 1) := by decide +kernel
theorem dl_1082 : decode code 1082 = .ok (.iload_n 3, 1) := by decide +kernel
theorem dl_1083 : decode code 1083 = .ok (.iconst 1, 1) := by decide +kernel
theorem dl_1084 : decode code 1084 = .ok (.iadd, 1) := by decide +kernel
theorem dl_1085 : decode code 1085 = .ok (.iaload, 1) := by decide +kernel
theorem dl_1086 : decode code 1086 = .ok (.aload_n 0, 1) := by decide +kernel
theorem dl_1087 : decode code 1087 = .ok (.iload_n 3, 1) := by decide +kernel
theorem dl_1088 : decode code 1088 = .ok (.iconst 2, 1) := by decide +kernel
theorem dl_1089 : decode code 1089 = .ok (.iadd, 1) := by decide +kernel
theorem dl_1090 : decode code 1090 = .ok (.iaload, 1) := by decide +kernel
theorem dl_1091 : decode code 1091 = .ok (.invokevirtual 135, 3) := by decide +kernel
theorem dl_1094 : decode code 1094 = .ok (.aload_n 2, 1) := by decide +kernel
theorem dl_1095 : decode code 1095 = .ok (.aload_n 0, 1) := by decide +kernel
theorem dl_1096 : decode code 1096 = .ok (.iload_n 3, 1) := by decide +kernel
theorem dl_1097 : decode code 1097 = .ok (.iconst 1, 1) := by decide +kernel
theorem dl_1098 : decode code 1098 = .ok (.iadd, 1) := by decide +kernel
theorem dl_1099 : decode code 1099 = .ok (.iaload, 1) := by decide +kernel
theorem dl_1100 : decode code 1100 = .ok (.aload_n 0, 1) := by decide +kernel
theorem dl_1101 : decode code 1101 = .ok (.iload_n 3, 1) := by decide +kernel
theorem dl_1102 : decode code 1102 = .ok (.iconst 2, 1) := by decide +kernel
theorem dl_1103 : decode code 1103 = .ok (.iadd, 1) := by decide +kernel
theorem dl_1104 : decode code 1104 = .ok (.iaload, 1) := by decide +kernel
theorem dl_1105 : decode code 1105 = .ok (.invokevirtual 138, 3) := by decide +kernel
