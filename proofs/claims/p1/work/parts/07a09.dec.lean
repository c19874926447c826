theorem d_law_875 : decode code 875 = .ok (.iadd, 1) := by decide +kernel
theorem d_law_876 : decode code 876 = .ok (.iaload, 1) := by decide +kernel
theorem d_law_877 : decode code 877 = .ok (.invokevirtual 197, 3) := by decide +kernel
theorem d_law_880 : decode code 880 = .ok (.istore 7, 2) := by decide +kernel
theorem d_law_882 : decode code 882 = .ok (.aload_n 2, 1) := by decide +kernel
theorem d_law_883 : decode code 883 = .ok (.invokevirtual 160, 3) := by decide +kernel
theorem d_law_886 : decode code 886 = .ok (.iload 6, 2) := by decide +kernel
theorem d_law_888 : decode code 888 = .ok (.if_icmp .eq 5, 3) := by decide +kernel
theorem d_law_893 : decode code 893 = .ok (.iload 6, 2) := by decide +kernel
theorem d_law_895 : decode code 895 = .ok (.ifCond .ne 15, 3) := by decide +kernel
theorem d_law_910 : decode code 910 = .ok (.goto 2162, 3) := by decide +kernel
theorem d_law_913 : decode code 913 = .ok (.aload_n 1, 1) := by decide +kernel
theorem d_law_914 : decode code 914 = .ok (.aload_n 0, 1) := by decide +kernel
theorem d_law_915 : decode code 915 = .ok (.iload 5, 2) := by decide +kernel
theorem d_law_917 : decode code 917 = .ok (.iconst 1, 1) := by decide +kernel
theorem d_law_918 : decode code 918 = .ok (.iadd, 1) := by decide +kernel
theorem d_law_919 : decode code 919 = .ok (.iaload, 1) := by decide +kernel
theorem d_law_920 : decode code 920 = .ok (.aload_n 0, 1) := by decide +kernel
theorem d_law_921 : decode code 921 = .ok (.iload 5, 2) := by decide +kernel
theorem d_law_923 : decode code 923 = .ok (.iconst 2, 1) := by decide +kernel
theorem d_law_924 : decode code 924 = .ok (.iadd, 1) := by decide +kernel
theorem d_law_925 : decode code 925 = .ok (.iaload, 1) := by decide +kernel
theorem d_law_926 : decode code 926 = .ok (.aload_n 3, 1) := by decide +kernel
theorem d_law_927 : decode code 927 = .ok (.invokestatic 198, 3) := by decide +kernel
theorem d_law_930 : decode code 930 = .ok (.istore 6, 2) := by decide +kernel
theorem d_law_932 : decode code 932 = .ok (.aload_n 2, 1) := by decide +kernel
theorem d_law_933 : decode code 933 = .ok (.aload_n 0, 1) := by decide +kernel
theorem d_law_934 : decode code 934 = .ok (.iload 5, 2) := by decide +kernel
theorem d_law_936 : decode code 936 = .ok (.iconst 1, 1) := by decide +kernel
theorem d_law_937 : decode code 937 = .ok (.iadd, 1) := by decide +kernel
theorem d_law_938 : decode code 938 = .ok (.iaload, 1) := by decide +kernel
theorem d_law_939 : decode code 939 = .ok (.aload_n 0, 1) := by decide +kernel
theorem d_law_940 : decode code 940 = .ok (.iload 5, 2) := by decide +kernel
theorem d_law_942 : decode code 942 = .ok (.iconst 2, 1) := by decide +kernel
theorem d_law_943 : decode code 943 = .ok (.iadd, 1) := by decide +kernel
theorem d_law_944 : decode code 944 = .ok (.iaload, 1) := by decide +kernel
theorem d_law_945 : decode code 945 = .ok (.invokevirtual 200, 3) := by decide +kernel
theorem d_law_948 : decode code 948 = .ok (.istore 7, 2) := by decide +kernel
theorem d_law_950 : decode code 950 = .ok (.aload_n 2, 1) := by decide +kernel
theorem d_law_951 : decode code 951 = .ok (.invokevirtual 160, 3) := by decide +kernel
theorem d_law_954 : decode code 954 = .ok (.iload 6, 2) := by decide +kernel
theorem d_law_956 : decode code 956 = .ok (.if_icmp .eq 5, 3) := by decide +kernel
theorem d_law_961 : decode code 961 = .ok (.iload 6, 2) := by decide +kernel
theorem d_law_963 : decode code 963 = .ok (.ifCond .ne 15, 3) := by decide +kernel
theorem d_law_978 : decode code 978 = .ok (.goto 2094, 3) := by decide +kernel
theorem d_law_981 : decode code 981 = .ok (.aload_n 1, 1) := by decide +kernel
theorem d_law_982 : decode code 982 = .ok (.aload_n 0, 1) := by decide +kernel
theorem d_law_983 : decode code 983 = .ok (.iload 5, 2) := by decide +kernel
theorem d_law_985 : decode code 985 = .ok (.iconst 1, 1) := by decide +kernel
theorem d_law_986 : decode code 986 = .ok (.iadd, 1) := by decide +kernel
theorem d_law_987 : decode code 987 = .ok (.iaload, 1) := by decide +kernel
theorem d_law_988 : decode code 988 = .ok (.aload_n 0, 1) := by decide +kernel
theorem d_law_989 : decode code 989 = .ok (.iload 5, 2) := by decide +kernel
theorem d_law_991 : decode code 991 = .ok (.iconst 2, 1) := by decide +kernel
theorem d_law_992 : decode code 992 = .ok (.iadd, 1) := by decide +kernel
theorem d_law_993 : decode code 993 = .ok (.iaload, 1) := by decide +kernel
theorem d_law_994 : decode code 994 = .ok (.aload_n 0, 1) := by decide +kernel
theorem d_law_995 : decode code 995 = .ok (.iload 5, 2) := by decide +kernel
theorem d_law_997 : decode code 997 = .ok (.iconst 3, 1) := by decide +kernel
theorem d_law_998 : decode code 998 = .ok (.iadd, 1) := by decide +kernel
theorem d_law_999 : decode code 999 = .ok (.iaload, 1) := by decide +kernel
theorem d_law_1000 : decode code 1000 = .ok (.aload_n 3, 1) := by decide +kernel
theorem d_law_1001 : decode code 1001 = .ok (.invokestatic 201, 3) := by decide +kernel
theorem d_law_1004 : decode code 1004 = .ok (.istore 6, 2) := by decide +kernel
theorem d_law_1006 : decode code 1006 = .ok (.aload_n 2, 1) := by decide +kernel
theorem d_law_1007 : decode code 1007 = .ok (.aload_n 0, 1) := by decide +kernel
theorem d_law_1008 : decode code 1008 = .ok (.iload 5, 2) := by decide +kernel
theorem d_law_1010 : decode code 1010 = .ok (.iconst 1, 1) := by decide +kernel
theorem d_law_1011 : decode code 1011 = .ok (.iadd, 1) := by decide +kernel
theorem d_law_1012 : decode code 1012 = .ok (.iaload, 1) := by decide +kernel
theorem d_law_1013 : decode code 1013 = .ok (.aload_n 0, 1) := by decide +kernel
theorem d_law_1014 : decode code 1014 = .ok (.iload 5, 2) := by decide +kernel
theorem d_law_1016 : decode code 1016 = .ok (.iconst 2, 1) := by decide +kernel
theorem d_law_1017 : decode code 1017 = .ok (.iadd, 1) := by decide +kernel
theorem d_law_1018 : decode code 1018 = .ok (.iaload, 1) := by decide +kernel
theorem d_law_1019 : decode code 1019 = .ok (.aload_n 0, 1) := by decide +kernel
theorem d_law_1020 : decode code 1020 = .ok (.iload 5, 2) := by decide +kernel
theorem d_law_1022 : decode code 1022 = .ok (.iconst 3, 1) := by decide +kernel
theorem d_law_1023 : decode code 1023 = .ok (.iadd, 1) := by decide +kernel
theorem d_law_1024 : decode code 1024 = .ok (.iaload, 1) := by decide +kernel
theorem d_law_1025 : decode code 1025 = .ok (.invokevirtual 204, 3) := by decide +kernel
theorem d_law_1028 : decode code 1028 = .ok (.istore 7, 2) := by decide +kernel
theorem d_law_1030 : decode code 1030 = .ok (.aload_n 2, 1) := by decide +kernel
theorem d_law_1031 : decode code 1031 = .ok (.invokevirtual 160, 3) := by decide +kernel
theorem d_law_1034 : decode code 1034 = .ok (.iload 6, 2) := by decide +kernel
theorem d_law_1036 : decode code 1036 = .ok (.if_icmp .eq 5, 3) := by decide +kernel
theorem d_law_1041 : decode code 1041 = .ok (.iload 6, 2) := by decide +kernel
theorem d_law_1043 : decode code 1043 = .ok (.ifCond .ne 15, 3) := by decide +kernel
theorem d_law_1046 : decode code 1046 = .ok (.aload_n 3, 1) := by decide +kernel
theorem d_law_1047 : decode code 1047 = .ok (.iconst 0, 1) := by decide +kernel
theorem d_law_1048 : decode code 1048 = .ok (.laload, 1) := by decide +kernel
theorem d_law_1049 : decode code 1049 = .ok (.iload 7, 2) := by decide +kernel
theorem d_law_1051 : decode code 1051 = .ok (.i2l, 1) := by decide +kernel
theorem d_law_1052 : decode code 1052 = .ok (.lcmp, 1) := by decide +kernel
theorem d_law_1053 : decode code 1053 = .ok (.ifCond .eq 5, 3) := by decide +kernel
theorem d_law_1058 : decode code 1058 = .ok (.goto 2014, 3) := by decide +kernel
theorem d_law_1061 : decode code 1061 = .ok (.aload_n 1, 1) := by decide +kernel
theorem d_law_1062 : decode code 1062 = .ok (.aload_n 0, 1) := by decide +kernel
theorem d_law_1063 : decode code 1063 = .ok (.iload 5, 2) := by decide +kernel
theorem d_law_1065 : decode code 1065 = .ok (.iconst 1, 1) := by decide +kernel
theorem d_law_1066 : decode code 1066 = .ok (.iadd, 1) := by decide +kernel
theorem d_law_1067 : decode code 1067 = .ok (.iaload, 1) := by decide +kernel
theorem d_law_1068 : decode code 1068 = .ok (.aload_n 3, 1) := by decide +kernel
theorem d_law_1069 : decode code 1069 = .ok (.invokestatic 205, 3) := by decide +kernel
theorem d_law_1072 : decode code 1072 = .ok (.istore 6, 2) := by decide +kernel
theorem d_law_1074 : decode code 1074 = .ok (.aload_n 2, 1) := by decide +kernel
theorem d_law_1075 : decode code 1075 = .ok (.aload_n 0, 1) := by decide +kernel
theorem d_law_1076 : decode code 1076 = .ok (.iload 5, 2) := by decide +kernel
theorem d_law_1078 : decode code 1078 = .ok (.iconst 1, 1) := by decide +kernel
theorem d_law_1079 : decode code 1079 = .ok (.iadd, 1) := by decide +kernel
theorem d_law_1080 : decode code 1080 = .ok (.iaload, 1) := by decide +kernel
theorem d_law_1081 : decode code 1081 = .ok (.invokevirtual 207, 3) := by decide +kernel
theorem d_law_1084 : decode code 1084 = .ok (.istore 7, 2) := by decide +kernel
theorem d_law_1086 : decode code 1086 = .ok (.aload_n 2, 1) := by decide +kernel
theorem d_law_1087 : decode code 1087 = .ok (.invokevirtual 160, 3) := by decide +kernel
theorem d_law_1090 : decode code 1090 = .ok (.iload 6, 2) := by decide +kernel
theorem d_law_1092 : decode code 1092 = .ok (.if_icmp .eq 5, 3) := by decide +kernel
theorem d_law_1097 : decode code 1097 = .ok (.iload 6, 2) := by decide +kernel
theorem d_law_1099 : decode code 1099 = .ok (.ifCond .ne 15, 3) := by decide +kernel
theorem d_law_1114 : decode code 1114 = .ok (.goto 1958, 3) := by decide +kernel
theorem d_law_1117 : decode code 1117 = .ok (.aload_n 1, 1) := by decide +kernel
theorem d_law_1118 : decode code 1118 = .ok (.aload_n 0, 1) := by decide +kernel
theorem d_law_1119 : decode code 1119 = .ok (.iload 5, 2) := by decide +kernel
theorem d_law_1121 : decode code 1121 = .ok (.iconst 1, 1) := by decide +kernel
theorem d_law_1122 : decode code 1122 = .ok (.iadd, 1) := by decide +kernel
theorem d_law_1123 : decode code 1123 = .ok (.iaload, 1) := by decide +kernel
theorem d_law_1124 : decode code 1124 = .ok (.aload_n 3, 1) := by decide +kernel
theorem d_law_1125 : decode code 1125 = .ok (.invokestatic 208, 3) := by decide +kernel
theorem d_law_1128 : decode code 1128 = .ok (.istore 6, 2) := by decide +kernel
theorem d_law_1130 : decode code 1130 = .ok (.aload_n 2, 1) := by decide +kernel
theorem d_law_1131 : decode code 1131 = .ok (.aload_n 0, 1) := by decide +kernel
theorem d_law_1132 : decode code 1132 = .ok (.iload 5, 2) := by decide +kernel
theorem d_law_1134 : decode code 1134 = .ok (.iconst 1, 1) := by decide +kernel
theorem d_law_1135 : decode code 1135 = .ok (.iadd, 1) := by decide +kernel
theorem d_law_1136 : decode code 1136 = .ok (.iaload, 1) := by decide +kernel
theorem d_law_1137 : decode code 1137 = .ok (.invokevirtual 210, 3) := by decide +kernel
theorem d_law_1140 : decode code 1140 = .ok (.istore 7, 2) := by decide +kernel
theorem d_law_1142 : decode code 1142 = .ok (.aload_n 2, 1) := by decide +kernel
theorem d_law_1143 : decode code 1143 = .ok (.invokevirtual 160, 3) := by decide +kernel
theorem d_law_1146 : decode code 1146 = .ok (.iload 6, 2) := by decide +kernel
theorem d_law_1148 : decode code 1148 = .ok (.if_icmp .eq 5, 3) := by decide +kernel
theorem d_law_1153 : decode code 1153 = .ok (.iload 6, 2) := by decide +kernel
theorem d_law_1155 : decode code 1155 = .ok (.ifCond .ne 15, 3) := by decide +kernel
theorem d_law_1170 : decode code 1170 = .ok (.goto 1902, 3) := by decide +kernel
theorem d_law_1173 : decode code 1173 = .ok (.aload_n 1, 1) := by decide +kernel
theorem d_law_1174 : decode code 1174 = .ok (.aload_n 0, 1) := by decide +kernel
theorem d_law_1175 : decode code 1175 = .ok (.iload 5, 2) := by decide +kernel
theorem d_law_1177 : decode code 1177 = .ok (.iconst 1, 1) := by decide +kernel
theorem d_law_1178 : decode code 1178 = .ok (.iadd, 1) := by decide +kernel
theorem d_law_1179 : decode code 1179 = .ok (.iaload, 1) := by decide +kernel
