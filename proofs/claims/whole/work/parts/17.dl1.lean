theorem dL_law__868 : decode cL_law_ 868 = .ok (.goto 2066, 3) := by decide +kernel
theorem dL_law__871 : decode cL_law_ 871 = .ok (.aload_n 1, 1) := by decide +kernel
theorem dL_law__872 : decode cL_law_ 872 = .ok (.aload_n 0, 1) := by decide +kernel
theorem dL_law__873 : decode cL_law_ 873 = .ok (.iload 4, 2) := by decide +kernel
theorem dL_law__875 : decode cL_law_ 875 = .ok (.iconst 1, 1) := by decide +kernel
theorem dL_law__876 : decode cL_law_ 876 = .ok (.iadd, 1) := by decide +kernel
theorem dL_law__877 : decode cL_law_ 877 = .ok (.iaload, 1) := by decide +kernel
theorem dL_law__878 : decode cL_law_ 878 = .ok (.aload_n 3, 1) := by decide +kernel
theorem dL_law__879 : decode cL_law_ 879 = .ok (.invokestatic 180, 3) := by decide +kernel
theorem dL_law__882 : decode cL_law_ 882 = .ok (.istore 5, 2) := by decide +kernel
theorem dL_law__884 : decode cL_law_ 884 = .ok (.aload_n 2, 1) := by decide +kernel
theorem dL_law__885 : decode cL_law_ 885 = .ok (.aload_n 0, 1) := by decide +kernel
theorem dL_law__886 : decode cL_law_ 886 = .ok (.iload 4, 2) := by decide +kernel
theorem dL_law__888 : decode cL_law_ 888 = .ok (.iconst 1, 1) := by decide +kernel
theorem dL_law__889 : decode cL_law_ 889 = .ok (.iadd, 1) := by decide +kernel
theorem dL_law__890 : decode cL_law_ 890 = .ok (.iaload, 1) := by decide +kernel
theorem dL_law__891 : decode cL_law_ 891 = .ok (.invokevirtual 182, 3) := by decide +kernel
theorem dL_law__894 : decode cL_law_ 894 = .ok (.istore 6, 2) := by decide +kernel
theorem dL_law__896 : decode cL_law_ 896 = .ok (.aload_n 2, 1) := by decide +kernel
theorem dL_law__897 : decode cL_law_ 897 = .ok (.invokevirtual 147, 3) := by decide +kernel
theorem dL_law__900 : decode cL_law_ 900 = .ok (.iload 5, 2) := by decide +kernel
theorem dL_law__902 : decode cL_law_ 902 = .ok (.if_icmp .eq 5, 3) := by decide +kernel
theorem dL_law__905 : decode cL_law_ 905 = .ok (.iconst 0, 1) := by decide +kernel
theorem dL_law__906 : decode cL_law_ 906 = .ok (.ireturn, 1) := by decide +kernel
theorem dL_law__907 : decode cL_law_ 907 = .ok (.iload 5, 2) := by decide +kernel
theorem dL_law__909 : decode cL_law_ 909 = .ok (.ifCond .ne 15, 3) := by decide +kernel
theorem dL_law__912 : decode cL_law_ 912 = .ok (.aload_n 3, 1) := by decide +kernel
theorem dL_law__913 : decode cL_law_ 913 = .ok (.iconst 0, 1) := by decide +kernel
theorem dL_law__914 : decode cL_law_ 914 = .ok (.laload, 1) := by decide +kernel
theorem dL_law__915 : decode cL_law_ 915 = .ok (.iload 6, 2) := by decide +kernel
theorem dL_law__917 : decode cL_law_ 917 = .ok (.i2l, 1) := by decide +kernel
theorem dL_law__918 : decode cL_law_ 918 = .ok (.lcmp, 1) := by decide +kernel
theorem dL_law__919 : decode cL_law_ 919 = .ok (.ifCond .eq 5, 3) := by decide +kernel
theorem dL_law__922 : decode cL_law_ 922 = .ok (.iconst 0, 1) := by decide +kernel
theorem dL_law__923 : decode cL_law_ 923 = .ok (.ireturn, 1) := by decide +kernel
theorem dL_law__924 : decode cL_law_ 924 = .ok (.goto 2010, 3) := by decide +kernel
theorem dL_law__927 : decode cL_law_ 927 = .ok (.aload_n 1, 1) := by decide +kernel
theorem dL_law__928 : decode cL_law_ 928 = .ok (.aload_n 0, 1) := by decide +kernel
theorem dL_law__929 : decode cL_law_ 929 = .ok (.iload 4, 2) := by decide +kernel
theorem dL_law__931 : decode cL_law_ 931 = .ok (.iconst 1, 1) := by decide +kernel
theorem dL_law__932 : decode cL_law_ 932 = .ok (.iadd, 1) := by decide +kernel
theorem dL_law__933 : decode cL_law_ 933 = .ok (.iaload, 1) := by decide +kernel
theorem dL_law__934 : decode cL_law_ 934 = .ok (.aload_n 0, 1) := by decide +kernel
theorem dL_law__935 : decode cL_law_ 935 = .ok (.iload 4, 2) := by decide +kernel
theorem dL_law__937 : decode cL_law_ 937 = .ok (.iconst 2, 1) := by decide +kernel
theorem dL_law__938 : decode cL_law_ 938 = .ok (.iadd, 1) := by decide +kernel
theorem dL_law__939 : decode cL_law_ 939 = .ok (.iaload, 1) := by decide +kernel
theorem dL_law__940 : decode cL_law_ 940 = .ok (.aload_n 3, 1) := by decide +kernel
theorem dL_law__941 : decode cL_law_ 941 = .ok (.invokestatic 183, 3) := by decide +kernel
theorem dL_law__944 : decode cL_law_ 944 = .ok (.istore 5, 2) := by decide +kernel
theorem dL_law__946 : decode cL_law_ 946 = .ok (.aload_n 2, 1) := by decide +kernel
theorem dL_law__947 : decode cL_law_ 947 = .ok (.aload_n 0, 1) := by decide +kernel
theorem dL_law__948 : decode cL_law_ 948 = .ok (.iload 4, 2) := by decide +kernel
theorem dL_law__950 : decode cL_law_ 950 = .ok (.iconst 1, 1) := by decide +kernel
theorem dL_law__951 : decode cL_law_ 951 = .ok (.iadd, 1) := by decide +kernel
theorem dL_law__952 : decode cL_law_ 952 = .ok (.iaload, 1) := by decide +kernel
theorem dL_law__953 : decode cL_law_ 953 = .ok (.aload_n 0, 1) := by decide +kernel
theorem dL_law__954 : decode cL_law_ 954 = .ok (.iload 4, 2) := by decide +kernel
theorem dL_law__956 : decode cL_law_ 956 = .ok (.iconst 2, 1) := by decide +kernel
theorem dL_law__957 : decode cL_law_ 957 = .ok (.iadd, 1) := by decide +kernel
theorem dL_law__958 : decode cL_law_ 958 = .ok (.iaload, 1) := by decide +kernel
theorem dL_law__959 : decode cL_law_ 959 = .ok (.invokevirtual 185, 3) := by decide +kernel
theorem dL_law__962 : decode cL_law_ 962 = .ok (.istore 6, 2) := by decide +kernel
theorem dL_law__964 : decode cL_law_ 964 = .ok (.aload_n 2, 1) := by decide +kernel
theorem dL_law__965 : decode cL_law_ 965 = .ok (.invokevirtual 147, 3) := by decide +kernel
theorem dL_law__968 : decode cL_law_ 968 = .ok (.iload 5, 2) := by decide +kernel
theorem dL_law__970 : decode cL_law_ 970 = .ok (.if_icmp .eq 5, 3) := by decide +kernel
theorem dL_law__973 : decode cL_law_ 973 = .ok (.iconst 0, 1) := by decide +kernel
theorem dL_law__974 : decode cL_law_ 974 = .ok (.ireturn, 1) := by decide +kernel
theorem dL_law__975 : decode cL_law_ 975 = .ok (.iload 5, 2) := by decide +kernel
theorem dL_law__977 : decode cL_law_ 977 = .ok (.ifCond .ne 15, 3) := by decide +kernel
theorem dL_law__980 : decode cL_law_ 980 = .ok (.aload_n 3, 1) := by decide +kernel
theorem dL_law__981 : decode cL_law_ 981 = .ok (.iconst 0, 1) := by decide +kernel
theorem dL_law__982 : decode cL_law_ 982 = .ok (.laload, 1) := by decide +kernel
theorem dL_law__983 : decode cL_law_ 983 = .ok (.iload 6, 2) := by decide +kernel
theorem dL_law__985 : decode cL_law_ 985 = .ok (.i2l, 1) := by decide +kernel
theorem dL_law__986 : decode cL_law_ 986 = .ok (.lcmp, 1) := by decide +kernel
theorem dL_law__987 : decode cL_law_ 987 = .ok (.ifCond .eq 5, 3) := by decide +kernel
theorem dL_law__990 : decode cL_law_ 990 = .ok (.iconst 0, 1) := by decide +kernel
theorem dL_law__991 : decode cL_law_ 991 = .ok (.ireturn, 1) := by decide +kernel
theorem dL_law__992 : decode cL_law_ 992 = .ok (.goto 1942, 3) := by decide +kernel
theorem dL_law__995 : decode cL_law_ 995 = .ok (.aload_n 1, 1) := by decide +kernel
theorem dL_law__996 : decode cL_law_ 996 = .ok (.aload_n 0, 1) := by decide +kernel
theorem dL_law__997 : decode cL_law_ 997 = .ok (.iload 4, 2) := by decide +kernel
theorem dL_law__999 : decode cL_law_ 999 = .ok (.iconst 1, 1) := by decide +kernel
theorem dL_law__1000 : decode cL_law_ 1000 = .ok (.iadd, 1) := by decide +kernel
theorem dL_law__1001 : decode cL_law_ 1001 = .ok (.iaload, 1) := by decide +kernel
theorem dL_law__1002 : decode cL_law_ 1002 = .ok (.aload_n 0, 1) := by decide +kernel
theorem dL_law__1003 : decode cL_law_ 1003 = .ok (.iload 4, 2) := by decide +kernel
theorem dL_law__1005 : decode cL_law_ 1005 = .ok (.iconst 2, 1) := by decide +kernel
theorem dL_law__1006 : decode cL_law_ 1006 = .ok (.iadd, 1) := by decide +kernel
theorem dL_law__1007 : decode cL_law_ 1007 = .ok (.iaload, 1) := by decide +kernel
theorem dL_law__1008 : decode cL_law_ 1008 = .ok (.aload_n 0, 1) := by decide +kernel
theorem dL_law__1009 : decode cL_law_ 1009 = .ok (.iload 4, 2) := by decide +kernel
theorem dL_law__1011 : decode cL_law_ 1011 = .ok (.iconst 3, 1) := by decide +kernel
theorem dL_law__1012 : decode cL_law_ 1012 = .ok (.iadd, 1) := by decide +kernel
theorem dL_law__1013 : decode cL_law_ 1013 = .ok (.iaload, 1) := by decide +kernel
theorem dL_law__1014 : decode cL_law_ 1014 = .ok (.aload_n 3, 1) := by decide +kernel
theorem dL_law__1015 : decode cL_law_ 1015 = .ok (.invokestatic 186, 3) := by decide +kernel
theorem dL_law__1018 : decode cL_law_ 1018 = .ok (.istore 5, 2) := by decide +kernel
theorem dL_law__1020 : decode cL_law_ 1020 = .ok (.aload_n 2, 1) := by decide +kernel
theorem dL_law__1021 : decode cL_law_ 1021 = .ok (.aload_n 0, 1) := by decide +kernel
theorem dL_law__1022 : decode cL_law_ 1022 = .ok (.iload 4, 2) := by decide +kernel
theorem dL_law__1024 : decode cL_law_ 1024 = .ok (.iconst 1, 1) := by decide +kernel
theorem dL_law__1025 : decode cL_law_ 1025 = .ok (.iadd, 1) := by decide +kernel
theorem dL_law__1026 : decode cL_law_ 1026 = .ok (.iaload, 1) := by decide +kernel
theorem dL_law__1027 : decode cL_law_ 1027 = .ok (.aload_n 0, 1) := by decide +kernel
theorem dL_law__1028 : decode cL_law_ 1028 = .ok (.iload 4, 2) := by decide +kernel
theorem dL_law__1030 : decode cL_law_ 1030 = .ok (.iconst 2, 1) := by decide +kernel
theorem dL_law__1031 : decode cL_law_ 1031 = .ok (.iadd, 1) := by decide +kernel
theorem dL_law__1032 : decode cL_law_ 1032 = .ok (.iaload, 1) := by decide +kernel
theorem dL_law__1033 : decode cL_law_ 1033 = .ok (.aload_n 0, 1) := by decide +kernel
theorem dL_law__1034 : decode cL_law_ 1034 = .ok (.iload 4, 2) := by decide +kernel
theorem dL_law__1036 : decode cL_law_ 1036 = .ok (.iconst 3, 1) := by decide +kernel
theorem dL_law__1037 : decode cL_law_ 1037 = .ok (.iadd, 1) := by decide +kernel
theorem dL_law__1038 : decode cL_law_ 1038 = .ok (.iaload, 1) := by decide +kernel
theorem dL_law__1039 : decode cL_law_ 1039 = .ok (.invokevirtual 188, 3) := by decide +kernel
theorem dL_law__1042 : decode cL_law_ 1042 = .ok (.istore 6, 2) := by decide +kernel
theorem dL_law__1044 : decode cL_law_ 1044 = .ok (.aload_n 2, 1) := by decide +kernel
theorem dL_law__1045 : decode cL_law_ 1045 = .ok (.invokevirtual 147, 3) := by decide +kernel
theorem dL_law__1048 : decode cL_law_ 1048 = .ok (.iload 5, 2) := by decide +kernel
theorem dL_law__1050 : decode cL_law_ 1050 = .ok (.if_icmp .eq 5, 3) := by decide +kernel
theorem dL_law__1053 : decode cL_law_ 1053 = .ok (.iconst 0, 1) := by decide +kernel
theorem dL_law__1054 : decode cL_law_ 1054 = .ok (.ireturn, 1) := by decide +kernel
theorem dL_law__1055 : decode cL_law_ 1055 = .ok (.iload 5, 2) := by decide +kernel
theorem dL_law__1057 : decode cL_law_ 1057 = .ok (.ifCond .ne 15, 3) := by decide +kernel
theorem dL_law__1060 : decode cL_law_ 1060 = .ok (.aload_n 3, 1) := by decide +kernel
theorem dL_law__1061 : decode cL_law_ 1061 = .ok (.iconst 0, 1) := by decide +kernel
theorem dL_law__1062 : decode cL_law_ 1062 = .ok (.laload, 1) := by decide +kernel
theorem dL_law__1063 : decode cL_law_ 1063 = .ok (.iload 6, 2) := by decide +kernel
theorem dL_law__1065 : decode cL_law_ 1065 = .ok (.i2l, 1) := by decide +kernel
theorem dL_law__1066 : decode cL_law_ 1066 = .ok (.lcmp, 1) := by decide +kernel
theorem dL_law__1067 : decode cL_law_ 1067 = .ok (.ifCond .eq 5, 3) := by decide +kernel
theorem dL_law__1070 : decode cL_law_ 1070 = .ok (.iconst 0, 1) := by decide +kernel
theorem dL_law__1071 : decode cL_law_ 1071 = .ok (.ireturn, 1) := by decide +kernel
theorem dL_law__1072 : decode cL_law_ 1072 = .ok (.goto 1862, 3) := by decide +kernel
theorem dL_law__1075 : decode cL_law_ 1075 = .ok (.aload_n 1, 1) := by decide +kernel
theorem dL_law__1076 : decode cL_law_ 1076 = .ok (.aload_n 0, 1) := by decide +kernel
theorem dL_law__1077 : decode cL_law_ 1077 = .ok (.iload 4, 2) := by decide +kernel
theorem dL_law__1079 : decode cL_law_ 1079 = .ok (.iconst 1, 1) := by decide +kernel
theorem dL_law__1080 : decode cL_law_ 1080 = .ok (.iadd, 1) := by decide +kernel
theorem dL_law__1081 : decode cL_law_ 1081 = .ok (.iaload, 1) := by decide +kernel
theorem dL_law__1082 : decode cL_law_ 1082 = .ok (.aload_n 0, 1) := by decide +kernel
theorem dL_law__1083 : decode cL_law_ 1083 = .ok (.iload 4, 2) := by decide +kernel
theorem dL_law__1085 : decode cL_law_ 1085 = .ok (.iconst 2, 1) := by decide +kernel
theorem dL_law__1086 : decode cL_law_ 1086 = .ok (.iadd, 1) := by decide +kernel
theorem dL_law__1087 : decode cL_law_ 1087 = .ok (.iaload, 1) := by decide +kernel
theorem dL_law__1088 : decode cL_law_ 1088 = .ok (.aload_n 0, 1) := by decide +kernel
theorem dL_law__1089 : decode cL_law_ 1089 = .ok (.iload 4, 2) := by decide +kernel
theorem dL_law__1091 : decode cL_law_ 1091 = .ok (.iconst 3, 1) := by decide +kernel
theorem dL_law__1092 : decode cL_law_ 1092 = .ok (.iadd, 1) := by decide +kernel
theorem dL_law__1093 : decode cL_law_ 1093 = .ok (.iaload, 1) := by decide +kernel
theorem dL_law__1094 : decode cL_law_ 1094 = .ok (.aload_n 3, 1) := by decide +kernel
theorem dL_law__1095 : decode cL_law_ 1095 = .ok (.invokestatic 189, 3) := by decide +kernel
theorem dL_law__1098 : decode cL_law_ 1098 = .ok (.istore 5, 2) := by decide +kernel
theorem dL_law__1100 : decode cL_law_ 1100 = .ok (.aload_n 2, 1) := by decide +kernel
theorem dL_law__1101 : decode cL_law_ 1101 = .ok (.aload_n 0, 1) := by decide +kernel
theorem dL_law__1102 : decode cL_law_ 1102 = .ok (.iload 4, 2) := by decide +kernel
theorem dL_law__1104 : decode cL_law_ 1104 = .ok (.iconst 1, 1) := by decide +kernel
theorem dL_law__1105 : decode cL_law_ 1105 = .ok (.iadd, 1) := by decide +kernel
theorem dL_law__1106 : decode cL_law_ 1106 = .ok (.iaload, 1) := by decide +kernel
theorem dL_law__1107 : decode cL_law_ 1107 = .ok (.aload_n 0, 1) := by decide +kernel
theorem dL_law__1108 : decode cL_law_ 1108 = .ok (.iload 4, 2) := by decide +kernel
theorem dL_law__1110 : decode cL_law_ 1110 = .ok (.iconst 2, 1) := by decide +kernel
theorem dL_law__1111 : decode cL_law_ 1111 = .ok (.iadd, 1) := by decide +kernel
theorem dL_law__1112 : decode cL_law_ 1112 = .ok (.iaload, 1) := by decide +kernel
theorem dL_law__1113 : decode cL_law_ 1113 = .ok (.aload_n 0, 1) := by decide +kernel
theorem dL_law__1114 : decode cL_law_ 1114 = .ok (.iload 4, 2) := by decide +kernel
theorem dL_law__1116 : decode cL_law_ 1116 = .ok (.iconst 3, 1) := by decide +kernel
theorem dL_law__1117 : decode cL_law_ 1117 = .ok (.iadd, 1) := by decide +kernel
theorem dL_law__1118 : decode cL_law_ 1118 = .ok (.iaload, 1) := by decide +kernel
theorem dL_law__1119 : decode cL_law_ 1119 = .ok (.invokevirtual 191, 3) := by decide +kernel
theorem dL_law__1122 : decode cL_law_ 1122 = .ok (.istore 6, 2) := by decide +kernel
theorem dL_law__1124 : decode cL_law_ 1124 = .ok (.aload_n 2, 1) := by decide +kernel
theorem dL_law__1125 : decode cL_law_ 1125 = .ok (.invokevirtual 147, 3) := by decide +kernel
theorem dL_law__1128 : decode cL_law_ 1128 = .ok (.iload 5, 2) := by decide +kernel
theorem dL_law__1130 : decode cL_law_ 1130 = .ok (.if_icmp .eq 5, 3) := by decide +kernel
theorem dL_law__1133 : decode cL_law_ 1133 = .ok (.iconst 0, 1) := by decide +kernel
theorem dL_law__1134 : decode cL_law_ 1134 = .ok (.ireturn, 1) := by decide +kernel
theorem dL_law__1135 : decode cL_law_ 1135 = .ok (.iload 5, 2) := by decide +kernel
theorem dL_law__1137 : decode cL_law_ 1137 = .ok (.ifCond .ne 15, 3) := by decide +kernel
theorem dL_law__1140 : decode cL_law_ 1140 = .ok (.aload_n 3, 1) := by decide +kernel
theorem dL_law__1141 : decode cL_law_ 1141 = .ok (.iconst 0, 1) := by decide +kernel
theorem dL_law__1142 : decode cL_law_ 1142 = .ok (.laload, 1) := by decide +kernel
theorem dL_law__1143 : decode cL_law_ 1143 = .ok (.iload 6, 2) := by decide +kernel
theorem dL_law__1145 : decode cL_law_ 1145 = .ok (.i2l, 1) := by decide +kernel
theorem dL_law__1146 : decode cL_law_ 1146 = .ok (.lcmp, 1) := by decide +kernel
theorem dL_law__1147 : decode cL_law_ 1147 = .ok (.ifCond .eq 5, 3) := by decide +kernel
theorem dL_law__1150 : decode cL_law_ 1150 = .ok (.iconst 0, 1) := by decide +kernel
theorem dL_law__1151 : decode cL_law_ 1151 = .ok (.ireturn, 1) := by decide +kernel
theorem dL_law__1152 : decode cL_law_ 1152 = .ok (.goto 1782, 3) := by decide +kernel
theorem dL_law__1155 : decode cL_law_ 1155 = .ok (.aload_n 1, 1) := by decide +kernel
theorem dL_law__1156 : decode cL_law_ 1156 = .ok (.aload_n 0, 1) := by decide +kernel
theorem dL_law__1157 : decode cL_law_ 1157 = .ok (.iload 4, 2) := by decide +kernel
theorem dL_law__1159 : decode cL_law_ 1159 = .ok (.iconst 1, 1) := by decide +kernel
theorem dL_law__1160 : decode cL_law_ 1160 = .ok (.iadd, 1) := by decide +kernel
theorem dL_law__1161 : decode cL_law_ 1161 = .ok (.iaload, 1) := by decide +kernel
theorem dL_law__1162 : decode cL_law_ 1162 = .ok (.aload_n 0, 1) := by decide +kernel
theorem dL_law__1163 : decode cL_law_ 1163 = .ok (.iload 4, 2) := by decide +kernel
theorem dL_law__1165 : decode cL_law_ 1165 = .ok (.iconst 2, 1) := by decide +kernel
theorem dL_law__1166 : decode cL_law_ 1166 = .ok (.iadd, 1) := by decide +kernel
theorem dL_law__1167 : decode cL_law_ 1167 = .ok (.iaload, 1) := by decide +kernel
theorem dL_law__1168 : decode cL_law_ 1168 = .ok (.aload_n 3, 1) := by decide +kernel
theorem dL_law__1169 : decode cL_law_ 1169 = .ok (.invokestatic 192, 3) := by decide +kernel
theorem dL_law__1172 : decode cL_law_ 1172 = .ok (.istore 5, 2) := by decide +kernel
theorem dL_law__1174 : decode cL_law_ 1174 = .ok (.aload_n 2, 1) := by decide +kernel
theorem dL_law__1175 : decode cL_law_ 1175 = .ok (.aload_n 0, 1) := by decide +kernel
theorem dL_law__1176 : decode cL_law_ 1176 = .ok (.iload 4, 2) := by decide +kernel
theorem dL_law__1178 : decode cL_law_ 1178 = .ok (.iconst 1, 1) := by decide +kernel
theorem dL_law__1179 : decode cL_law_ 1179 = .ok (.iadd, 1) := by decide +kernel
theorem dL_law__1180 : decode cL_law_ 1180 = .ok (.iaload, 1) := by decide +kernel
theorem dL_law__1181 : decode cL_law_ 1181 = .ok (.aload_n 0, 1) := by decide +kernel
theorem dL_law__1182 : decode cL_law_ 1182 = .ok (.iload 4, 2) := by decide +kernel
theorem dL_law__1184 : decode cL_law_ 1184 = .ok (.iconst 2, 1) := by decide +kernel
theorem dL_law__1185 : decode cL_law_ 1185 = .ok (.iadd, 1) := by decide +kernel
theorem dL_law__1186 : decode cL_law_ 1186 = .ok (.iaload, 1) := by decide +kernel
theorem dL_law__1187 : decode cL_law_ 1187 = .ok (.invokevirtual 194, 3) := by decide +kernel
theorem dL_law__1190 : decode cL_law_ 1190 = .ok (.istore 6, 2) := by decide +kernel
theorem dL_law__1192 : decode cL_law_ 1192 = .ok (.aload_n 2, 1) := by decide +kernel
theorem dL_law__1193 : decode cL_law_ 1193 = .ok (.invokevirtual 147, 3) := by decide +kernel
theorem dL_law__1196 : decode cL_law_ 1196 = .ok (.iload 5, 2) := by decide +kernel
theorem dL_law__1198 : decode cL_law_ 1198 = .ok (.if_icmp .eq 5, 3) := by decide +kernel
theorem dL_law__1201 : decode cL_law_ 1201 = .ok (.iconst 0, 1) := by decide +kernel
theorem dL_law__1202 : decode cL_law_ 1202 = .ok (.ireturn, 1) := by decide +kernel
theorem dL_law__1203 : decode cL_law_ 1203 = .ok (.iload 5, 2) := by decide +kernel
theorem dL_law__1205 : decode cL_law_ 1205 = .ok (.ifCond .ne 15, 3) := by decide +kernel
theorem dL_law__1208 : decode cL_law_ 1208 = .ok (.aload_n 3, 1) := by decide +kernel
theorem dL_law__1209 : decode cL_law_ 1209 = .ok (.iconst 0, 1) := by decide +kernel
theorem dL_law__1210 : decode cL_law_ 1210 = .ok (.laload, 1) := by decide +kernel
theorem dL_law__1211 : decode cL_law_ 1211 = .ok (.iload 6, 2) := by decide +kernel
theorem dL_law__1213 : decode cL_law_ 1213 = .ok (.i2l, 1) := by decide +kernel
theorem dL_law__1214 : decode cL_law_ 1214 = .ok (.lcmp, 1) := by decide +kernel
theorem dL_law__1215 : decode cL_law_ 1215 = .ok (.ifCond .eq 5, 3) := by decide +kernel
theorem dL_law__1218 : decode cL_law_ 1218 = .ok (.iconst 0, 1) := by decide +kernel
theorem dL_law__1219 : decode cL_law_ 1219 = .ok (.ireturn, 1) := by decide +kernel
theorem dL_law__1220 : decode cL_law_ 1220 = .ok (.goto 1714, 3) := by decide +kernel
theorem dL_law__1223 : decode cL_law_ 1223 = .ok (.aload_n 1, 1) := by decide +kernel
theorem dL_law__1224 : decode cL_law_ 1224 = .ok (.aload_n 0, 1) := by decide +kernel
theorem dL_law__1225 : decode cL_law_ 1225 = .ok (.iload 4, 2) := by decide +kernel
theorem dL_law__1227 : decode cL_law_ 1227 = .ok (.iconst 1, 1) := by decide +kernel
theorem dL_law__1228 : decode cL_law_ 1228 = .ok (.iadd, 1) := by decide +kernel
theorem dL_law__1229 : decode cL_law_ 1229 = .ok (.iaload, 1) := by decide +kernel
theorem dL_law__1230 : decode cL_law_ 1230 = .ok (.aload_n 0, 1) := by decide +kernel
theorem dL_law__1231 : decode cL_law_ 1231 = .ok (.iload 4, 2) := by decide +kernel
theorem dL_law__1233 : decode cL_law_ 1233 = .ok (.iconst 2, 1) := by decide +kernel
theorem dL_law__1234 : decode cL_law_ 1234 = .ok (.iadd, 1) := by decide +kernel
theorem dL_law__1235 : decode cL_law_ 1235 = .ok (.iaload, 1) := by decide +kernel
theorem dL_law__1236 : decode cL_law_ 1236 = .ok (.aload_n 0, 1) := by decide +kernel
theorem dL_law__1237 : decode cL_law_ 1237 = .ok (.iload 4, 2) := by decide +kernel
theorem dL_law__1239 : decode cL_law_ 1239 = .ok (.iconst 3, 1) := by decide +kernel
theorem dL_law__1240 : decode cL_law_ 1240 = .ok (.iadd, 1) := by decide +kernel
theorem dL_law__1241 : decode cL_law_ 1241 = .ok (.iaload, 1) := by decide +kernel
theorem dL_law__1242 : decode cL_law_ 1242 = .ok (.aload_n 3, 1) := by decide +kernel
theorem dL_law__1243 : decode cL_law_ 1243 = .ok (.invokestatic 195, 3) := by decide +kernel
theorem dL_law__1246 : decode cL_law_ 1246 = .ok (.istore 5, 2) := by decide +kernel
theorem dL_law__1248 : decode cL_law_ 1248 = .ok (.aload_n 2, 1) := by decide +kernel
theorem dL_law__1249 : decode cL_law_ 1249 = .ok (.aload_n 0, 1) := by decide +kernel
theorem dL_law__1250 : decode cL_law_ 1250 = .ok (.iload 4, 2) := by decide +kernel
theorem dL_law__1252 : decode cL_law_ 1252 = .ok (.iconst 1, 1) := by decide +kernel
theorem dL_law__1253 : decode cL_law_ 1253 = .ok (.iadd, 1) := by decide +kernel
theorem dL_law__1254 : decode cL_law_ 1254 = .ok (.iaload, 1) := by decide +kernel
theorem dL_law__1255 : decode cL_law_ 1255 = .ok (.aload_n 0, 1) := by decide +kernel
theorem dL_law__1256 : decode cL_law_ 1256 = .ok (.iload 4, 2) := by decide +kernel
theorem dL_law__1258 : decode cL_law_ 1258 = .ok (.iconst 2, 1) := by decide +kernel
theorem dL_law__1259 : decode cL_law_ 1259 = .ok (.iadd, 1) := by decide +kernel
theorem dL_law__1260 : decode cL_law_ 1260 = .ok (.iaload, 1) := by decide +kernel
theorem dL_law__1261 : decode cL_law_ 1261 = .ok (.aload_n 0, 1) := by decide +kernel
theorem dL_law__1262 : decode cL_law_ 1262 = .ok (.iload 4, 2) := by decide +kernel
theorem dL_law__1264 : decode cL_law_ 1264 = .ok (.iconst 3, 1) := by decide +kernel
theorem dL_law__1265 : decode cL_law_ 1265 = .ok (.iadd, 1) := by decide +kernel
theorem dL_law__1266 : decode cL_law_ 1266 = .ok (.iaload, 1) := by decide +kernel
theorem dL_law__1267 : decode cL_law_ 1267 = .ok (.invokevirtual 197, 3) := by decide +kernel
theorem dL_law__1270 : decode cL_law_ 1270 = .ok (.istore 6, 2) := by decide +kernel
theorem dL_law__1272 : decode cL_law_ 1272 = .ok (.aload_n 2, 1) := by decide +kernel
theorem dL_law__1273 : decode cL_law_ 1273 = .ok (.invokevirtual 147, 3) := by decide +kernel
theorem dL_law__1276 : decode cL_law_ 1276 = .ok (.iload 5, 2) := by decide +kernel
theorem dL_law__1278 : decode cL_law_ 1278 = .ok (.if_icmp .eq 5, 3) := by decide +kernel
theorem dL_law__1281 : decode cL_law_ 1281 = .ok (.iconst 0, 1) := by decide +kernel
theorem dL_law__1282 : decode cL_law_ 1282 = .ok (.ireturn, 1) := by decide +kernel
theorem dL_law__1283 : decode cL_law_ 1283 = .ok (.iload 5, 2) := by decide +kernel
theorem dL_law__1285 : decode cL_law_ 1285 = .ok (.ifCond .ne 15, 3) := by decide +kernel
theorem dL_law__1288 : decode cL_law_ 1288 = .ok (.aload_n 3, 1) := by decide +kernel
theorem dL_law__1289 : decode cL_law_ 1289 = .ok (.iconst 0, 1) := by decide +kernel
theorem dL_law__1290 : decode cL_law_ 1290 = .ok (.laload, 1) := by decide +kernel
theorem dL_law__1291 : decode cL_law_ 1291 = .ok (.iload 6, 2) := by decide +kernel
theorem dL_law__1293 : decode cL_law_ 1293 = .ok (.i2l, 1) := by decide +kernel
theorem dL_law__1294 : decode cL_law_ 1294 = .ok (.lcmp, 1) := by decide +kernel
theorem dL_law__1295 : decode cL_law_ 1295 = .ok (.ifCond .eq 5, 3) := by decide +kernel
theorem dL_law__1298 : decode cL_law_ 1298 = .ok (.iconst 0, 1) := by decide +kernel
theorem dL_law__1299 : decode cL_law_ 1299 = .ok (.ireturn, 1) := by decide +kernel
theorem dL_law__1300 : decode cL_law_ 1300 = .ok (.goto 1634, 3) := by decide +kernel
theorem dL_law__1303 : decode cL_law_ 1303 = .ok (.aload_n 1, 1) := by decide +kernel
theorem dL_law__1304 : decode cL_law_ 1304 = .ok (.aload_n 0, 1) := by decide +kernel
theorem dL_law__1305 : decode cL_law_ 1305 = .ok (.iload 4, 2) := by decide +kernel
theorem dL_law__1307 : decode cL_law_ 1307 = .ok (.iconst 1, 1) := by decide +kernel
theorem dL_law__1308 : decode cL_law_ 1308 = .ok (.iadd, 1) := by decide +kernel
theorem dL_law__1309 : decode cL_law_ 1309 = .ok (.iaload, 1) := by decide +kernel
theorem dL_law__1310 : decode cL_law_ 1310 = .ok (.aload_n 0, 1) := by decide +kernel
theorem dL_law__1311 : decode cL_law_ 1311 = .ok (.iload 4, 2) := by decide +kernel
theorem dL_law__1313 : decode cL_law_ 1313 = .ok (.iconst 2, 1) := by decide +kernel
theorem dL_law__1314 : decode cL_law_ 1314 = .ok (.iadd, 1) := by decide +kernel
theorem dL_law__1315 : decode cL_law_ 1315 = .ok (.iaload, 1) := by decide +kernel
theorem dL_law__1316 : decode cL_law_ 1316 = .ok (.aload_n 3, 1) := by decide +kernel
theorem dL_law__1317 : decode cL_law_ 1317 = .ok (.invokestatic 198, 3) := by decide +kernel
theorem dL_law__1320 : decode cL_law_ 1320 = .ok (.istore 5, 2) := by decide +kernel
theorem dL_law__1322 : decode cL_law_ 1322 = .ok (.aload_n 2, 1) := by decide +kernel
theorem dL_law__1323 : decode cL_law_ 1323 = .ok (.aload_n 0, 1) := by decide +kernel
theorem dL_law__1324 : decode cL_law_ 1324 = .ok (.iload 4, 2) := by decide +kernel
theorem dL_law__1326 : decode cL_law_ 1326 = .ok (.iconst 1, 1) := by decide +kernel
theorem dL_law__1327 : decode cL_law_ 1327 = .ok (.iadd, 1) := by decide +kernel
theorem dL_law__1328 : decode cL_law_ 1328 = .ok (.iaload, 1) := by decide +kernel
theorem dL_law__1329 : decode cL_law_ 1329 = .ok (.aload_n 0, 1) := by decide +kernel
theorem dL_law__1330 : decode cL_law_ 1330 = .ok (.iload 4, 2) := by decide +kernel
theorem dL_law__1332 : decode cL_law_ 1332 = .ok (.iconst 2, 1) := by decide +kernel
theorem dL_law__1333 : decode cL_law_ 1333 = .ok (.iadd, 1) := by decide +kernel
theorem dL_law__1334 : decode cL_law_ 1334 = .ok (.iaload, 1) := by decide +kernel
theorem dL_law__1335 : decode cL_law_ 1335 = .ok (.invokevirtual 200, 3) := by decide +kernel
theorem dL_law__1338 : decode cL_law_ 1338 = .ok (.istore 6, 2) := by decide +kernel
theorem dL_law__1340 : decode cL_law_ 1340 = .ok (.aload_n 2, 1) := by decide +kernel
theorem dL_law__1341 : decode cL_law_ 1341 = .ok (.invokevirtual 147, 3) := by decide +kernel
theorem dL_law__1344 : decode cL_law_ 1344 = .ok (.iload 5, 2) := by decide +kernel
theorem dL_law__1346 : decode cL_law_ 1346 = .ok (.if_icmp .eq 5, 3) := by decide +kernel
theorem dL_law__1349 : decode cL_law_ 1349 = .ok (.iconst 0, 1) := by decide +kernel
theorem dL_law__1350 : decode cL_law_ 1350 = .ok (.ireturn, 1) := by decide +kernel
theorem dL_law__1351 : decode cL_law_ 1351 = .ok (.iload 5, 2) := by decide +kernel
theorem dL_law__1353 : decode cL_law_ 1353 = .ok (.ifCond .ne 15, 3) := by decide +kernel
theorem dL_law__1356 : decode cL_law_ 1356 = .ok (.aload_n 3, 1) := by decide +kernel
theorem dL_law__1357 : decode cL_law_ 1357 = .ok (.iconst 0, 1) := by decide +kernel
theorem dL_law__1358 : decode cL_law_ 1358 = .ok (.laload, 1) := by decide +kernel
theorem dL_law__1359 : decode cL_law_ 1359 = .ok (.iload 6, 2) := by decide +kernel
theorem dL_law__1361 : decode cL_law_ 1361 = .ok (.i2l, 1) := by decide +kernel
theorem dL_law__1362 : decode cL_law_ 1362 = .ok (.lcmp, 1) := by decide +kernel
theorem dL_law__1363 : decode cL_law_ 1363 = .ok (.ifCond .eq 5, 3) := by decide +kernel
theorem dL_law__1366 : decode cL_law_ 1366 = .ok (.iconst 0, 1) := by decide +kernel
theorem dL_law__1367 : decode cL_law_ 1367 = .ok (.ireturn, 1) := by decide +kernel
theorem dL_law__1368 : decode cL_law_ 1368 = .ok (.goto 1566, 3) := by decide +kernel
theorem dL_law__1371 : decode cL_law_ 1371 = .ok (.aload_n 1, 1) := by decide +kernel
theorem dL_law__1372 : decode cL_law_ 1372 = .ok (.aload_n 0, 1) := by decide +kernel
theorem dL_law__1373 : decode cL_law_ 1373 = .ok (.iload 4, 2) := by decide +kernel
theorem dL_law__1375 : decode cL_law_ 1375 = .ok (.iconst 1, 1) := by decide +kernel
theorem dL_law__1376 : decode cL_law_ 1376 = .ok (.iadd, 1) := by decide +kernel
theorem dL_law__1377 : decode cL_law_ 1377 = .ok (.iaload, 1) := by decide +kernel
theorem dL_law__1378 : decode cL_law_ 1378 = .ok (.aload_n 0, 1) := by decide +kernel
theorem dL_law__1379 : decode cL_law_ 1379 = .ok (.iload 4, 2) := by decide +kernel
theorem dL_law__1381 : decode cL_law_ 1381 = .ok (.iconst 2, 1) := by decide +kernel
theorem dL_law__1382 : decode cL_law_ 1382 = .ok (.iadd, 1) := by decide +kernel
theorem dL_law__1383 : decode cL_law_ 1383 = .ok (.iaload, 1) := by decide +kernel
theorem dL_law__1384 : decode cL_law_ 1384 = .ok (.aload_n 0, 1) := by decide +kernel
theorem dL_law__1385 : decode cL_law_ 1385 = .ok (.iload 4, 2) := by decide +kernel
theorem dL_law__1387 : decode cL_law_ 1387 = .ok (.iconst 3, 1) := by decide +kernel
theorem dL_law__1388 : decode cL_law_ 1388 = .ok (.iadd, 1) := by decide +kernel
theorem dL_law__1389 : decode cL_law_ 1389 = .ok (.iaload, 1) := by decide +kernel
theorem dL_law__1390 : decode cL_law_ 1390 = .ok (.aload_n 3, 1) := by decide +kernel
theorem dL_law__1391 : decode cL_law_ 1391 = .ok (.invokestatic 201, 3) := by decide +kernel
theorem dL_law__1394 : decode cL_law_ 1394 = .ok (.istore 5, 2) := by decide +kernel
theorem dL_law__1396 : decode cL_law_ 1396 = .ok (.aload_n 2, 1) := by decide +kernel
theorem dL_law__1397 : decode cL_law_ 1397 = .ok (.aload_n 0, 1) := by decide +kernel
theorem dL_law__1398 : decode cL_law_ 1398 = .ok (.iload 4, 2) := by decide +kernel
theorem dL_law__1400 : decode cL_law_ 1400 = .ok (.iconst 1, 1) := by decide +kernel
theorem dL_law__1401 : decode cL_law_ 1401 = .ok (.iadd, 1) := by decide +kernel
theorem dL_law__1402 : decode cL_law_ 1402 = .ok (.iaload, 1) := by decide +kernel
theorem dL_law__1403 : decode cL_law_ 1403 = .ok (.aload_n 0, 1) := by decide +kernel
theorem dL_law__1404 : decode cL_law_ 1404 = .ok (.iload 4, 2) := by decide +kernel
theorem dL_law__1406 : decode cL_law_ 1406 = .ok (.iconst 2, 1) := by decide +kernel
theorem dL_law__1407 : decode cL_law_ 1407 = .ok (.iadd, 1) := by decide +kernel
theorem dL_law__1408 : decode cL_law_ 1408 = .ok (.iaload, 1) := by decide +kernel
theorem dL_law__1409 : decode cL_law_ 1409 = .ok (.aload_n 0, 1) := by decide +kernel
theorem dL_law__1410 : decode cL_law_ 1410 = .ok (.iload 4, 2) := by decide +kernel
theorem dL_law__1412 : decode cL_law_ 1412 = .ok (.iconst 3, 1) := by decide +kernel
theorem dL_law__1413 : decode cL_law_ 1413 = .ok (.iadd, 1) := by decide +kernel
theorem dL_law__1414 : decode cL_law_ 1414 = .ok (.iaload, 1) := by decide +kernel
theorem dL_law__1415 : decode cL_law_ 1415 = .ok (.invokevirtual 203, 3) := by decide +kernel
theorem dL_law__1418 : decode cL_law_ 1418 = .ok (.istore 6, 2) := by decide +kernel
theorem dL_law__1420 : decode cL_law_ 1420 = .ok (.aload_n 2, 1) := by decide +kernel
theorem dL_law__1421 : decode cL_law_ 1421 = .ok (.invokevirtual 147, 3) := by decide +kernel
theorem dL_law__1424 : decode cL_law_ 1424 = .ok (.iload 5, 2) := by decide +kernel
theorem dL_law__1426 : decode cL_law_ 1426 = .ok (.if_icmp .eq 5, 3) := by decide +kernel
theorem dL_law__1429 : decode cL_law_ 1429 = .ok (.iconst 0, 1) := by decide +kernel
theorem dL_law__1430 : decode cL_law_ 1430 = .ok (.ireturn, 1) := by decide +kernel
theorem dL_law__1431 : decode cL_law_ 1431 = .ok (.iload 5, 2) := by decide +kernel
theorem dL_law__1433 : decode cL_law_ 1433 = .ok (.ifCond .ne 15, 3) := by decide +kernel
theorem dL_law__1436 : decode cL_law_ 1436 = .ok (.aload_n 3, 1) := by decide +kernel
theorem dL_law__1437 : decode cL_law_ 1437 = .ok (.iconst 0, 1) := by decide +kernel
theorem dL_law__1438 : decode cL_law_ 1438 = .ok (.laload, 1) := by decide +kernel
theorem dL_law__1439 : decode cL_law_ 1439 = .ok (.iload 6, 2) := by decide +kernel
theorem dL_law__1441 : decode cL_law_ 1441 = .ok (.i2l, 1) := by decide +kernel
theorem dL_law__1442 : decode cL_law_ 1442 = .ok (.lcmp, 1) := by decide +kernel
theorem dL_law__1443 : decode cL_law_ 1443 = .ok (.ifCond .eq 5, 3) := by decide +kernel
theorem dL_law__1446 : decode cL_law_ 1446 = .ok (.iconst 0, 1) := by decide +kernel
theorem dL_law__1447 : decode cL_law_ 1447 = .ok (.ireturn, 1) := by decide +kernel
theorem dL_law__1448 : decode cL_law_ 1448 = .ok (.goto 1486, 3) := by decide +kernel
theorem dL_law__1451 : decode cL_law_ 1451 = .ok (.aload_n 1, 1) := by decide +kernel
theorem dL_law__1452 : decode cL_law_ 1452 = .ok (.aload_n 0, 1) := by decide +kernel
theorem dL_law__1453 : decode cL_law_ 1453 = .ok (.iload 4, 2) := by decide +kernel
theorem dL_law__1455 : decode cL_law_ 1455 = .ok (.iconst 1, 1) := by decide +kernel
theorem dL_law__1456 : decode cL_law_ 1456 = .ok (.iadd, 1) := by decide +kernel
theorem dL_law__1457 : decode cL_law_ 1457 = .ok (.iaload, 1) := by decide +kernel
theorem dL_law__1458 : decode cL_law_ 1458 = .ok (.aload_n 0, 1) := by decide +kernel
theorem dL_law__1459 : decode cL_law_ 1459 = .ok (.iload 4, 2) := by decide +kernel
theorem dL_law__1461 : decode cL_law_ 1461 = .ok (.iconst 2, 1) := by decide +kernel
theorem dL_law__1462 : decode cL_law_ 1462 = .ok (.iadd, 1) := by decide +kernel
theorem dL_law__1463 : decode cL_law_ 1463 = .ok (.iaload, 1) := by decide +kernel
theorem dL_law__1464 : decode cL_law_ 1464 = .ok (.aload_n 0, 1) := by decide +kernel
theorem dL_law__1465 : decode cL_law_ 1465 = .ok (.iload 4, 2) := by decide +kernel
theorem dL_law__1467 : decode cL_law_ 1467 = .ok (.iconst 3, 1) := by decide +kernel
theorem dL_law__1468 : decode cL_law_ 1468 = .ok (.iadd, 1) := by decide +kernel
theorem dL_law__1469 : decode cL_law_ 1469 = .ok (.iaload, 1) := by decide +kernel
theorem dL_law__1470 : decode cL_law_ 1470 = .ok (.aload_n 0, 1) := by decide +kernel
theorem dL_law__1471 : decode cL_law_ 1471 = .ok (.iload 4, 2) := by decide +kernel
theorem dL_law__1473 : decode cL_law_ 1473 = .ok (.iconst 4, 1) := by decide +kernel
theorem dL_law__1474 : decode cL_law_ 1474 = .ok (.iadd, 1) := by decide +kernel
theorem dL_law__1475 : decode cL_law_ 1475 = .ok (.iaload, 1) := by decide +kernel
theorem dL_law__1476 : decode cL_law_ 1476 = .ok (.aload_n 0, 1) := by decide +kernel
theorem dL_law__1477 : decode cL_law_ 1477 = .ok (.iload 4, 2) := by decide +kernel
theorem dL_law__1479 : decode cL_law_ 1479 = .ok (.iconst 5, 1) := by decide +kernel
theorem dL_law__1480 : decode cL_law_ 1480 = .ok (.iadd, 1) := by decide +kernel
theorem dL_law__1481 : decode cL_law_ 1481 = .ok (.iaload, 1) := by decide +kernel
theorem dL_law__1482 : decode cL_law_ 1482 = .ok (.ifCond .eq 7, 3) := by decide +kernel
theorem dL_law__1485 : decode cL_law_ 1485 = .ok (.iconst 1, 1) := by decide +kernel
theorem dL_law__1486 : decode cL_law_ 1486 = .ok (.goto 4, 3) := by decide +kernel
theorem dL_law__1489 : decode cL_law_ 1489 = .ok (.iconst 0, 1) := by decide +kernel
theorem dL_law__1490 : decode cL_law_ 1490 = .ok (.aload_n 3, 1) := by decide +kernel
theorem dL_law__1491 : decode cL_law_ 1491 = .ok (.invokestatic 204, 3) := by decide +kernel
theorem dL_law__1494 : decode cL_law_ 1494 = .ok (.istore 5, 2) := by decide +kernel
theorem dL_law__1496 : decode cL_law_ 1496 = .ok (.aload_n 2, 1) := by decide +kernel
theorem dL_law__1497 : decode cL_law_ 1497 = .ok (.aload_n 0, 1) := by decide +kernel
theorem dL_law__1498 : decode cL_law_ 1498 = .ok (.iload 4, 2) := by decide +kernel
theorem dL_law__1500 : decode cL_law_ 1500 = .ok (.iconst 1, 1) := by decide +kernel
theorem dL_law__1501 : decode cL_law_ 1501 = .ok (.iadd, 1) := by decide +kernel
theorem dL_law__1502 : decode cL_law_ 1502 = .ok (.iaload, 1) := by decide +kernel
theorem dL_law__1503 : decode cL_law_ 1503 = .ok (.aload_n 0, 1) := by decide +kernel
theorem dL_law__1504 : decode cL_law_ 1504 = .ok (.iload 4, 2) := by decide +kernel
theorem dL_law__1506 : decode cL_law_ 1506 = .ok (.iconst 2, 1) := by decide +kernel
theorem dL_law__1507 : decode cL_law_ 1507 = .ok (.iadd, 1) := by decide +kernel
theorem dL_law__1508 : decode cL_law_ 1508 = .ok (.iaload, 1) := by decide +kernel
theorem dL_law__1509 : decode cL_law_ 1509 = .ok (.aload_n 0, 1) := by decide +kernel
theorem dL_law__1510 : decode cL_law_ 1510 = .ok (.iload 4, 2) := by decide +kernel
theorem dL_law__1512 : decode cL_law_ 1512 = .ok (.iconst 3, 1) := by decide +kernel
theorem dL_law__1513 : decode cL_law_ 1513 = .ok (.iadd, 1) := by decide +kernel
theorem dL_law__1514 : decode cL_law_ 1514 = .ok (.iaload, 1) := by decide +kernel
theorem dL_law__1515 : decode cL_law_ 1515 = .ok (.aload_n 0, 1) := by decide +kernel
theorem dL_law__1516 : decode cL_law_ 1516 = .ok (.iload 4, 2) := by decide +kernel
theorem dL_law__1518 : decode cL_law_ 1518 = .ok (.iconst 4, 1) := by decide +kernel
theorem dL_law__1519 : decode cL_law_ 1519 = .ok (.iadd, 1) := by decide +kernel
theorem dL_law__1520 : decode cL_law_ 1520 = .ok (.iaload, 1) := by decide +kernel
theorem dL_law__1521 : decode cL_law_ 1521 = .ok (.aload_n 0, 1) := by decide +kernel
theorem dL_law__1522 : decode cL_law_ 1522 = .ok (.iload 4, 2) := by decide +kernel
theorem dL_law__1524 : decode cL_law_ 1524 = .ok (.iconst 5, 1) := by decide +kernel
theorem dL_law__1525 : decode cL_law_ 1525 = .ok (.iadd, 1) := by decide +kernel
theorem dL_law__1526 : decode cL_law_ 1526 = .ok (.iaload, 1) := by decide +kernel
theorem dL_law__1527 : decode cL_law_ 1527 = .ok (.ifCond .eq 7, 3) := by decide +kernel
theorem dL_law__1530 : decode cL_law_ 1530 = .ok (.iconst 1, 1) := by decide +kernel
theorem dL_law__1531 : decode cL_law_ 1531 = .ok (.goto 4, 3) := by decide +kernel
theorem dL_law__1534 : decode cL_law_ 1534 = .ok (.iconst 0, 1) := by decide +kernel
theorem dL_law__1535 : decode cL_law_ 1535 = .ok (.invokevirtual 207, 3) := by decide +kernel
theorem dL_law__1538 : decode cL_law_ 1538 = .ok (.istore 6, 2) := by decide +kernel
theorem dL_law__1540 : decode cL_law_ 1540 = .ok (.aload_n 2, 1) := by decide +kernel
theorem dL_law__1541 : decode cL_law_ 1541 = .ok (.invokevirtual 147, 3) := by decide +kernel
theorem dL_law__1544 : decode cL_law_ 1544 = .ok (.iload 5, 2) := by decide +kernel
theorem dL_law__1546 : decode cL_law_ 1546 = .ok (.if_icmp .eq 5, 3) := by decide +kernel
theorem dL_law__1549 : decode cL_law_ 1549 = .ok (.iconst 0, 1) := by decide +kernel
theorem dL_law__1550 : decode cL_law_ 1550 = .ok (.ireturn, 1) := by decide +kernel
