/-! decode rows: the law -/
theorem d289_873 : decode code 873 = .ok (.iload 5, 2) := by decide +kernel
theorem d289_875 : decode code 875 = .ok (.iconst 1, 1) := by decide +kernel
theorem d289_876 : decode code 876 = .ok (.iadd, 1) := by decide +kernel
theorem d289_877 : decode code 877 = .ok (.iaload, 1) := by decide +kernel
theorem d289_878 : decode code 878 = .ok (.aload_n 0, 1) := by decide +kernel
theorem d289_879 : decode code 879 = .ok (.iload 5, 2) := by decide +kernel
theorem d289_881 : decode code 881 = .ok (.iconst 2, 1) := by decide +kernel
theorem d289_882 : decode code 882 = .ok (.iadd, 1) := by decide +kernel
theorem d289_883 : decode code 883 = .ok (.iaload, 1) := by decide +kernel
theorem d289_884 : decode code 884 = .ok (.invokevirtual 202, 3) := by decide +kernel
theorem d289_887 : decode code 887 = .ok (.istore 7, 2) := by decide +kernel
theorem d289_889 : decode code 889 = .ok (.aload_n 2, 1) := by decide +kernel
theorem d289_890 : decode code 890 = .ok (.invokevirtual 172, 3) := by decide +kernel
theorem d289_893 : decode code 893 = .ok (.iload 6, 2) := by decide +kernel
theorem d289_895 : decode code 895 = .ok (.if_icmp .eq 5, 3) := by decide +kernel
theorem d289_898 : decode code 898 = .ok (.iconst 0, 1) := by decide +kernel
theorem d289_899 : decode code 899 = .ok (.ireturn, 1) := by decide +kernel
theorem d289_900 : decode code 900 = .ok (.iload 6, 2) := by decide +kernel
theorem d289_902 : decode code 902 = .ok (.ifCond .ne 15, 3) := by decide +kernel
theorem d289_905 : decode code 905 = .ok (.aload_n 3, 1) := by decide +kernel
theorem d289_906 : decode code 906 = .ok (.iconst 0, 1) := by decide +kernel
theorem d289_907 : decode code 907 = .ok (.laload, 1) := by decide +kernel
theorem d289_908 : decode code 908 = .ok (.iload 7, 2) := by decide +kernel
theorem d289_910 : decode code 910 = .ok (.i2l, 1) := by decide +kernel
theorem d289_911 : decode code 911 = .ok (.lcmp, 1) := by decide +kernel
theorem d289_912 : decode code 912 = .ok (.ifCond .eq 5, 3) := by decide +kernel
theorem d289_915 : decode code 915 = .ok (.iconst 0, 1) := by decide +kernel
theorem d289_916 : decode code 916 = .ok (.ireturn, 1) := by decide +kernel
theorem d289_917 : decode code 917 = .ok (.goto 2084, 3) := by decide +kernel
theorem d289_920 : decode code 920 = .ok (.aload_n 1, 1) := by decide +kernel
theorem d289_921 : decode code 921 = .ok (.aload_n 0, 1) := by decide +kernel
theorem d289_922 : decode code 922 = .ok (.iload 5, 2) := by decide +kernel
theorem d289_924 : decode code 924 = .ok (.iconst 1, 1) := by decide +kernel
theorem d289_925 : decode code 925 = .ok (.iadd, 1) := by decide +kernel
theorem d289_926 : decode code 926 = .ok (.iaload, 1) := by decide +kernel
theorem d289_927 : decode code 927 = .ok (.aload_n 3, 1) := by decide +kernel
theorem d289_928 : decode code 928 = .ok (.invokestatic 203, 3) := by decide +kernel
theorem d289_931 : decode code 931 = .ok (.istore 6, 2) := by decide +kernel
theorem d289_933 : decode code 933 = .ok (.aload_n 2, 1) := by decide +kernel
theorem d289_934 : decode code 934 = .ok (.aload_n 0, 1) := by decide +kernel
theorem d289_935 : decode code 935 = .ok (.iload 5, 2) := by decide +kernel
theorem d289_937 : decode code 937 = .ok (.iconst 1, 1) := by decide +kernel
theorem d289_938 : decode code 938 = .ok (.iadd, 1) := by decide +kernel
theorem d289_939 : decode code 939 = .ok (.iaload, 1) := by decide +kernel
theorem d289_940 : decode code 940 = .ok (.invokevirtual 205, 3) := by decide +kernel
theorem d289_943 : decode code 943 = .ok (.istore 7, 2) := by decide +kernel
theorem d289_945 : decode code 945 = .ok (.aload_n 2, 1) := by decide +kernel
theorem d289_946 : decode code 946 = .ok (.invokevirtual 172, 3) := by decide +kernel
theorem d289_949 : decode code 949 = .ok (.iload 6, 2) := by decide +kernel
theorem d289_951 : decode code 951 = .ok (.if_icmp .eq 5, 3) := by decide +kernel
theorem d289_954 : decode code 954 = .ok (.iconst 0, 1) := by decide +kernel
theorem d289_955 : decode code 955 = .ok (.ireturn, 1) := by decide +kernel
theorem d289_956 : decode code 956 = .ok (.iload 6, 2) := by decide +kernel
theorem d289_958 : decode code 958 = .ok (.ifCond .ne 15, 3) := by decide +kernel
theorem d289_961 : decode code 961 = .ok (.aload_n 3, 1) := by decide +kernel
theorem d289_962 : decode code 962 = .ok (.iconst 0, 1) := by decide +kernel
theorem d289_963 : decode code 963 = .ok (.laload, 1) := by decide +kernel
theorem d289_964 : decode code 964 = .ok (.iload 7, 2) := by decide +kernel
theorem d289_966 : decode code 966 = .ok (.i2l, 1) := by decide +kernel
theorem d289_967 : decode code 967 = .ok (.lcmp, 1) := by decide +kernel
theorem d289_968 : decode code 968 = .ok (.ifCond .eq 5, 3) := by decide +kernel
theorem d289_971 : decode code 971 = .ok (.iconst 0, 1) := by decide +kernel
theorem d289_972 : decode code 972 = .ok (.ireturn, 1) := by decide +kernel
theorem d289_973 : decode code 973 = .ok (.goto 2028, 3) := by decide +kernel
theorem d289_976 : decode code 976 = .ok (.aload_n 1, 1) := by decide +kernel
theorem d289_977 : decode code 977 = .ok (.aload_n 0, 1) := by decide +kernel
theorem d289_978 : decode code 978 = .ok (.iload 5, 2) := by decide +kernel
theorem d289_980 : decode code 980 = .ok (.iconst 1, 1) := by decide +kernel
theorem d289_981 : decode code 981 = .ok (.iadd, 1) := by decide +kernel
theorem d289_982 : decode code 982 = .ok (.iaload, 1) := by decide +kernel
theorem d289_983 : decode code 983 = .ok (.aload_n 0, 1) := by decide +kernel
theorem d289_984 : decode code 984 = .ok (.iload 5, 2) := by decide +kernel
theorem d289_986 : decode code 986 = .ok (.iconst 2, 1) := by decide +kernel
theorem d289_987 : decode code 987 = .ok (.iadd, 1) := by decide +kernel
theorem d289_988 : decode code 988 = .ok (.iaload, 1) := by decide +kernel
theorem d289_989 : decode code 989 = .ok (.aload_n 3, 1) := by decide +kernel
theorem d289_990 : decode code 990 = .ok (.invokestatic 206, 3) := by decide +kernel
theorem d289_993 : decode code 993 = .ok (.istore 6, 2) := by decide +kernel
theorem d289_995 : decode code 995 = .ok (.aload_n 2, 1) := by decide +kernel
theorem d289_996 : decode code 996 = .ok (.aload_n 0, 1) := by decide +kernel
theorem d289_997 : decode code 997 = .ok (.iload 5, 2) := by decide +kernel
theorem d289_999 : decode code 999 = .ok (.iconst 1, 1) := by decide +kernel
theorem d289_1000 : decode code 1000 = .ok (.iadd, 1) := by decide +kernel
theorem d289_1001 : decode code 1001 = .ok (.iaload, 1) := by decide +kernel
theorem d289_1002 : decode code 1002 = .ok (.aload_n 0, 1) := by decide +kernel
theorem d289_1003 : decode code 1003 = .ok (.iload 5, 2) := by decide +kernel
theorem d289_1005 : decode code 1005 = .ok (.iconst 2, 1) := by decide +kernel
theorem d289_1006 : decode code 1006 = .ok (.iadd, 1) := by decide +kernel
theorem d289_1007 : decode code 1007 = .ok (.iaload, 1) := by decide +kernel
theorem d289_1008 : decode code 1008 = .ok (.invokevirtual 208, 3) := by decide +kernel
theorem d289_1011 : decode code 1011 = .ok (.istore 7, 2) := by decide +kernel
theorem d289_1013 : decode code 1013 = .ok (.aload_n 2, 1) := by decide +kernel
theorem d289_1014 : decode code 1014 = .ok (.invokevirtual 172, 3) := by decide +kernel
theorem d289_1017 : decode code 1017 = .ok (.iload 6, 2) := by decide +kernel
theorem d289_1019 : decode code 1019 = .ok (.if_icmp .eq 5, 3) := by decide +kernel
theorem d289_1022 : decode code 1022 = .ok (.iconst 0, 1) := by decide +kernel
theorem d289_1023 : decode code 1023 = .ok (.ireturn, 1) := by decide +kernel
theorem d289_1024 : decode code 1024 = .ok (.iload 6, 2) := by decide +kernel
theorem d289_1026 : decode code 1026 = .ok (.ifCond .ne 15, 3) := by decide +kernel
theorem d289_1029 : decode code 1029 = .ok (.aload_n 3, 1) := by decide +kernel
theorem d289_1030 : decode code 1030 = .ok (.iconst 0, 1) := by decide +kernel
theorem d289_1031 : decode code 1031 = .ok (.laload, 1) := by decide +kernel
theorem d289_1032 : decode code 1032 = .ok (.iload 7, 2) := by decide +kernel
theorem d289_1034 : decode code 1034 = .ok (.i2l, 1) := by decide +kernel
theorem d289_1035 : decode code 1035 = .ok (.lcmp, 1) := by decide +kernel
theorem d289_1036 : decode code 1036 = .ok (.ifCond .eq 5, 3) := by decide +kernel
theorem d289_1039 : decode code 1039 = .ok (.iconst 0, 1) := by decide +kernel
theorem d289_1040 : decode code 1040 = .ok (.ireturn, 1) := by decide +kernel
theorem d289_1041 : decode code 1041 = .ok (.goto 1960, 3) := by decide +kernel
theorem d289_1044 : decode code 1044 = .ok (.aload_n 1, 1) := by decide +kernel
theorem d289_1045 : decode code 1045 = .ok (.invokevirtual 209, 3) := by decide +kernel
theorem d289_1048 : decode code 1048 = .ok (.aload_n 2, 1) := by decide +kernel
theorem d289_1049 : decode code 1049 = .ok (.invokevirtual 212, 3) := by decide +kernel
theorem d289_1052 : decode code 1052 = .ok (.if_icmp .eq 1949, 3) := by decide +kernel
theorem d289_1055 : decode code 1055 = .ok (.iconst 0, 1) := by decide +kernel
theorem d289_1056 : decode code 1056 = .ok (.ireturn, 1) := by decide +kernel
theorem d289_1057 : decode code 1057 = .ok (.aload_n 1, 1) := by decide +kernel
theorem d289_1058 : decode code 1058 = .ok (.aload_n 0, 1) := by decide +kernel
theorem d289_1059 : decode code 1059 = .ok (.iload 5, 2) := by decide +kernel
theorem d289_1061 : decode code 1061 = .ok (.iconst 1, 1) := by decide +kernel
theorem d289_1062 : decode code 1062 = .ok (.iadd, 1) := by decide +kernel
theorem d289_1063 : decode code 1063 = .ok (.iaload, 1) := by decide +kernel
theorem d289_1064 : decode code 1064 = .ok (.invokevirtual 213, 3) := by decide +kernel
theorem d289_1067 : decode code 1067 = .ok (.aload_n 2, 1) := by decide +kernel
theorem d289_1068 : decode code 1068 = .ok (.aload_n 0, 1) := by decide +kernel
theorem d289_1069 : decode code 1069 = .ok (.iload 5, 2) := by decide +kernel
theorem d289_1071 : decode code 1071 = .ok (.iconst 1, 1) := by decide +kernel
theorem d289_1072 : decode code 1072 = .ok (.iadd, 1) := by decide +kernel
theorem d289_1073 : decode code 1073 = .ok (.iaload, 1) := by decide +kernel
theorem d289_1074 : decode code 1074 = .ok (.invokevirtual 216, 3) := by decide +kernel
theorem d289_1077 : decode code 1077 = .ok (.if_icmp .eq 1924, 3) := by decide +kernel
theorem d289_1080 : decode code 1080 = .ok (.iconst 0, 1) := by decide +kernel
theorem d289_1081 : decode code 1081 = .ok (.ireturn, 1) := by decide +kernel
theorem d289_1082 : decode code 1082 = .ok (.aload_n 1, 1) := by decide +kernel
theorem d289_1083 : decode code 1083 = .ok (.aload_n 0, 1) := by decide +kernel
theorem d289_1084 : decode code 1084 = .ok (.iload 5, 2) := by decide +kernel
theorem d289_1086 : decode code 1086 = .ok (.iconst 1, 1) := by decide +kernel
theorem d289_1087 : decode code 1087 = .ok (.iadd, 1) := by decide +kernel
theorem d289_1088 : decode code 1088 = .ok (.iaload, 1) := by decide +kernel
theorem d289_1089 : decode code 1089 = .ok (.aload_n 3, 1) := by decide +kernel
theorem d289_1090 : decode code 1090 = .ok (.invokestatic 217, 3) := by decide +kernel
theorem d289_1093 : decode code 1093 = .ok (.istore 6, 2) := by decide +kernel
theorem d289_1095 : decode code 1095 = .ok (.aload_n 2, 1) := by decide +kernel
theorem d289_1096 : decode code 1096 = .ok (.aload_n 0, 1) := by decide +kernel
theorem d289_1097 : decode code 1097 = .ok (.iload 5, 2) := by decide +kernel
theorem d289_1099 : decode code 1099 = .ok (.iconst 1, 1) := by decide +kernel
theorem d289_1100 : decode code 1100 = .ok (.iadd, 1) := by decide +kernel
theorem d289_1101 : decode code 1101 = .ok (.iaload, 1) := by decide +kernel
theorem d289_1102 : decode code 1102 = .ok (.invokevirtual 219, 3) := by decide +kernel
theorem d289_1105 : decode code 1105 = .ok (.istore 7, 2) := by decide +kernel
theorem d289_1107 : decode code 1107 = .ok (.aload_n 2, 1) := by decide +kernel
theorem d289_1108 : decode code 1108 = .ok (.invokevirtual 172, 3) := by decide +kernel
theorem d289_1111 : decode code 1111 = .ok (.iload 6, 2) := by decide +kernel
theorem d289_1113 : decode code 1113 = .ok (.if_icmp .eq 5, 3) := by decide +kernel
theorem d289_1116 : decode code 1116 = .ok (.iconst 0, 1) := by decide +kernel
theorem d289_1117 : decode code 1117 = .ok (.ireturn, 1) := by decide +kernel
theorem d289_1118 : decode code 1118 = .ok (.iload 6, 2) := by decide +kernel
theorem d289_1120 : decode code 1120 = .ok (.ifCond .ne 15, 3) := by decide +kernel
theorem d289_1123 : decode code 1123 = .ok (.aload_n 3, 1) := by decide +kernel
theorem d289_1124 : decode code 1124 = .ok (.iconst 0, 1) := by decide +kernel
theorem d289_1125 : decode code 1125 = .ok (.laload, 1) := by decide +kernel
theorem d289_1126 : decode code 1126 = .ok (.iload 7, 2) := by decide +kernel
theorem d289_1128 : decode code 1128 = .ok (.i2l, 1) := by decide +kernel
theorem d289_1129 : decode code 1129 = .ok (.lcmp, 1) := by decide +kernel
theorem d289_1130 : decode code 1130 = .ok (.ifCond .eq 5, 3) := by decide +kernel
theorem d289_1133 : decode code 1133 = .ok (.iconst 0, 1) := by decide +kernel
theorem d289_1134 : decode code 1134 = .ok (.ireturn, 1) := by decide +kernel
theorem d289_1135 : decode code 1135 = .ok (.goto 1866, 3) := by decide +kernel
theorem d289_1138 : decode code 1138 = .ok (.aload_n 1, 1) := by decide +kernel
theorem d289_1139 : decode code 1139 = .ok (.aload_n 0, 1) := by decide +kernel
theorem d289_1140 : decode code 1140 = .ok (.iload 5, 2) := by decide +kernel
theorem d289_1142 : decode code 1142 = .ok (.iconst 1, 1) := by decide +kernel
theorem d289_1143 : decode code 1143 = .ok (.iadd, 1) := by decide +kernel
theorem d289_1144 : decode code 1144 = .ok (.iaload, 1) := by decide +kernel
theorem d289_1145 : decode code 1145 = .ok (.aload_n 3, 1) := by decide +kernel
theorem d289_1146 : decode code 1146 = .ok (.invokestatic 220, 3) := by decide +kernel
theorem d289_1149 : decode code 1149 = .ok (.istore 6, 2) := by decide +kernel
theorem d289_1151 : decode code 1151 = .ok (.aload_n 2, 1) := by decide +kernel
theorem d289_1152 : decode code 1152 = .ok (.aload_n 0, 1) := by decide +kernel
theorem d289_1153 : decode code 1153 = .ok (.iload 5, 2) := by decide +kernel
theorem d289_1155 : decode code 1155 = .ok (.iconst 1, 1) := by decide +kernel
theorem d289_1156 : decode code 1156 = .ok (.iadd, 1) := by decide +kernel
theorem d289_1157 : decode code 1157 = .ok (.iaload, 1) := by decide +kernel
theorem d289_1158 : decode code 1158 = .ok (.invokevirtual 222, 3) := by decide +kernel
theorem d289_1161 : decode code 1161 = .ok (.istore 7, 2) := by decide +kernel
theorem d289_1163 : decode code 1163 = .ok (.aload_n 2, 1) := by decide +kernel
theorem d289_1164 : decode code 1164 = .ok (.invokevirtual 172, 3) := by decide +kernel
theorem d289_1167 : decode code 1167 = .ok (.iload 6, 2) := by decide +kernel
theorem d289_1169 : decode code 1169 = .ok (.if_icmp .eq 5, 3) := by decide +kernel
theorem d289_1172 : decode code 1172 = .ok (.iconst 0, 1) := by decide +kernel
theorem d289_1173 : decode code 1173 = .ok (.ireturn, 1) := by decide +kernel
theorem d289_1174 : decode code 1174 = .ok (.iload 6, 2) := by decide +kernel
theorem d289_1176 : decode code 1176 = .ok (.ifCond .ne 15, 3) := by decide +kernel
theorem d289_1179 : decode code 1179 = .ok (.aload_n 3, 1) := by decide +kernel
theorem d289_1180 : decode code 1180 = .ok (.iconst 0, 1) := by decide +kernel
theorem d289_1181 : decode code 1181 = .ok (.laload, 1) := by decide +kernel
theorem d289_1182 : decode code 1182 = .ok (.iload 7, 2) := by decide +kernel
theorem d289_1184 : decode code 1184 = .ok (.i2l, 1) := by decide +kernel
theorem d289_1185 : decode code 1185 = .ok (.lcmp, 1) := by decide +kernel
theorem d289_1186 : decode code 1186 = .ok (.ifCond .eq 5, 3) := by decide +kernel
theorem d289_1189 : decode code 1189 = .ok (.iconst 0, 1) := by decide +kernel
theorem d289_1190 : decode code 1190 = .ok (.ireturn, 1) := by decide +kernel
theorem d289_1191 : decode code 1191 = .ok (.goto 1810, 3) := by decide +kernel
theorem d289_1194 : decode code 1194 = .ok (.aload_n 1, 1) := by decide +kernel
theorem d289_1195 : decode code 1195 = .ok (.aload_n 0, 1) := by decide +kernel
theorem d289_1196 : decode code 1196 = .ok (.iload 5, 2) := by decide +kernel
theorem d289_1198 : decode code 1198 = .ok (.iconst 1, 1) := by decide +kernel
theorem d289_1199 : decode code 1199 = .ok (.iadd, 1) := by decide +kernel
theorem d289_1200 : decode code 1200 = .ok (.iaload, 1) := by decide +kernel
theorem d289_1201 : decode code 1201 = .ok (.aload_n 3, 1) := by decide +kernel
theorem d289_1202 : decode code 1202 = .ok (.invokestatic 223, 3) := by decide +kernel
theorem d289_1205 : decode code 1205 = .ok (.istore 6, 2) := by decide +kernel
theorem d289_1207 : decode code 1207 = .ok (.aload_n 2, 1) := by decide +kernel
theorem d289_1208 : decode code 1208 = .ok (.aload_n 0, 1) := by decide +kernel
theorem d289_1209 : decode code 1209 = .ok (.iload 5, 2) := by decide +kernel
theorem d289_1211 : decode code 1211 = .ok (.iconst 1, 1) := by decide +kernel
theorem d289_1212 : decode code 1212 = .ok (.iadd, 1) := by decide +kernel
theorem d289_1213 : decode code 1213 = .ok (.iaload, 1) := by decide +kernel
theorem d289_1214 : decode code 1214 = .ok (.invokevirtual 225, 3) := by decide +kernel
theorem d289_1217 : decode code 1217 = .ok (.istore 7, 2) := by decide +kernel
theorem d289_1219 : decode code 1219 = .ok (.aload_n 2, 1) := by decide +kernel
theorem d289_1220 : decode code 1220 = .ok (.invokevirtual 172, 3) := by decide +kernel
theorem d289_1223 : decode code 1223 = .ok (.iload 6, 2) := by decide +kernel
theorem d289_1225 : decode code 1225 = .ok (.if_icmp .eq 5, 3) := by decide +kernel
theorem d289_1228 : decode code 1228 = .ok (.iconst 0, 1) := by decide +kernel
theorem d289_1229 : decode code 1229 = .ok (.ireturn, 1) := by decide +kernel
theorem d289_1230 : decode code 1230 = .ok (.iload 6, 2) := by decide +kernel
theorem d289_1232 : decode code 1232 = .ok (.ifCond .ne 15, 3) := by decide +kernel
theorem d289_1235 : decode code 1235 = .ok (.aload_n 3, 1) := by decide +kernel
theorem d289_1236 : decode code 1236 = .ok (.iconst 0, 1) := by decide +kernel
theorem d289_1237 : decode code 1237 = .ok (.laload, 1) := by decide +kernel
theorem d289_1238 : decode code 1238 = .ok (.iload 7, 2) := by decide +kernel
theorem d289_1240 : decode code 1240 = .ok (.i2l, 1) := by decide +kernel
theorem d289_1241 : decode code 1241 = .ok (.lcmp, 1) := by decide +kernel
theorem d289_1242 : decode code 1242 = .ok (.ifCond .eq 5, 3) := by decide +kernel
theorem d289_1245 : decode code 1245 = .ok (.iconst 0, 1) := by decide +kernel
theorem d289_1246 : decode code 1246 = .ok (.ireturn, 1) := by decide +kernel
theorem d289_1247 : decode code 1247 = .ok (.goto 1754, 3) := by decide +kernel
theorem d289_1250 : decode code 1250 = .ok (.aload_n 1, 1) := by decide +kernel
theorem d289_1251 : decode code 1251 = .ok (.aload_n 0, 1) := by decide +kernel
theorem d289_1252 : decode code 1252 = .ok (.iload 5, 2) := by decide +kernel
theorem d289_1254 : decode code 1254 = .ok (.iconst 1, 1) := by decide +kernel
theorem d289_1255 : decode code 1255 = .ok (.iadd, 1) := by decide +kernel
theorem d289_1256 : decode code 1256 = .ok (.iaload, 1) := by decide +kernel
theorem d289_1257 : decode code 1257 = .ok (.aload_n 3, 1) := by decide +kernel
theorem d289_1258 : decode code 1258 = .ok (.invokestatic 226, 3) := by decide +kernel
theorem d289_1261 : decode code 1261 = .ok (.istore 6, 2) := by decide +kernel
theorem d289_1263 : decode code 1263 = .ok (.aload_n 2, 1) := by decide +kernel
theorem d289_1264 : decode code 1264 = .ok (.aload_n 0, 1) := by decide +kernel
theorem d289_1265 : decode code 1265 = .ok (.iload 5, 2) := by decide +kernel
theorem d289_1267 : decode code 1267 = .ok (.iconst 1, 1) := by decide +kernel
theorem d289_1268 : decode code 1268 = .ok (.iadd, 1) := by decide +kernel
theorem d289_1269 : decode code 1269 = .ok (.iaload, 1) := by decide +kernel
theorem d289_1270 : decode code 1270 = .ok (.invokevirtual 228, 3) := by decide +kernel
theorem d289_1273 : decode code 1273 = .ok (.istore 7, 2) := by decide +kernel
theorem d289_1275 : decode code 1275 = .ok (.aload_n 2, 1) := by decide +kernel
theorem d289_1276 : decode code 1276 = .ok (.invokevirtual 172, 3) := by decide +kernel
theorem d289_1279 : decode code 1279 = .ok (.iload 6, 2) := by decide +kernel
theorem d289_1281 : decode code 1281 = .ok (.if_icmp .eq 5, 3) := by decide +kernel
theorem d289_1284 : decode code 1284 = .ok (.iconst 0, 1) := by decide +kernel
theorem d289_1285 : decode code 1285 = .ok (.ireturn, 1) := by decide +kernel
theorem d289_1286 : decode code 1286 = .ok (.iload 6, 2) := by decide +kernel
theorem d289_1288 : decode code 1288 = .ok (.ifCond .ne 15, 3) := by decide +kernel
theorem d289_1291 : decode code 1291 = .ok (.aload_n 3, 1) := by decide +kernel
theorem d289_1292 : decode code 1292 = .ok (.iconst 0, 1) := by decide +kernel
theorem d289_1293 : decode code 1293 = .ok (.laload, 1) := by decide +kernel
theorem d289_1294 : decode code 1294 = .ok (.iload 7, 2) := by decide +kernel
theorem d289_1296 : decode code 1296 = .ok (.i2l, 1) := by decide +kernel
theorem d289_1297 : decode code 1297 = .ok (.lcmp, 1) := by decide +kernel
theorem d289_1298 : decode code 1298 = .ok (.ifCond .eq 5, 3) := by decide +kernel
theorem d289_1301 : decode code 1301 = .ok (.iconst 0, 1) := by decide +kernel
theorem d289_1302 : decode code 1302 = .ok (.ireturn, 1) := by decide +kernel
theorem d289_1303 : decode code 1303 = .ok (.goto 1698, 3) := by decide +kernel
theorem d289_1306 : decode code 1306 = .ok (.aload_n 1, 1) := by decide +kernel
theorem d289_1307 : decode code 1307 = .ok (.aload_n 0, 1) := by decide +kernel
theorem d289_1308 : decode code 1308 = .ok (.iload 5, 2) := by decide +kernel
theorem d289_1310 : decode code 1310 = .ok (.iconst 1, 1) := by decide +kernel
theorem d289_1311 : decode code 1311 = .ok (.iadd, 1) := by decide +kernel
theorem d289_1312 : decode code 1312 = .ok (.iaload, 1) := by decide +kernel
theorem d289_1313 : decode code 1313 = .ok (.aload_n 3, 1) := by decide +kernel
theorem d289_1314 : decode code 1314 = .ok (.invokestatic 229, 3) := by decide +kernel
theorem d289_1317 : decode code 1317 = .ok (.istore 6, 2) := by decide +kernel
theorem d289_1319 : decode code 1319 = .ok (.aload_n 2, 1) := by decide +kernel
theorem d289_1320 : decode code 1320 = .ok (.aload_n 0, 1) := by decide +kernel
theorem d289_1321 : decode code 1321 = .ok (.iload 5, 2) := by decide +kernel
theorem d289_1323 : decode code 1323 = .ok (.iconst 1, 1) := by decide +kernel
theorem d289_1324 : decode code 1324 = .ok (.iadd, 1) := by decide +kernel
theorem d289_1325 : decode code 1325 = .ok (.iaload, 1) := by decide +kernel
theorem d289_1326 : decode code 1326 = .ok (.invokevirtual 231, 3) := by decide +kernel
theorem d289_1329 : decode code 1329 = .ok (.istore 7, 2) := by decide +kernel
theorem d289_1331 : decode code 1331 = .ok (.aload_n 2, 1) := by decide +kernel
theorem d289_1332 : decode code 1332 = .ok (.invokevirtual 172, 3) := by decide +kernel
theorem d289_1335 : decode code 1335 = .ok (.iload 6, 2) := by decide +kernel
theorem d289_1337 : decode code 1337 = .ok (.if_icmp .eq 5, 3) := by decide +kernel
theorem d289_1340 : decode code 1340 = .ok (.iconst 0, 1) := by decide +kernel
theorem d289_1341 : decode code 1341 = .ok (.ireturn, 1) := by decide +kernel
theorem d289_1342 : decode code 1342 = .ok (.iload 6, 2) := by decide +kernel
theorem d289_1344 : decode code 1344 = .ok (.ifCond .ne 15, 3) := by decide +kernel
theorem d289_1347 : decode code 1347 = .ok (.aload_n 3, 1) := by decide +kernel
theorem d289_1348 : decode code 1348 = .ok (.iconst 0, 1) := by decide +kernel
theorem d289_1349 : decode code 1349 = .ok (.laload, 1) := by decide +kernel
theorem d289_1350 : decode code 1350 = .ok (.iload 7, 2) := by decide +kernel
theorem d289_1352 : decode code 1352 = .ok (.i2l, 1) := by decide +kernel
theorem d289_1353 : decode code 1353 = .ok (.lcmp, 1) := by decide +kernel
theorem d289_1354 : decode code 1354 = .ok (.ifCond .eq 5, 3) := by decide +kernel
theorem d289_1357 : decode code 1357 = .ok (.iconst 0, 1) := by decide +kernel
theorem d289_1358 : decode code 1358 = .ok (.ireturn, 1) := by decide +kernel
theorem d289_1359 : decode code 1359 = .ok (.goto 1642, 3) := by decide +kernel
theorem d289_1362 : decode code 1362 = .ok (.aload_n 1, 1) := by decide +kernel
theorem d289_1363 : decode code 1363 = .ok (.aload_n 0, 1) := by decide +kernel
theorem d289_1364 : decode code 1364 = .ok (.iload 5, 2) := by decide +kernel
theorem d289_1366 : decode code 1366 = .ok (.iconst 1, 1) := by decide +kernel
theorem d289_1367 : decode code 1367 = .ok (.iadd, 1) := by decide +kernel
theorem d289_1368 : decode code 1368 = .ok (.iaload, 1) := by decide +kernel
theorem d289_1369 : decode code 1369 = .ok (.i2c, 1) := by decide +kernel
theorem d289_1370 : decode code 1370 = .ok (.aload_n 3, 1) := by decide +kernel
theorem d289_1371 : decode code 1371 = .ok (.invokestatic 232, 3) := by decide +kernel
theorem d289_1374 : decode code 1374 = .ok (.istore 6, 2) := by decide +kernel
theorem d289_1376 : decode code 1376 = .ok (.aload_n 2, 1) := by decide +kernel
theorem d289_1377 : decode code 1377 = .ok (.aload_n 0, 1) := by decide +kernel
theorem d289_1378 : decode code 1378 = .ok (.iload 5, 2) := by decide +kernel
theorem d289_1380 : decode code 1380 = .ok (.iconst 1, 1) := by decide +kernel
theorem d289_1381 : decode code 1381 = .ok (.iadd, 1) := by decide +kernel
theorem d289_1382 : decode code 1382 = .ok (.iaload, 1) := by decide +kernel
theorem d289_1383 : decode code 1383 = .ok (.i2c, 1) := by decide +kernel
theorem d289_1384 : decode code 1384 = .ok (.invokevirtual 235, 3) := by decide +kernel
theorem d289_1387 : decode code 1387 = .ok (.istore 7, 2) := by decide +kernel
theorem d289_1389 : decode code 1389 = .ok (.aload_n 2, 1) := by decide +kernel
theorem d289_1390 : decode code 1390 = .ok (.invokevirtual 172, 3) := by decide +kernel
theorem d289_1393 : decode code 1393 = .ok (.iload 6, 2) := by decide +kernel
theorem d289_1395 : decode code 1395 = .ok (.if_icmp .eq 5, 3) := by decide +kernel
theorem d289_1398 : decode code 1398 = .ok (.iconst 0, 1) := by decide +kernel
theorem d289_1399 : decode code 1399 = .ok (.ireturn, 1) := by decide +kernel
theorem d289_1400 : decode code 1400 = .ok (.iload 6, 2) := by decide +kernel
theorem d289_1402 : decode code 1402 = .ok (.ifCond .ne 15, 3) := by decide +kernel
theorem d289_1405 : decode code 1405 = .ok (.aload_n 3, 1) := by decide +kernel
theorem d289_1406 : decode code 1406 = .ok (.iconst 0, 1) := by decide +kernel
theorem d289_1407 : decode code 1407 = .ok (.laload, 1) := by decide +kernel
theorem d289_1408 : decode code 1408 = .ok (.iload 7, 2) := by decide +kernel
theorem d289_1410 : decode code 1410 = .ok (.i2l, 1) := by decide +kernel
theorem d289_1411 : decode code 1411 = .ok (.lcmp, 1) := by decide +kernel
theorem d289_1412 : decode code 1412 = .ok (.ifCond .eq 5, 3) := by decide +kernel
theorem d289_1415 : decode code 1415 = .ok (.iconst 0, 1) := by decide +kernel
theorem d289_1416 : decode code 1416 = .ok (.ireturn, 1) := by decide +kernel
theorem d289_1417 : decode code 1417 = .ok (.goto 1584, 3) := by decide +kernel
theorem d289_1420 : decode code 1420 = .ok (.aload_n 1, 1) := by decide +kernel
theorem d289_1421 : decode code 1421 = .ok (.aload_n 0, 1) := by decide +kernel
theorem d289_1422 : decode code 1422 = .ok (.iload 5, 2) := by decide +kernel
theorem d289_1424 : decode code 1424 = .ok (.iconst 1, 1) := by decide +kernel
theorem d289_1425 : decode code 1425 = .ok (.iadd, 1) := by decide +kernel
theorem d289_1426 : decode code 1426 = .ok (.iaload, 1) := by decide +kernel
theorem d289_1427 : decode code 1427 = .ok (.aload_n 0, 1) := by decide +kernel
theorem d289_1428 : decode code 1428 = .ok (.iload 5, 2) := by decide +kernel
theorem d289_1430 : decode code 1430 = .ok (.iconst 2, 1) := by decide +kernel
theorem d289_1431 : decode code 1431 = .ok (.iadd, 1) := by decide +kernel
theorem d289_1432 : decode code 1432 = .ok (.iaload, 1) := by decide +kernel
theorem d289_1433 : decode code 1433 = .ok (.i2c, 1) := by decide +kernel
theorem d289_1434 : decode code 1434 = .ok (.aload_n 3, 1) := by decide +kernel
theorem d289_1435 : decode code 1435 = .ok (.invokestatic 236, 3) := by decide +kernel
theorem d289_1438 : decode code 1438 = .ok (.istore 6, 2) := by decide +kernel
theorem d289_1440 : decode code 1440 = .ok (.aload_n 2, 1) := by decide +kernel
theorem d289_1441 : decode code 1441 = .ok (.aload_n 0, 1) := by decide +kernel
theorem d289_1442 : decode code 1442 = .ok (.iload 5, 2) := by decide +kernel
theorem d289_1444 : decode code 1444 = .ok (.iconst 1, 1) := by decide +kernel
theorem d289_1445 : decode code 1445 = .ok (.iadd, 1) := by decide +kernel
theorem d289_1446 : decode code 1446 = .ok (.iaload, 1) := by decide +kernel
theorem d289_1447 : decode code 1447 = .ok (.aload_n 0, 1) := by decide +kernel
theorem d289_1448 : decode code 1448 = .ok (.iload 5, 2) := by decide +kernel
theorem d289_1450 : decode code 1450 = .ok (.iconst 2, 1) := by decide +kernel
theorem d289_1451 : decode code 1451 = .ok (.iadd, 1) := by decide +kernel
theorem d289_1452 : decode code 1452 = .ok (.iaload, 1) := by decide +kernel
theorem d289_1453 : decode code 1453 = .ok (.i2c, 1) := by decide +kernel
theorem d289_1454 : decode code 1454 = .ok (.invokevirtual 239, 3) := by decide +kernel
theorem d289_1457 : decode code 1457 = .ok (.istore 7, 2) := by decide +kernel
theorem d289_1459 : decode code 1459 = .ok (.aload_n 2, 1) := by decide +kernel
theorem d289_1460 : decode code 1460 = .ok (.invokevirtual 172, 3) := by decide +kernel
theorem d289_1463 : decode code 1463 = .ok (.iload 6, 2) := by decide +kernel
theorem d289_1465 : decode code 1465 = .ok (.if_icmp .eq 5, 3) := by decide +kernel
theorem d289_1468 : decode code 1468 = .ok (.iconst 0, 1) := by decide +kernel
theorem d289_1469 : decode code 1469 = .ok (.ireturn, 1) := by decide +kernel
theorem d289_1470 : decode code 1470 = .ok (.iload 6, 2) := by decide +kernel
theorem d289_1472 : decode code 1472 = .ok (.ifCond .ne 15, 3) := by decide +kernel
theorem d289_1475 : decode code 1475 = .ok (.aload_n 3, 1) := by decide +kernel
theorem d289_1476 : decode code 1476 = .ok (.iconst 0, 1) := by decide +kernel
theorem d289_1477 : decode code 1477 = .ok (.laload, 1) := by decide +kernel
theorem d289_1478 : decode code 1478 = .ok (.iload 7, 2) := by decide +kernel
theorem d289_1480 : decode code 1480 = .ok (.i2l, 1) := by decide +kernel
theorem d289_1481 : decode code 1481 = .ok (.lcmp, 1) := by decide +kernel
theorem d289_1482 : decode code 1482 = .ok (.ifCond .eq 5, 3) := by decide +kernel
theorem d289_1485 : decode code 1485 = .ok (.iconst 0, 1) := by decide +kernel
theorem d289_1486 : decode code 1486 = .ok (.ireturn, 1) := by decide +kernel
theorem d289_1487 : decode code 1487 = .ok (.goto 1514, 3) := by decide +kernel
theorem d289_1490 : decode code 1490 = .ok (.aload_n 1, 1) := by decide +kernel
theorem d289_1491 : decode code 1491 = .ok (.aload_n 0, 1) := by decide +kernel
theorem d289_1492 : decode code 1492 = .ok (.iload 5, 2) := by decide +kernel
theorem d289_1494 : decode code 1494 = .ok (.iconst 1, 1) := by decide +kernel
theorem d289_1495 : decode code 1495 = .ok (.iadd, 1) := by decide +kernel
theorem d289_1496 : decode code 1496 = .ok (.iaload, 1) := by decide +kernel
theorem d289_1497 : decode code 1497 = .ok (.aload_n 3, 1) := by decide +kernel
theorem d289_1498 : decode code 1498 = .ok (.invokestatic 240, 3) := by decide +kernel
theorem d289_1501 : decode code 1501 = .ok (.istore 6, 2) := by decide +kernel
theorem d289_1503 : decode code 1503 = .ok (.aload_n 2, 1) := by decide +kernel
theorem d289_1504 : decode code 1504 = .ok (.aload_n 0, 1) := by decide +kernel
theorem d289_1505 : decode code 1505 = .ok (.iload 5, 2) := by decide +kernel
theorem d289_1507 : decode code 1507 = .ok (.iconst 1, 1) := by decide +kernel
theorem d289_1508 : decode code 1508 = .ok (.iadd, 1) := by decide +kernel
theorem d289_1509 : decode code 1509 = .ok (.iaload, 1) := by decide +kernel
theorem d289_1510 : decode code 1510 = .ok (.invokevirtual 242, 3) := by decide +kernel
theorem d289_1513 : decode code 1513 = .ok (.istore 7, 2) := by decide +kernel
theorem d289_1515 : decode code 1515 = .ok (.aload_n 2, 1) := by decide +kernel
theorem d289_1516 : decode code 1516 = .ok (.invokevirtual 172, 3) := by decide +kernel
theorem d289_1519 : decode code 1519 = .ok (.iload 6, 2) := by decide +kernel
theorem d289_1521 : decode code 1521 = .ok (.if_icmp .eq 5, 3) := by decide +kernel
theorem d289_1524 : decode code 1524 = .ok (.iconst 0, 1) := by decide +kernel
theorem d289_1525 : decode code 1525 = .ok (.ireturn, 1) := by decide +kernel
theorem d289_1526 : decode code 1526 = .ok (.iload 6, 2) := by decide +kernel
theorem d289_1528 : decode code 1528 = .ok (.ifCond .ne 15, 3) := by decide +kernel
theorem d289_1531 : decode code 1531 = .ok (.aload_n 3, 1) := by decide +kernel
theorem d289_1532 : decode code 1532 = .ok (.iconst 0, 1) := by decide +kernel
theorem d289_1533 : decode code 1533 = .ok (.laload, 1) := by decide +kernel
theorem d289_1534 : decode code 1534 = .ok (.iload 7, 2) := by decide +kernel
theorem d289_1536 : decode code 1536 = .ok (.i2l, 1) := by decide +kernel
theorem d289_1537 : decode code 1537 = .ok (.lcmp, 1) := by decide +kernel
theorem d289_1538 : decode code 1538 = .ok (.ifCond .eq 5, 3) := by decide +kernel
theorem d289_1541 : decode code 1541 = .ok (.iconst 0, 1) := by decide +kernel
theorem d289_1542 : decode code 1542 = .ok (.ireturn, 1) := by decide +kernel
theorem d289_1543 : decode code 1543 = .ok (.goto 1458, 3) := by decide +kernel
theorem d289_1546 : decode code 1546 = .ok (.aload_n 1, 1) := by decide +kernel
theorem d289_1547 : decode code 1547 = .ok (.aload_n 0, 1) := by decide +kernel
theorem d289_1548 : decode code 1548 = .ok (.iload 5, 2) := by decide +kernel
theorem d289_1550 : decode code 1550 = .ok (.iconst 1, 1) := by decide +kernel
theorem d289_1551 : decode code 1551 = .ok (.iadd, 1) := by decide +kernel
theorem d289_1552 : decode code 1552 = .ok (.iaload, 1) := by decide +kernel
theorem d289_1553 : decode code 1553 = .ok (.aload_n 3, 1) := by decide +kernel
theorem d289_1554 : decode code 1554 = .ok (.invokestatic 243, 3) := by decide +kernel
theorem d289_1557 : decode code 1557 = .ok (.istore 6, 2) := by decide +kernel
theorem d289_1559 : decode code 1559 = .ok (.aload_n 2, 1) := by decide +kernel
theorem d289_1560 : decode code 1560 = .ok (.aload_n 0, 1) := by decide +kernel
theorem d289_1561 : decode code 1561 = .ok (.iload 5, 2) := by decide +kernel
theorem d289_1563 : decode code 1563 = .ok (.iconst 1, 1) := by decide +kernel
