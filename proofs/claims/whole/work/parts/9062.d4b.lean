/-! decode rows: the law -/
theorem d290_873 : decode code 873 = .ok (.iload 5, 2) := by decide +kernel
theorem d290_875 : decode code 875 = .ok (.iconst 1, 1) := by decide +kernel
theorem d290_876 : decode code 876 = .ok (.iadd, 1) := by decide +kernel
theorem d290_877 : decode code 877 = .ok (.iaload, 1) := by decide +kernel
theorem d290_878 : decode code 878 = .ok (.aload_n 0, 1) := by decide +kernel
theorem d290_879 : decode code 879 = .ok (.iload 5, 2) := by decide +kernel
theorem d290_881 : decode code 881 = .ok (.iconst 2, 1) := by decide +kernel
theorem d290_882 : decode code 882 = .ok (.iadd, 1) := by decide +kernel
theorem d290_883 : decode code 883 = .ok (.iaload, 1) := by decide +kernel
theorem d290_884 : decode code 884 = .ok (.invokevirtual 202, 3) := by decide +kernel
theorem d290_887 : decode code 887 = .ok (.istore 7, 2) := by decide +kernel
theorem d290_889 : decode code 889 = .ok (.aload_n 2, 1) := by decide +kernel
theorem d290_890 : decode code 890 = .ok (.invokevirtual 172, 3) := by decide +kernel
theorem d290_893 : decode code 893 = .ok (.iload 6, 2) := by decide +kernel
theorem d290_895 : decode code 895 = .ok (.if_icmp .eq 5, 3) := by decide +kernel
theorem d290_898 : decode code 898 = .ok (.iconst 0, 1) := by decide +kernel
theorem d290_899 : decode code 899 = .ok (.ireturn, 1) := by decide +kernel
theorem d290_900 : decode code 900 = .ok (.iload 6, 2) := by decide +kernel
theorem d290_902 : decode code 902 = .ok (.ifCond .ne 15, 3) := by decide +kernel
theorem d290_905 : decode code 905 = .ok (.aload_n 3, 1) := by decide +kernel
theorem d290_906 : decode code 906 = .ok (.iconst 0, 1) := by decide +kernel
theorem d290_907 : decode code 907 = .ok (.laload, 1) := by decide +kernel
theorem d290_908 : decode code 908 = .ok (.iload 7, 2) := by decide +kernel
theorem d290_910 : decode code 910 = .ok (.i2l, 1) := by decide +kernel
theorem d290_911 : decode code 911 = .ok (.lcmp, 1) := by decide +kernel
theorem d290_912 : decode code 912 = .ok (.ifCond .eq 5, 3) := by decide +kernel
theorem d290_915 : decode code 915 = .ok (.iconst 0, 1) := by decide +kernel
theorem d290_916 : decode code 916 = .ok (.ireturn, 1) := by decide +kernel
theorem d290_917 : decode code 917 = .ok (.goto 2084, 3) := by decide +kernel
theorem d290_920 : decode code 920 = .ok (.aload_n 1, 1) := by decide +kernel
theorem d290_921 : decode code 921 = .ok (.aload_n 0, 1) := by decide +kernel
theorem d290_922 : decode code 922 = .ok (.iload 5, 2) := by decide +kernel
theorem d290_924 : decode code 924 = .ok (.iconst 1, 1) := by decide +kernel
theorem d290_925 : decode code 925 = .ok (.iadd, 1) := by decide +kernel
theorem d290_926 : decode code 926 = .ok (.iaload, 1) := by decide +kernel
theorem d290_927 : decode code 927 = .ok (.aload_n 3, 1) := by decide +kernel
theorem d290_928 : decode code 928 = .ok (.invokestatic 203, 3) := by decide +kernel
theorem d290_931 : decode code 931 = .ok (.istore 6, 2) := by decide +kernel
theorem d290_933 : decode code 933 = .ok (.aload_n 2, 1) := by decide +kernel
theorem d290_934 : decode code 934 = .ok (.aload_n 0, 1) := by decide +kernel
theorem d290_935 : decode code 935 = .ok (.iload 5, 2) := by decide +kernel
theorem d290_937 : decode code 937 = .ok (.iconst 1, 1) := by decide +kernel
theorem d290_938 : decode code 938 = .ok (.iadd, 1) := by decide +kernel
theorem d290_939 : decode code 939 = .ok (.iaload, 1) := by decide +kernel
theorem d290_940 : decode code 940 = .ok (.invokevirtual 205, 3) := by decide +kernel
theorem d290_943 : decode code 943 = .ok (.istore 7, 2) := by decide +kernel
theorem d290_945 : decode code 945 = .ok (.aload_n 2, 1) := by decide +kernel
theorem d290_946 : decode code 946 = .ok (.invokevirtual 172, 3) := by decide +kernel
theorem d290_949 : decode code 949 = .ok (.iload 6, 2) := by decide +kernel
theorem d290_951 : decode code 951 = .ok (.if_icmp .eq 5, 3) := by decide +kernel
theorem d290_954 : decode code 954 = .ok (.iconst 0, 1) := by decide +kernel
theorem d290_955 : decode code 955 = .ok (.ireturn, 1) := by decide +kernel
theorem d290_956 : decode code 956 = .ok (.iload 6, 2) := by decide +kernel
theorem d290_958 : decode code 958 = .ok (.ifCond .ne 15, 3) := by decide +kernel
theorem d290_961 : decode code 961 = .ok (.aload_n 3, 1) := by decide +kernel
theorem d290_962 : decode code 962 = .ok (.iconst 0, 1) := by decide +kernel
theorem d290_963 : decode code 963 = .ok (.laload, 1) := by decide +kernel
theorem d290_964 : decode code 964 = .ok (.iload 7, 2) := by decide +kernel
theorem d290_966 : decode code 966 = .ok (.i2l, 1) := by decide +kernel
theorem d290_967 : decode code 967 = .ok (.lcmp, 1) := by decide +kernel
theorem d290_968 : decode code 968 = .ok (.ifCond .eq 5, 3) := by decide +kernel
theorem d290_971 : decode code 971 = .ok (.iconst 0, 1) := by decide +kernel
theorem d290_972 : decode code 972 = .ok (.ireturn, 1) := by decide +kernel
theorem d290_973 : decode code 973 = .ok (.goto 2028, 3) := by decide +kernel
theorem d290_976 : decode code 976 = .ok (.aload_n 1, 1) := by decide +kernel
theorem d290_977 : decode code 977 = .ok (.aload_n 0, 1) := by decide +kernel
theorem d290_978 : decode code 978 = .ok (.iload 5, 2) := by decide +kernel
theorem d290_980 : decode code 980 = .ok (.iconst 1, 1) := by decide +kernel
theorem d290_981 : decode code 981 = .ok (.iadd, 1) := by decide +kernel
theorem d290_982 : decode code 982 = .ok (.iaload, 1) := by decide +kernel
theorem d290_983 : decode code 983 = .ok (.aload_n 0, 1) := by decide +kernel
theorem d290_984 : decode code 984 = .ok (.iload 5, 2) := by decide +kernel
theorem d290_986 : decode code 986 = .ok (.iconst 2, 1) := by decide +kernel
theorem d290_987 : decode code 987 = .ok (.iadd, 1) := by decide +kernel
theorem d290_988 : decode code 988 = .ok (.iaload, 1) := by decide +kernel
theorem d290_989 : decode code 989 = .ok (.aload_n 3, 1) := by decide +kernel
theorem d290_990 : decode code 990 = .ok (.invokestatic 206, 3) := by decide +kernel
theorem d290_993 : decode code 993 = .ok (.istore 6, 2) := by decide +kernel
theorem d290_995 : decode code 995 = .ok (.aload_n 2, 1) := by decide +kernel
theorem d290_996 : decode code 996 = .ok (.aload_n 0, 1) := by decide +kernel
theorem d290_997 : decode code 997 = .ok (.iload 5, 2) := by decide +kernel
theorem d290_999 : decode code 999 = .ok (.iconst 1, 1) := by decide +kernel
theorem d290_1000 : decode code 1000 = .ok (.iadd, 1) := by decide +kernel
theorem d290_1001 : decode code 1001 = .ok (.iaload, 1) := by decide +kernel
theorem d290_1002 : decode code 1002 = .ok (.aload_n 0, 1) := by decide +kernel
theorem d290_1003 : decode code 1003 = .ok (.iload 5, 2) := by decide +kernel
theorem d290_1005 : decode code 1005 = .ok (.iconst 2, 1) := by decide +kernel
theorem d290_1006 : decode code 1006 = .ok (.iadd, 1) := by decide +kernel
theorem d290_1007 : decode code 1007 = .ok (.iaload, 1) := by decide +kernel
theorem d290_1008 : decode code 1008 = .ok (.invokevirtual 208, 3) := by decide +kernel
theorem d290_1011 : decode code 1011 = .ok (.istore 7, 2) := by decide +kernel
theorem d290_1013 : decode code 1013 = .ok (.aload_n 2, 1) := by decide +kernel
theorem d290_1014 : decode code 1014 = .ok (.invokevirtual 172, 3) := by decide +kernel
theorem d290_1017 : decode code 1017 = .ok (.iload 6, 2) := by decide +kernel
theorem d290_1019 : decode code 1019 = .ok (.if_icmp .eq 5, 3) := by decide +kernel
theorem d290_1022 : decode code 1022 = .ok (.iconst 0, 1) := by decide +kernel
theorem d290_1023 : decode code 1023 = .ok (.ireturn, 1) := by decide +kernel
theorem d290_1024 : decode code 1024 = .ok (.iload 6, 2) := by decide +kernel
theorem d290_1026 : decode code 1026 = .ok (.ifCond .ne 15, 3) := by decide +kernel
theorem d290_1029 : decode code 1029 = .ok (.aload_n 3, 1) := by decide +kernel
theorem d290_1030 : decode code 1030 = .ok (.iconst 0, 1) := by decide +kernel
theorem d290_1031 : decode code 1031 = .ok (.laload, 1) := by decide +kernel
theorem d290_1032 : decode code 1032 = .ok (.iload 7, 2) := by decide +kernel
theorem d290_1034 : decode code 1034 = .ok (.i2l, 1) := by decide +kernel
theorem d290_1035 : decode code 1035 = .ok (.lcmp, 1) := by decide +kernel
theorem d290_1036 : decode code 1036 = .ok (.ifCond .eq 5, 3) := by decide +kernel
theorem d290_1039 : decode code 1039 = .ok (.iconst 0, 1) := by decide +kernel
theorem d290_1040 : decode code 1040 = .ok (.ireturn, 1) := by decide +kernel
theorem d290_1041 : decode code 1041 = .ok (.goto 1960, 3) := by decide +kernel
theorem d290_1044 : decode code 1044 = .ok (.aload_n 1, 1) := by decide +kernel
theorem d290_1045 : decode code 1045 = .ok (.invokevirtual 209, 3) := by decide +kernel
theorem d290_1048 : decode code 1048 = .ok (.aload_n 2, 1) := by decide +kernel
theorem d290_1049 : decode code 1049 = .ok (.invokevirtual 212, 3) := by decide +kernel
theorem d290_1052 : decode code 1052 = .ok (.if_icmp .eq 1949, 3) := by decide +kernel
theorem d290_1055 : decode code 1055 = .ok (.iconst 0, 1) := by decide +kernel
theorem d290_1056 : decode code 1056 = .ok (.ireturn, 1) := by decide +kernel
theorem d290_1057 : decode code 1057 = .ok (.aload_n 1, 1) := by decide +kernel
theorem d290_1058 : decode code 1058 = .ok (.aload_n 0, 1) := by decide +kernel
theorem d290_1059 : decode code 1059 = .ok (.iload 5, 2) := by decide +kernel
theorem d290_1061 : decode code 1061 = .ok (.iconst 1, 1) := by decide +kernel
theorem d290_1062 : decode code 1062 = .ok (.iadd, 1) := by decide +kernel
theorem d290_1063 : decode code 1063 = .ok (.iaload, 1) := by decide +kernel
theorem d290_1064 : decode code 1064 = .ok (.invokevirtual 213, 3) := by decide +kernel
theorem d290_1067 : decode code 1067 = .ok (.aload_n 2, 1) := by decide +kernel
theorem d290_1068 : decode code 1068 = .ok (.aload_n 0, 1) := by decide +kernel
theorem d290_1069 : decode code 1069 = .ok (.iload 5, 2) := by decide +kernel
theorem d290_1071 : decode code 1071 = .ok (.iconst 1, 1) := by decide +kernel
theorem d290_1072 : decode code 1072 = .ok (.iadd, 1) := by decide +kernel
theorem d290_1073 : decode code 1073 = .ok (.iaload, 1) := by decide +kernel
theorem d290_1074 : decode code 1074 = .ok (.invokevirtual 216, 3) := by decide +kernel
theorem d290_1077 : decode code 1077 = .ok (.if_icmp .eq 1924, 3) := by decide +kernel
theorem d290_1080 : decode code 1080 = .ok (.iconst 0, 1) := by decide +kernel
theorem d290_1081 : decode code 1081 = .ok (.ireturn, 1) := by decide +kernel
theorem d290_1082 : decode code 1082 = .ok (.aload_n 1, 1) := by decide +kernel
theorem d290_1083 : decode code 1083 = .ok (.aload_n 0, 1) := by decide +kernel
theorem d290_1084 : decode code 1084 = .ok (.iload 5, 2) := by decide +kernel
theorem d290_1086 : decode code 1086 = .ok (.iconst 1, 1) := by decide +kernel
theorem d290_1087 : decode code 1087 = .ok (.iadd, 1) := by decide +kernel
theorem d290_1088 : decode code 1088 = .ok (.iaload, 1) := by decide +kernel
theorem d290_1089 : decode code 1089 = .ok (.aload_n 3, 1) := by decide +kernel
theorem d290_1090 : decode code 1090 = .ok (.invokestatic 217, 3) := by decide +kernel
theorem d290_1093 : decode code 1093 = .ok (.istore 6, 2) := by decide +kernel
theorem d290_1095 : decode code 1095 = .ok (.aload_n 2, 1) := by decide +kernel
theorem d290_1096 : decode code 1096 = .ok (.aload_n 0, 1) := by decide +kernel
theorem d290_1097 : decode code 1097 = .ok (.iload 5, 2) := by decide +kernel
theorem d290_1099 : decode code 1099 = .ok (.iconst 1, 1) := by decide +kernel
theorem d290_1100 : decode code 1100 = .ok (.iadd, 1) := by decide +kernel
theorem d290_1101 : decode code 1101 = .ok (.iaload, 1) := by decide +kernel
theorem d290_1102 : decode code 1102 = .ok (.invokevirtual 219, 3) := by decide +kernel
theorem d290_1105 : decode code 1105 = .ok (.istore 7, 2) := by decide +kernel
theorem d290_1107 : decode code 1107 = .ok (.aload_n 2, 1) := by decide +kernel
theorem d290_1108 : decode code 1108 = .ok (.invokevirtual 172, 3) := by decide +kernel
theorem d290_1111 : decode code 1111 = .ok (.iload 6, 2) := by decide +kernel
theorem d290_1113 : decode code 1113 = .ok (.if_icmp .eq 5, 3) := by decide +kernel
theorem d290_1116 : decode code 1116 = .ok (.iconst 0, 1) := by decide +kernel
theorem d290_1117 : decode code 1117 = .ok (.ireturn, 1) := by decide +kernel
theorem d290_1118 : decode code 1118 = .ok (.iload 6, 2) := by decide +kernel
theorem d290_1120 : decode code 1120 = .ok (.ifCond .ne 15, 3) := by decide +kernel
theorem d290_1123 : decode code 1123 = .ok (.aload_n 3, 1) := by decide +kernel
theorem d290_1124 : decode code 1124 = .ok (.iconst 0, 1) := by decide +kernel
theorem d290_1125 : decode code 1125 = .ok (.laload, 1) := by decide +kernel
theorem d290_1126 : decode code 1126 = .ok (.iload 7, 2) := by decide +kernel
theorem d290_1128 : decode code 1128 = .ok (.i2l, 1) := by decide +kernel
theorem d290_1129 : decode code 1129 = .ok (.lcmp, 1) := by decide +kernel
theorem d290_1130 : decode code 1130 = .ok (.ifCond .eq 5, 3) := by decide +kernel
theorem d290_1133 : decode code 1133 = .ok (.iconst 0, 1) := by decide +kernel
theorem d290_1134 : decode code 1134 = .ok (.ireturn, 1) := by decide +kernel
theorem d290_1135 : decode code 1135 = .ok (.goto 1866, 3) := by decide +kernel
theorem d290_1138 : decode code 1138 = .ok (.aload_n 1, 1) := by decide +kernel
theorem d290_1139 : decode code 1139 = .ok (.aload_n 0, 1) := by decide +kernel
theorem d290_1140 : decode code 1140 = .ok (.iload 5, 2) := by decide +kernel
theorem d290_1142 : decode code 1142 = .ok (.iconst 1, 1) := by decide +kernel
theorem d290_1143 : decode code 1143 = .ok (.iadd, 1) := by decide +kernel
theorem d290_1144 : decode code 1144 = .ok (.iaload, 1) := by decide +kernel
theorem d290_1145 : decode code 1145 = .ok (.aload_n 3, 1) := by decide +kernel
theorem d290_1146 : decode code 1146 = .ok (.invokestatic 220, 3) := by decide +kernel
theorem d290_1149 : decode code 1149 = .ok (.istore 6, 2) := by decide +kernel
theorem d290_1151 : decode code 1151 = .ok (.aload_n 2, 1) := by decide +kernel
theorem d290_1152 : decode code 1152 = .ok (.aload_n 0, 1) := by decide +kernel
theorem d290_1153 : decode code 1153 = .ok (.iload 5, 2) := by decide +kernel
theorem d290_1155 : decode code 1155 = .ok (.iconst 1, 1) := by decide +kernel
theorem d290_1156 : decode code 1156 = .ok (.iadd, 1) := by decide +kernel
theorem d290_1157 : decode code 1157 = .ok (.iaload, 1) := by decide +kernel
theorem d290_1158 : decode code 1158 = .ok (.invokevirtual 222, 3) := by decide +kernel
theorem d290_1161 : decode code 1161 = .ok (.istore 7, 2) := by decide +kernel
theorem d290_1163 : decode code 1163 = .ok (.aload_n 2, 1) := by decide +kernel
theorem d290_1164 : decode code 1164 = .ok (.invokevirtual 172, 3) := by decide +kernel
theorem d290_1167 : decode code 1167 = .ok (.iload 6, 2) := by decide +kernel
theorem d290_1169 : decode code 1169 = .ok (.if_icmp .eq 5, 3) := by decide +kernel
theorem d290_1172 : decode code 1172 = .ok (.iconst 0, 1) := by decide +kernel
theorem d290_1173 : decode code 1173 = .ok (.ireturn, 1) := by decide +kernel
theorem d290_1174 : decode code 1174 = .ok (.iload 6, 2) := by decide +kernel
theorem d290_1176 : decode code 1176 = .ok (.ifCond .ne 15, 3) := by decide +kernel
theorem d290_1179 : decode code 1179 = .ok (.aload_n 3, 1) := by decide +kernel
theorem d290_1180 : decode code 1180 = .ok (.iconst 0, 1) := by decide +kernel
theorem d290_1181 : decode code 1181 = .ok (.laload, 1) := by decide +kernel
theorem d290_1182 : decode code 1182 = .ok (.iload 7, 2) := by decide +kernel
theorem d290_1184 : decode code 1184 = .ok (.i2l, 1) := by decide +kernel
theorem d290_1185 : decode code 1185 = .ok (.lcmp, 1) := by decide +kernel
theorem d290_1186 : decode code 1186 = .ok (.ifCond .eq 5, 3) := by decide +kernel
theorem d290_1189 : decode code 1189 = .ok (.iconst 0, 1) := by decide +kernel
theorem d290_1190 : decode code 1190 = .ok (.ireturn, 1) := by decide +kernel
theorem d290_1191 : decode code 1191 = .ok (.goto 1810, 3) := by decide +kernel
theorem d290_1194 : decode code 1194 = .ok (.aload_n 1, 1) := by decide +kernel
theorem d290_1195 : decode code 1195 = .ok (.aload_n 0, 1) := by decide +kernel
theorem d290_1196 : decode code 1196 = .ok (.iload 5, 2) := by decide +kernel
theorem d290_1198 : decode code 1198 = .ok (.iconst 1, 1) := by decide +kernel
theorem d290_1199 : decode code 1199 = .ok (.iadd, 1) := by decide +kernel
theorem d290_1200 : decode code 1200 = .ok (.iaload, 1) := by decide +kernel
theorem d290_1201 : decode code 1201 = .ok (.aload_n 3, 1) := by decide +kernel
theorem d290_1202 : decode code 1202 = .ok (.invokestatic 223, 3) := by decide +kernel
theorem d290_1205 : decode code 1205 = .ok (.istore 6, 2) := by decide +kernel
theorem d290_1207 : decode code 1207 = .ok (.aload_n 2, 1) := by decide +kernel
theorem d290_1208 : decode code 1208 = .ok (.aload_n 0, 1) := by decide +kernel
theorem d290_1209 : decode code 1209 = .ok (.iload 5, 2) := by decide +kernel
theorem d290_1211 : decode code 1211 = .ok (.iconst 1, 1) := by decide +kernel
theorem d290_1212 : decode code 1212 = .ok (.iadd, 1) := by decide +kernel
theorem d290_1213 : decode code 1213 = .ok (.iaload, 1) := by decide +kernel
theorem d290_1214 : decode code 1214 = .ok (.invokevirtual 225, 3) := by decide +kernel
theorem d290_1217 : decode code 1217 = .ok (.istore 7, 2) := by decide +kernel
theorem d290_1219 : decode code 1219 = .ok (.aload_n 2, 1) := by decide +kernel
theorem d290_1220 : decode code 1220 = .ok (.invokevirtual 172, 3) := by decide +kernel
theorem d290_1223 : decode code 1223 = .ok (.iload 6, 2) := by decide +kernel
theorem d290_1225 : decode code 1225 = .ok (.if_icmp .eq 5, 3) := by decide +kernel
theorem d290_1228 : decode code 1228 = .ok (.iconst 0, 1) := by decide +kernel
theorem d290_1229 : decode code 1229 = .ok (.ireturn, 1) := by decide +kernel
theorem d290_1230 : decode code 1230 = .ok (.iload 6, 2) := by decide +kernel
theorem d290_1232 : decode code 1232 = .ok (.ifCond .ne 15, 3) := by decide +kernel
theorem d290_1235 : decode code 1235 = .ok (.aload_n 3, 1) := by decide +kernel
theorem d290_1236 : decode code 1236 = .ok (.iconst 0, 1) := by decide +kernel
theorem d290_1237 : decode code 1237 = .ok (.laload, 1) := by decide +kernel
theorem d290_1238 : decode code 1238 = .ok (.iload 7, 2) := by decide +kernel
theorem d290_1240 : decode code 1240 = .ok (.i2l, 1) := by decide +kernel
theorem d290_1241 : decode code 1241 = .ok (.lcmp, 1) := by decide +kernel
theorem d290_1242 : decode code 1242 = .ok (.ifCond .eq 5, 3) := by decide +kernel
theorem d290_1245 : decode code 1245 = .ok (.iconst 0, 1) := by decide +kernel
theorem d290_1246 : decode code 1246 = .ok (.ireturn, 1) := by decide +kernel
theorem d290_1247 : decode code 1247 = .ok (.goto 1754, 3) := by decide +kernel
theorem d290_1250 : decode code 1250 = .ok (.aload_n 1, 1) := by decide +kernel
theorem d290_1251 : decode code 1251 = .ok (.aload_n 0, 1) := by decide +kernel
theorem d290_1252 : decode code 1252 = .ok (.iload 5, 2) := by decide +kernel
theorem d290_1254 : decode code 1254 = .ok (.iconst 1, 1) := by decide +kernel
theorem d290_1255 : decode code 1255 = .ok (.iadd, 1) := by decide +kernel
theorem d290_1256 : decode code 1256 = .ok (.iaload, 1) := by decide +kernel
theorem d290_1257 : decode code 1257 = .ok (.aload_n 3, 1) := by decide +kernel
theorem d290_1258 : decode code 1258 = .ok (.invokestatic 226, 3) := by decide +kernel
theorem d290_1261 : decode code 1261 = .ok (.istore 6, 2) := by decide +kernel
theorem d290_1263 : decode code 1263 = .ok (.aload_n 2, 1) := by decide +kernel
theorem d290_1264 : decode code 1264 = .ok (.aload_n 0, 1) := by decide +kernel
theorem d290_1265 : decode code 1265 = .ok (.iload 5, 2) := by decide +kernel
theorem d290_1267 : decode code 1267 = .ok (.iconst 1, 1) := by decide +kernel
theorem d290_1268 : decode code 1268 = .ok (.iadd, 1) := by decide +kernel
theorem d290_1269 : decode code 1269 = .ok (.iaload, 1) := by decide +kernel
theorem d290_1270 : decode code 1270 = .ok (.invokevirtual 228, 3) := by decide +kernel
theorem d290_1273 : decode code 1273 = .ok (.istore 7, 2) := by decide +kernel
theorem d290_1275 : decode code 1275 = .ok (.aload_n 2, 1) := by decide +kernel
theorem d290_1276 : decode code 1276 = .ok (.invokevirtual 172, 3) := by decide +kernel
theorem d290_1279 : decode code 1279 = .ok (.iload 6, 2) := by decide +kernel
theorem d290_1281 : decode code 1281 = .ok (.if_icmp .eq 5, 3) := by decide +kernel
theorem d290_1284 : decode code 1284 = .ok (.iconst 0, 1) := by decide +kernel
theorem d290_1285 : decode code 1285 = .ok (.ireturn, 1) := by decide +kernel
theorem d290_1286 : decode code 1286 = .ok (.iload 6, 2) := by decide +kernel
theorem d290_1288 : decode code 1288 = .ok (.ifCond .ne 15, 3) := by decide +kernel
theorem d290_1291 : decode code 1291 = .ok (.aload_n 3, 1) := by decide +kernel
theorem d290_1292 : decode code 1292 = .ok (.iconst 0, 1) := by decide +kernel
theorem d290_1293 : decode code 1293 = .ok (.laload, 1) := by decide +kernel
theorem d290_1294 : decode code 1294 = .ok (.iload 7, 2) := by decide +kernel
theorem d290_1296 : decode code 1296 = .ok (.i2l, 1) := by decide +kernel
theorem d290_1297 : decode code 1297 = .ok (.lcmp, 1) := by decide +kernel
theorem d290_1298 : decode code 1298 = .ok (.ifCond .eq 5, 3) := by decide +kernel
theorem d290_1301 : decode code 1301 = .ok (.iconst 0, 1) := by decide +kernel
theorem d290_1302 : decode code 1302 = .ok (.ireturn, 1) := by decide +kernel
theorem d290_1303 : decode code 1303 = .ok (.goto 1698, 3) := by decide +kernel
theorem d290_1306 : decode code 1306 = .ok (.aload_n 1, 1) := by decide +kernel
theorem d290_1307 : decode code 1307 = .ok (.aload_n 0, 1) := by decide +kernel
theorem d290_1308 : decode code 1308 = .ok (.iload 5, 2) := by decide +kernel
theorem d290_1310 : decode code 1310 = .ok (.iconst 1, 1) := by decide +kernel
theorem d290_1311 : decode code 1311 = .ok (.iadd, 1) := by decide +kernel
theorem d290_1312 : decode code 1312 = .ok (.iaload, 1) := by decide +kernel
theorem d290_1313 : decode code 1313 = .ok (.aload_n 3, 1) := by decide +kernel
theorem d290_1314 : decode code 1314 = .ok (.invokestatic 229, 3) := by decide +kernel
theorem d290_1317 : decode code 1317 = .ok (.istore 6, 2) := by decide +kernel
theorem d290_1319 : decode code 1319 = .ok (.aload_n 2, 1) := by decide +kernel
theorem d290_1320 : decode code 1320 = .ok (.aload_n 0, 1) := by decide +kernel
theorem d290_1321 : decode code 1321 = .ok (.iload 5, 2) := by decide +kernel
theorem d290_1323 : decode code 1323 = .ok (.iconst 1, 1) := by decide +kernel
theorem d290_1324 : decode code 1324 = .ok (.iadd, 1) := by decide +kernel
theorem d290_1325 : decode code 1325 = .ok (.iaload, 1) := by decide +kernel
theorem d290_1326 : decode code 1326 = .ok (.invokevirtual 231, 3) := by decide +kernel
theorem d290_1329 : decode code 1329 = .ok (.istore 7, 2) := by decide +kernel
theorem d290_1331 : decode code 1331 = .ok (.aload_n 2, 1) := by decide +kernel
theorem d290_1332 : decode code 1332 = .ok (.invokevirtual 172, 3) := by decide +kernel
theorem d290_1335 : decode code 1335 = .ok (.iload 6, 2) := by decide +kernel
theorem d290_1337 : decode code 1337 = .ok (.if_icmp .eq 5, 3) := by decide +kernel
theorem d290_1340 : decode code 1340 = .ok (.iconst 0, 1) := by decide +kernel
theorem d290_1341 : decode code 1341 = .ok (.ireturn, 1) := by decide +kernel
theorem d290_1342 : decode code 1342 = .ok (.iload 6, 2) := by decide +kernel
theorem d290_1344 : decode code 1344 = .ok (.ifCond .ne 15, 3) := by decide +kernel
theorem d290_1347 : decode code 1347 = .ok (.aload_n 3, 1) := by decide +kernel
theorem d290_1348 : decode code 1348 = .ok (.iconst 0, 1) := by decide +kernel
theorem d290_1349 : decode code 1349 = .ok (.laload, 1) := by decide +kernel
theorem d290_1350 : decode code 1350 = .ok (.iload 7, 2) := by decide +kernel
theorem d290_1352 : decode code 1352 = .ok (.i2l, 1) := by decide +kernel
theorem d290_1353 : decode code 1353 = .ok (.lcmp, 1) := by decide +kernel
theorem d290_1354 : decode code 1354 = .ok (.ifCond .eq 5, 3) := by decide +kernel
theorem d290_1357 : decode code 1357 = .ok (.iconst 0, 1) := by decide +kernel
theorem d290_1358 : decode code 1358 = .ok (.ireturn, 1) := by decide +kernel
theorem d290_1359 : decode code 1359 = .ok (.goto 1642, 3) := by decide +kernel
theorem d290_1362 : decode code 1362 = .ok (.aload_n 1, 1) := by decide +kernel
theorem d290_1363 : decode code 1363 = .ok (.aload_n 0, 1) := by decide +kernel
theorem d290_1364 : decode code 1364 = .ok (.iload 5, 2) := by decide +kernel
theorem d290_1366 : decode code 1366 = .ok (.iconst 1, 1) := by decide +kernel
theorem d290_1367 : decode code 1367 = .ok (.iadd, 1) := by decide +kernel
theorem d290_1368 : decode code 1368 = .ok (.iaload, 1) := by decide +kernel
theorem d290_1369 : decode code 1369 = .ok (.i2c, 1) := by decide +kernel
theorem d290_1370 : decode code 1370 = .ok (.aload_n 3, 1) := by decide +kernel
theorem d290_1371 : decode code 1371 = .ok (.invokestatic 232, 3) := by decide +kernel
theorem d290_1374 : decode code 1374 = .ok (.istore 6, 2) := by decide +kernel
theorem d290_1376 : decode code 1376 = .ok (.aload_n 2, 1) := by decide +kernel
theorem d290_1377 : decode code 1377 = .ok (.aload_n 0, 1) := by decide +kernel
theorem d290_1378 : decode code 1378 = .ok (.iload 5, 2) := by decide +kernel
theorem d290_1380 : decode code 1380 = .ok (.iconst 1, 1) := by decide +kernel
theorem d290_1381 : decode code 1381 = .ok (.iadd, 1) := by decide +kernel
theorem d290_1382 : decode code 1382 = .ok (.iaload, 1) := by decide +kernel
theorem d290_1383 : decode code 1383 = .ok (.i2c, 1) := by decide +kernel
theorem d290_1384 : decode code 1384 = .ok (.invokevirtual 235, 3) := by decide +kernel
theorem d290_1387 : decode code 1387 = .ok (.istore 7, 2) := by decide +kernel
theorem d290_1389 : decode code 1389 = .ok (.aload_n 2, 1) := by decide +kernel
theorem d290_1390 : decode code 1390 = .ok (.invokevirtual 172, 3) := by decide +kernel
theorem d290_1393 : decode code 1393 = .ok (.iload 6, 2) := by decide +kernel
theorem d290_1395 : decode code 1395 = .ok (.if_icmp .eq 5, 3) := by decide +kernel
theorem d290_1398 : decode code 1398 = .ok (.iconst 0, 1) := by decide +kernel
theorem d290_1399 : decode code 1399 = .ok (.ireturn, 1) := by decide +kernel
theorem d290_1400 : decode code 1400 = .ok (.iload 6, 2) := by decide +kernel
theorem d290_1402 : decode code 1402 = .ok (.ifCond .ne 15, 3) := by decide +kernel
theorem d290_1405 : decode code 1405 = .ok (.aload_n 3, 1) := by decide +kernel
theorem d290_1406 : decode code 1406 = .ok (.iconst 0, 1) := by decide +kernel
theorem d290_1407 : decode code 1407 = .ok (.laload, 1) := by decide +kernel
theorem d290_1408 : decode code 1408 = .ok (.iload 7, 2) := by decide +kernel
theorem d290_1410 : decode code 1410 = .ok (.i2l, 1) := by decide +kernel
theorem d290_1411 : decode code 1411 = .ok (.lcmp, 1) := by decide +kernel
theorem d290_1412 : decode code 1412 = .ok (.ifCond .eq 5, 3) := by decide +kernel
theorem d290_1415 : decode code 1415 = .ok (.iconst 0, 1) := by decide +kernel
theorem d290_1416 : decode code 1416 = .ok (.ireturn, 1) := by decide +kernel
theorem d290_1417 : decode code 1417 = .ok (.goto 1584, 3) := by decide +kernel
theorem d290_1420 : decode code 1420 = .ok (.aload_n 1, 1) := by decide +kernel
theorem d290_1421 : decode code 1421 = .ok (.aload_n 0, 1) := by decide +kernel
theorem d290_1422 : decode code 1422 = .ok (.iload 5, 2) := by decide +kernel
theorem d290_1424 : decode code 1424 = .ok (.iconst 1, 1) := by decide +kernel
theorem d290_1425 : decode code 1425 = .ok (.iadd, 1) := by decide +kernel
theorem d290_1426 : decode code 1426 = .ok (.iaload, 1) := by decide +kernel
theorem d290_1427 : decode code 1427 = .ok (.aload_n 0, 1) := by decide +kernel
theorem d290_1428 : decode code 1428 = .ok (.iload 5, 2) := by decide +kernel
theorem d290_1430 : decode code 1430 = .ok (.iconst 2, 1) := by decide +kernel
theorem d290_1431 : decode code 1431 = .ok (.iadd, 1) := by decide +kernel
theorem d290_1432 : decode code 1432 = .ok (.iaload, 1) := by decide +kernel
theorem d290_1433 : decode code 1433 = .ok (.i2c, 1) := by decide +kernel
theorem d290_1434 : decode code 1434 = .ok (.aload_n 3, 1) := by decide +kernel
theorem d290_1435 : decode code 1435 = .ok (.invokestatic 236, 3) := by decide +kernel
theorem d290_1438 : decode code 1438 = .ok (.istore 6, 2) := by decide +kernel
theorem d290_1440 : decode code 1440 = .ok (.aload_n 2, 1) := by decide +kernel
theorem d290_1441 : decode code 1441 = .ok (.aload_n 0, 1) := by decide +kernel
theorem d290_1442 : decode code 1442 = .ok (.iload 5, 2) := by decide +kernel
theorem d290_1444 : decode code 1444 = .ok (.iconst 1, 1) := by decide +kernel
theorem d290_1445 : decode code 1445 = .ok (.iadd, 1) := by decide +kernel
theorem d290_1446 : decode code 1446 = .ok (.iaload, 1) := by decide +kernel
theorem d290_1447 : decode code 1447 = .ok (.aload_n 0, 1) := by decide +kernel
theorem d290_1448 : decode code 1448 = .ok (.iload 5, 2) := by decide +kernel
theorem d290_1450 : decode code 1450 = .ok (.iconst 2, 1) := by decide +kernel
theorem d290_1451 : decode code 1451 = .ok (.iadd, 1) := by decide +kernel
theorem d290_1452 : decode code 1452 = .ok (.iaload, 1) := by decide +kernel
theorem d290_1453 : decode code 1453 = .ok (.i2c, 1) := by decide +kernel
theorem d290_1454 : decode code 1454 = .ok (.invokevirtual 239, 3) := by decide +kernel
theorem d290_1457 : decode code 1457 = .ok (.istore 7, 2) := by decide +kernel
theorem d290_1459 : decode code 1459 = .ok (.aload_n 2, 1) := by decide +kernel
theorem d290_1460 : decode code 1460 = .ok (.invokevirtual 172, 3) := by decide +kernel
theorem d290_1463 : decode code 1463 = .ok (.iload 6, 2) := by decide +kernel
theorem d290_1465 : decode code 1465 = .ok (.if_icmp .eq 5, 3) := by decide +kernel
theorem d290_1468 : decode code 1468 = .ok (.iconst 0, 1) := by decide +kernel
theorem d290_1469 : decode code 1469 = .ok (.ireturn, 1) := by decide +kernel
theorem d290_1470 : decode code 1470 = .ok (.iload 6, 2) := by decide +kernel
theorem d290_1472 : decode code 1472 = .ok (.ifCond .ne 15, 3) := by decide +kernel
theorem d290_1475 : decode code 1475 = .ok (.aload_n 3, 1) := by decide +kernel
theorem d290_1476 : decode code 1476 = .ok (.iconst 0, 1) := by decide +kernel
theorem d290_1477 : decode code 1477 = .ok (.laload, 1) := by decide +kernel
theorem d290_1478 : decode code 1478 = .ok (.iload 7, 2) := by decide +kernel
theorem d290_1480 : decode code 1480 = .ok (.i2l, 1) := by decide +kernel
theorem d290_1481 : decode code 1481 = .ok (.lcmp, 1) := by decide +kernel
theorem d290_1482 : decode code 1482 = .ok (.ifCond .eq 5, 3) := by decide +kernel
theorem d290_1485 : decode code 1485 = .ok (.iconst 0, 1) := by decide +kernel
theorem d290_1486 : decode code 1486 = .ok (.ireturn, 1) := by decide +kernel
theorem d290_1487 : decode code 1487 = .ok (.goto 1514, 3) := by decide +kernel
theorem d290_1490 : decode code 1490 = .ok (.aload_n 1, 1) := by decide +kernel
theorem d290_1491 : decode code 1491 = .ok (.aload_n 0, 1) := by decide +kernel
theorem d290_1492 : decode code 1492 = .ok (.iload 5, 2) := by decide +kernel
theorem d290_1494 : decode code 1494 = .ok (.iconst 1, 1) := by decide +kernel
theorem d290_1495 : decode code 1495 = .ok (.iadd, 1) := by decide +kernel
theorem d290_1496 : decode code 1496 = .ok (.iaload, 1) := by decide +kernel
theorem d290_1497 : decode code 1497 = .ok (.aload_n 3, 1) := by decide +kernel
theorem d290_1498 : decode code 1498 = .ok (.invokestatic 240, 3) := by decide +kernel
theorem d290_1501 : decode code 1501 = .ok (.istore 6, 2) := by decide +kernel
theorem d290_1503 : decode code 1503 = .ok (.aload_n 2, 1) := by decide +kernel
theorem d290_1504 : decode code 1504 = .ok (.aload_n 0, 1) := by decide +kernel
theorem d290_1505 : decode code 1505 = .ok (.iload 5, 2) := by decide +kernel
theorem d290_1507 : decode code 1507 = .ok (.iconst 1, 1) := by decide +kernel
theorem d290_1508 : decode code 1508 = .ok (.iadd, 1) := by decide +kernel
theorem d290_1509 : decode code 1509 = .ok (.iaload, 1) := by decide +kernel
theorem d290_1510 : decode code 1510 = .ok (.invokevirtual 242, 3) := by decide +kernel
theorem d290_1513 : decode code 1513 = .ok (.istore 7, 2) := by decide +kernel
theorem d290_1515 : decode code 1515 = .ok (.aload_n 2, 1) := by decide +kernel
theorem d290_1516 : decode code 1516 = .ok (.invokevirtual 172, 3) := by decide +kernel
theorem d290_1519 : decode code 1519 = .ok (.iload 6, 2) := by decide +kernel
theorem d290_1521 : decode code 1521 = .ok (.if_icmp .eq 5, 3) := by decide +kernel
theorem d290_1524 : decode code 1524 = .ok (.iconst 0, 1) := by decide +kernel
theorem d290_1525 : decode code 1525 = .ok (.ireturn, 1) := by decide +kernel
theorem d290_1526 : decode code 1526 = .ok (.iload 6, 2) := by decide +kernel
theorem d290_1528 : decode code 1528 = .ok (.ifCond .ne 15, 3) := by decide +kernel
theorem d290_1531 : decode code 1531 = .ok (.aload_n 3, 1) := by decide +kernel
theorem d290_1532 : decode code 1532 = .ok (.iconst 0, 1) := by decide +kernel
theorem d290_1533 : decode code 1533 = .ok (.laload, 1) := by decide +kernel
theorem d290_1534 : decode code 1534 = .ok (.iload 7, 2) := by decide +kernel
theorem d290_1536 : decode code 1536 = .ok (.i2l, 1) := by decide +kernel
theorem d290_1537 : decode code 1537 = .ok (.lcmp, 1) := by decide +kernel
theorem d290_1538 : decode code 1538 = .ok (.ifCond .eq 5, 3) := by decide +kernel
theorem d290_1541 : decode code 1541 = .ok (.iconst 0, 1) := by decide +kernel
theorem d290_1542 : decode code 1542 = .ok (.ireturn, 1) := by decide +kernel
theorem d290_1543 : decode code 1543 = .ok (.goto 1458, 3) := by decide +kernel
theorem d290_1546 : decode code 1546 = .ok (.aload_n 1, 1) := by decide +kernel
theorem d290_1547 : decode code 1547 = .ok (.aload_n 0, 1) := by decide +kernel
theorem d290_1548 : decode code 1548 = .ok (.iload 5, 2) := by decide +kernel
theorem d290_1550 : decode code 1550 = .ok (.iconst 1, 1) := by decide +kernel
theorem d290_1551 : decode code 1551 = .ok (.iadd, 1) := by decide +kernel
theorem d290_1552 : decode code 1552 = .ok (.iaload, 1) := by decide +kernel
theorem d290_1553 : decode code 1553 = .ok (.aload_n 3, 1) := by decide +kernel
theorem d290_1554 : decode code 1554 = .ok (.invokestatic 243, 3) := by decide +kernel
theorem d290_1557 : decode code 1557 = .ok (.istore 6, 2) := by decide +kernel
theorem d290_1559 : decode code 1559 = .ok (.aload_n 2, 1) := by decide +kernel
theorem d290_1560 : decode code 1560 = .ok (.aload_n 0, 1) := by decide +kernel
theorem d290_1561 : decode code 1561 = .ok (.iload 5, 2) := by decide +kernel
theorem d290_1563 : decode code 1563 = .ok (.iconst 1, 1) := by decide +kernel
