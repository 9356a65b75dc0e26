theorem d_Mo_init_983 : decode b_Mo_init 983 = .ok (.bipush 12, 2) := by decide +kernel
theorem d_Mo_init_985 : decode b_Mo_init 985 = .ok (.bipush 50, 2) := by decide +kernel
theorem d_Mo_init_987 : decode b_Mo_init 987 = .ok (.iastore, 1) := by decide +kernel
theorem d_Mo_init_988 : decode b_Mo_init 988 = .ok (.dup, 1) := by decide +kernel
theorem d_Mo_init_989 : decode b_Mo_init 989 = .ok (.bipush 13, 2) := by decide +kernel
theorem d_Mo_init_991 : decode b_Mo_init 991 = .ok (.bipush 50, 2) := by decide +kernel
theorem d_Mo_init_993 : decode b_Mo_init 993 = .ok (.iastore, 1) := by decide +kernel
theorem d_Mo_init_994 : decode b_Mo_init 994 = .ok (.putfield 46, 3) := by decide +kernel
theorem d_Mo_init_997 : decode b_Mo_init 997 = .ok (.aload_n 0, 1) := by decide +kernel
theorem d_Mo_init_998 : decode b_Mo_init 998 = .ok (.bipush 10, 2) := by decide +kernel
theorem d_Mo_init_1000 : decode b_Mo_init 1000 = .ok (.newarray .int, 2) := by decide +kernel
theorem d_Mo_init_1002 : decode b_Mo_init 1002 = .ok (.dup, 1) := by decide +kernel
theorem d_Mo_init_1003 : decode b_Mo_init 1003 = .ok (.iconst 0, 1) := by decide +kernel
theorem d_Mo_init_1004 : decode b_Mo_init 1004 = .ok (.bipush 97, 2) := by decide +kernel
theorem d_Mo_init_1006 : decode b_Mo_init 1006 = .ok (.iastore, 1) := by decide +kernel
theorem d_Mo_init_1007 : decode b_Mo_init 1007 = .ok (.dup, 1) := by decide +kernel
theorem d_Mo_init_1008 : decode b_Mo_init 1008 = .ok (.iconst 1, 1) := by decide +kernel
theorem d_Mo_init_1009 : decode b_Mo_init 1009 = .ok (.bipush 116, 2) := by decide +kernel
theorem d_Mo_init_1011 : decode b_Mo_init 1011 = .ok (.iastore, 1) := by decide +kernel
theorem d_Mo_init_1012 : decode b_Mo_init 1012 = .ok (.dup, 1) := by decide +kernel
theorem d_Mo_init_1013 : decode b_Mo_init 1013 = .ok (.iconst 2, 1) := by decide +kernel
theorem d_Mo_init_1014 : decode b_Mo_init 1014 = .ok (.bipush 116, 2) := by decide +kernel
theorem d_Mo_init_1016 : decode b_Mo_init 1016 = .ok (.iastore, 1) := by decide +kernel
theorem d_Mo_init_1017 : decode b_Mo_init 1017 = .ok (.dup, 1) := by decide +kernel
theorem d_Mo_init_1018 : decode b_Mo_init 1018 = .ok (.iconst 3, 1) := by decide +kernel
theorem d_Mo_init_1019 : decode b_Mo_init 1019 = .ok (.bipush 97, 2) := by decide +kernel
theorem d_Mo_init_1021 : decode b_Mo_init 1021 = .ok (.iastore, 1) := by decide +kernel
theorem d_Mo_init_1022 : decode b_Mo_init 1022 = .ok (.dup, 1) := by decide +kernel
theorem d_Mo_init_1023 : decode b_Mo_init 1023 = .ok (.iconst 4, 1) := by decide +kernel
theorem d_Mo_init_1024 : decode b_Mo_init 1024 = .ok (.bipush 99, 2) := by decide +kernel
theorem d_Mo_init_1026 : decode b_Mo_init 1026 = .ok (.iastore, 1) := by decide +kernel
theorem d_Mo_init_1027 : decode b_Mo_init 1027 = .ok (.dup, 1) := by decide +kernel
theorem d_Mo_init_1028 : decode b_Mo_init 1028 = .ok (.iconst 5, 1) := by decide +kernel
theorem d_Mo_init_1029 : decode b_Mo_init 1029 = .ok (.bipush 104, 2) := by decide +kernel
theorem d_Mo_init_1031 : decode b_Mo_init 1031 = .ok (.iastore, 1) := by decide +kernel
theorem d_Mo_init_1032 : decode b_Mo_init 1032 = .ok (.dup, 1) := by decide +kernel
theorem d_Mo_init_1033 : decode b_Mo_init 1033 = .ok (.bipush 6, 2) := by decide +kernel
theorem d_Mo_init_1035 : decode b_Mo_init 1035 = .ok (.bipush 109, 2) := by decide +kernel
theorem d_Mo_init_1037 : decode b_Mo_init 1037 = .ok (.iastore, 1) := by decide +kernel
theorem d_Mo_init_1038 : decode b_Mo_init 1038 = .ok (.dup, 1) := by decide +kernel
theorem d_Mo_init_1039 : decode b_Mo_init 1039 = .ok (.bipush 7, 2) := by decide +kernel
theorem d_Mo_init_1041 : decode b_Mo_init 1041 = .ok (.bipush 101, 2) := by decide +kernel
theorem d_Mo_init_1043 : decode b_Mo_init 1043 = .ok (.iastore, 1) := by decide +kernel
theorem d_Mo_init_1044 : decode b_Mo_init 1044 = .ok (.dup, 1) := by decide +kernel
theorem d_Mo_init_1045 : decode b_Mo_init 1045 = .ok (.bipush 8, 2) := by decide +kernel
theorem d_Mo_init_1047 : decode b_Mo_init 1047 = .ok (.bipush 110, 2) := by decide +kernel
theorem d_Mo_init_1049 : decode b_Mo_init 1049 = .ok (.iastore, 1) := by decide +kernel
theorem d_Mo_init_1050 : decode b_Mo_init 1050 = .ok (.dup, 1) := by decide +kernel
theorem d_Mo_init_1051 : decode b_Mo_init 1051 = .ok (.bipush 9, 2) := by decide +kernel
theorem d_Mo_init_1053 : decode b_Mo_init 1053 = .ok (.bipush 116, 2) := by decide +kernel
theorem d_Mo_init_1055 : decode b_Mo_init 1055 = .ok (.iastore, 1) := by decide +kernel
theorem d_Mo_init_1056 : decode b_Mo_init 1056 = .ok (.putfield 49, 3) := by decide +kernel
theorem d_Mo_init_1059 : decode b_Mo_init 1059 = .ok (.aload_n 0, 1) := by decide +kernel
theorem d_Mo_init_1060 : decode b_Mo_init 1060 = .ok (.iconst 4, 1) := by decide +kernel
theorem d_Mo_init_1061 : decode b_Mo_init 1061 = .ok (.newarray .int, 2) := by decide +kernel
theorem d_Mo_init_1063 : decode b_Mo_init 1063 = .ok (.dup, 1) := by decide +kernel
theorem d_Mo_init_1064 : decode b_Mo_init 1064 = .ok (.iconst 0, 1) := by decide +kernel
theorem d_Mo_init_1065 : decode b_Mo_init 1065 = .ok (.bipush 55, 2) := by decide +kernel
theorem d_Mo_init_1067 : decode b_Mo_init 1067 = .ok (.iastore, 1) := by decide +kernel
theorem d_Mo_init_1068 : decode b_Mo_init 1068 = .ok (.dup, 1) := by decide +kernel
theorem d_Mo_init_1069 : decode b_Mo_init 1069 = .ok (.iconst 1, 1) := by decide +kernel
theorem d_Mo_init_1070 : decode b_Mo_init 1070 = .ok (.bipush 98, 2) := by decide +kernel
theorem d_Mo_init_1072 : decode b_Mo_init 1072 = .ok (.iastore, 1) := by decide +kernel
theorem d_Mo_init_1073 : decode b_Mo_init 1073 = .ok (.dup, 1) := by decide +kernel
theorem d_Mo_init_1074 : decode b_Mo_init 1074 = .ok (.iconst 2, 1) := by decide +kernel
theorem d_Mo_init_1075 : decode b_Mo_init 1075 = .ok (.bipush 105, 2) := by decide +kernel
theorem d_Mo_init_1077 : decode b_Mo_init 1077 = .ok (.iastore, 1) := by decide +kernel
theorem d_Mo_init_1078 : decode b_Mo_init 1078 = .ok (.dup, 1) := by decide +kernel
theorem d_Mo_init_1079 : decode b_Mo_init 1079 = .ok (.iconst 3, 1) := by decide +kernel
theorem d_Mo_init_1080 : decode b_Mo_init 1080 = .ok (.bipush 116, 2) := by decide +kernel
theorem d_Mo_init_1082 : decode b_Mo_init 1082 = .ok (.iastore, 1) := by decide +kernel
theorem d_Mo_init_1083 : decode b_Mo_init 1083 = .ok (.putfield 52, 3) := by decide +kernel
theorem d_Mo_init_1086 : decode b_Mo_init 1086 = .ok (.aload_n 0, 1) := by decide +kernel
theorem d_Mo_init_1087 : decode b_Mo_init 1087 = .ok (.iconst 4, 1) := by decide +kernel
theorem d_Mo_init_1088 : decode b_Mo_init 1088 = .ok (.newarray .int, 2) := by decide +kernel
theorem d_Mo_init_1090 : decode b_Mo_init 1090 = .ok (.dup, 1) := by decide +kernel
theorem d_Mo_init_1091 : decode b_Mo_init 1091 = .ok (.iconst 0, 1) := by decide +kernel
theorem d_Mo_init_1092 : decode b_Mo_init 1092 = .ok (.bipush 56, 2) := by decide +kernel
theorem d_Mo_init_1094 : decode b_Mo_init 1094 = .ok (.iastore, 1) := by decide +kernel
theorem d_Mo_init_1095 : decode b_Mo_init 1095 = .ok (.dup, 1) := by decide +kernel
theorem d_Mo_init_1096 : decode b_Mo_init 1096 = .ok (.iconst 1, 1) := by decide +kernel
theorem d_Mo_init_1097 : decode b_Mo_init 1097 = .ok (.bipush 98, 2) := by decide +kernel
theorem d_Mo_init_1099 : decode b_Mo_init 1099 = .ok (.iastore, 1) := by decide +kernel
theorem d_Mo_init_1100 : decode b_Mo_init 1100 = .ok (.dup, 1) := by decide +kernel
theorem d_Mo_init_1101 : decode b_Mo_init 1101 = .ok (.iconst 2, 1) := by decide +kernel
theorem d_Mo_init_1102 : decode b_Mo_init 1102 = .ok (.bipush 105, 2) := by decide +kernel
theorem d_Mo_init_1104 : decode b_Mo_init 1104 = .ok (.iastore, 1) := by decide +kernel
theorem d_Mo_init_1105 : decode b_Mo_init 1105 = .ok (.dup, 1) := by decide +kernel
theorem d_Mo_init_1106 : decode b_Mo_init 1106 = .ok (.iconst 3, 1) := by decide +kernel
theorem d_Mo_init_1107 : decode b_Mo_init 1107 = .ok (.bipush 116, 2) := by decide +kernel
theorem d_Mo_init_1109 : decode b_Mo_init 1109 = .ok (.iastore, 1) := by decide +kernel
theorem d_Mo_init_1110 : decode b_Mo_init 1110 = .ok (.putfield 55, 3) := by decide +kernel
theorem d_Mo_init_1113 : decode b_Mo_init 1113 = .ok (.aload_n 0, 1) := by decide +kernel
theorem d_Mo_init_1114 : decode b_Mo_init 1114 = .ok (.bipush 6, 2) := by decide +kernel
theorem d_Mo_init_1116 : decode b_Mo_init 1116 = .ok (.newarray .int, 2) := by decide +kernel
theorem d_Mo_init_1118 : decode b_Mo_init 1118 = .ok (.dup, 1) := by decide +kernel
theorem d_Mo_init_1119 : decode b_Mo_init 1119 = .ok (.iconst 0, 1) := by decide +kernel
theorem d_Mo_init_1120 : decode b_Mo_init 1120 = .ok (.bipush 98, 2) := by decide +kernel
theorem d_Mo_init_1122 : decode b_Mo_init 1122 = .ok (.iastore, 1) := by decide +kernel
theorem d_Mo_init_1123 : decode b_Mo_init 1123 = .ok (.dup, 1) := by decide +kernel
theorem d_Mo_init_1124 : decode b_Mo_init 1124 = .ok (.iconst 1, 1) := by decide +kernel
theorem d_Mo_init_1125 : decode b_Mo_init 1125 = .ok (.bipush 105, 2) := by decide +kernel
theorem d_Mo_init_1127 : decode b_Mo_init 1127 = .ok (.iastore, 1) := by decide +kernel
theorem d_Mo_init_1128 : decode b_Mo_init 1128 = .ok (.dup, 1) := by decide +kernel
theorem d_Mo_init_1129 : decode b_Mo_init 1129 = .ok (.iconst 2, 1) := by decide +kernel
theorem d_Mo_init_1130 : decode b_Mo_init 1130 = .ok (.bipush 110, 2) := by decide +kernel
theorem d_Mo_init_1132 : decode b_Mo_init 1132 = .ok (.iastore, 1) := by decide +kernel
theorem d_Mo_init_1133 : decode b_Mo_init 1133 = .ok (.dup, 1) := by decide +kernel
theorem d_Mo_init_1134 : decode b_Mo_init 1134 = .ok (.iconst 3, 1) := by decide +kernel
theorem d_Mo_init_1135 : decode b_Mo_init 1135 = .ok (.bipush 97, 2) := by decide +kernel
theorem d_Mo_init_1137 : decode b_Mo_init 1137 = .ok (.iastore, 1) := by decide +kernel
theorem d_Mo_init_1138 : decode b_Mo_init 1138 = .ok (.dup, 1) := by decide +kernel
theorem d_Mo_init_1139 : decode b_Mo_init 1139 = .ok (.iconst 4, 1) := by decide +kernel
theorem d_Mo_init_1140 : decode b_Mo_init 1140 = .ok (.bipush 114, 2) := by decide +kernel
theorem d_Mo_init_1142 : decode b_Mo_init 1142 = .ok (.iastore, 1) := by decide +kernel
theorem d_Mo_init_1143 : decode b_Mo_init 1143 = .ok (.dup, 1) := by decide +kernel
theorem d_Mo_init_1144 : decode b_Mo_init 1144 = .ok (.iconst 5, 1) := by decide +kernel
theorem d_Mo_init_1145 : decode b_Mo_init 1145 = .ok (.bipush 121, 2) := by decide +kernel
theorem d_Mo_init_1147 : decode b_Mo_init 1147 = .ok (.iastore, 1) := by decide +kernel
theorem d_Mo_init_1148 : decode b_Mo_init 1148 = .ok (.putfield 58, 3) := by decide +kernel
theorem d_Mo_init_1151 : decode b_Mo_init 1151 = .ok (.aload_n 0, 1) := by decide +kernel
theorem d_Mo_init_1152 : decode b_Mo_init 1152 = .ok (.bipush 20, 2) := by decide +kernel
theorem d_Mo_init_1154 : decode b_Mo_init 1154 = .ok (.newarray .byte, 2) := by decide +kernel
theorem d_Mo_init_1156 : decode b_Mo_init 1156 = .ok (.putfield 61, 3) := by decide +kernel
theorem d_Mo_init_1159 : decode b_Mo_init 1159 = .ok (.aload_n 0, 1) := by decide +kernel
theorem d_Mo_init_1160 : decode b_Mo_init 1160 = .ok (.sipush 1500, 3) := by decide +kernel
theorem d_Mo_init_1163 : decode b_Mo_init 1163 = .ok (.newarray .byte, 2) := by decide +kernel
theorem d_Mo_init_1165 : decode b_Mo_init 1165 = .ok (.putfield 65, 3) := by decide +kernel
theorem d_Mo_init_1168 : decode b_Mo_init 1168 = .ok (.aload_n 0, 1) := by decide +kernel
theorem d_Mo_init_1169 : decode b_Mo_init 1169 = .ok (.sipush 1500, 3) := by decide +kernel
theorem d_Mo_init_1172 : decode b_Mo_init 1172 = .ok (.newarray .byte, 2) := by decide +kernel
theorem d_Mo_init_1174 : decode b_Mo_init 1174 = .ok (.putfield 68, 3) := by decide +kernel
theorem d_Mo_init_1177 : decode b_Mo_init 1177 = .ok (.aload_n 0, 1) := by decide +kernel
theorem d_Mo_init_1178 : decode b_Mo_init 1178 = .ok (.sipush 1501, 3) := by decide +kernel
theorem d_Mo_init_1181 : decode b_Mo_init 1181 = .ok (.newarray .int, 2) := by decide +kernel
theorem d_Mo_init_1183 : decode b_Mo_init 1183 = .ok (.putfield 71, 3) := by decide +kernel
theorem d_Mo_init_1186 : decode b_Mo_init 1186 = .ok (.aload_n 0, 1) := by decide +kernel
theorem d_Mo_init_1187 : decode b_Mo_init 1187 = .ok (.sipush 1501, 3) := by decide +kernel
theorem d_Mo_init_1190 : decode b_Mo_init 1190 = .ok (.newarray .int, 2) := by decide +kernel
theorem d_Mo_init_1192 : decode b_Mo_init 1192 = .ok (.putfield 74, 3) := by decide +kernel
theorem d_Mo_init_1195 : decode b_Mo_init 1195 = .ok (.aload_n 0, 1) := by decide +kernel
theorem d_Mo_init_1196 : decode b_Mo_init 1196 = .ok (.bipush 60, 2) := by decide +kernel
theorem d_Mo_init_1198 : decode b_Mo_init 1198 = .ok (.newarray .int, 2) := by decide +kernel
theorem d_Mo_init_1200 : decode b_Mo_init 1200 = .ok (.putfield 77, 3) := by decide +kernel
theorem d_Mo_init_1203 : decode b_Mo_init 1203 = .ok (.aload_n 0, 1) := by decide +kernel
theorem d_Mo_init_1204 : decode b_Mo_init 1204 = .ok (.bipush 60, 2) := by decide +kernel
theorem d_Mo_init_1206 : decode b_Mo_init 1206 = .ok (.newarray .int, 2) := by decide +kernel
theorem d_Mo_init_1208 : decode b_Mo_init 1208 = .ok (.putfield 80, 3) := by decide +kernel
theorem d_Mo_init_1211 : decode b_Mo_init 1211 = .ok (.aload_n 0, 1) := by decide +kernel
theorem d_Mo_init_1212 : decode b_Mo_init 1212 = .ok (.bipush 60, 2) := by decide +kernel
theorem d_Mo_init_1214 : decode b_Mo_init 1214 = .ok (.newarray .int, 2) := by decide +kernel
theorem d_Mo_init_1216 : decode b_Mo_init 1216 = .ok (.putfield 83, 3) := by decide +kernel
theorem d_Mo_init_1219 : decode b_Mo_init 1219 = .ok (.aload_n 0, 1) := by decide +kernel
theorem d_Mo_init_1220 : decode b_Mo_init 1220 = .ok (.bipush 60, 2) := by decide +kernel
theorem d_Mo_init_1222 : decode b_Mo_init 1222 = .ok (.newarray .int, 2) := by decide +kernel
theorem d_Mo_init_1224 : decode b_Mo_init 1224 = .ok (.putfield 86, 3) := by decide +kernel
theorem d_Mo_init_1227 : decode b_Mo_init 1227 = .ok (.aload_n 0, 1) := by decide +kernel
theorem d_Mo_init_1228 : decode b_Mo_init 1228 = .ok (.bipush 60, 2) := by decide +kernel
theorem d_Mo_init_1230 : decode b_Mo_init 1230 = .ok (.newarray .int, 2) := by decide +kernel
theorem d_Mo_init_1232 : decode b_Mo_init 1232 = .ok (.putfield 89, 3) := by decide +kernel
theorem d_Mo_init_1235 : decode b_Mo_init 1235 = .ok (.aload_n 0, 1) := by decide +kernel
theorem d_Mo_init_1236 : decode b_Mo_init 1236 = .ok (.bipush 60, 2) := by decide +kernel
theorem d_Mo_init_1238 : decode b_Mo_init 1238 = .ok (.newarray .int, 2) := by decide +kernel
theorem d_Mo_init_1240 : decode b_Mo_init 1240 = .ok (.putfield 92, 3) := by decide +kernel
theorem d_Mo_init_1243 : decode b_Mo_init 1243 = .ok (.aload_n 0, 1) := by decide +kernel
theorem d_Mo_init_1244 : decode b_Mo_init 1244 = .ok (.bipush 60, 2) := by decide +kernel
theorem d_Mo_init_1246 : decode b_Mo_init 1246 = .ok (.newarray .int, 2) := by decide +kernel
theorem d_Mo_init_1248 : decode b_Mo_init 1248 = .ok (.putfield 95, 3) := by decide +kernel
theorem d_Mo_init_1251 : decode b_Mo_init 1251 = .ok (.aload_n 0, 1) := by decide +kernel
theorem d_Mo_init_1252 : decode b_Mo_init 1252 = .ok (.bipush 60, 2) := by decide +kernel
theorem d_Mo_init_1254 : decode b_Mo_init 1254 = .ok (.newarray .long, 2) := by decide +kernel
theorem d_Mo_init_1256 : decode b_Mo_init 1256 = .ok (.putfield 98, 3) := by decide +kernel
theorem d_Mo_init_1259 : decode b_Mo_init 1259 = .ok (.aload_n 0, 1) := by decide +kernel
theorem d_Mo_init_1260 : decode b_Mo_init 1260 = .ok (.sipush 420, 3) := by decide +kernel
theorem d_Mo_init_1263 : decode b_Mo_init 1263 = .ok (.newarray .int, 2) := by decide +kernel
theorem d_Mo_init_1265 : decode b_Mo_init 1265 = .ok (.putfield 102, 3) := by decide +kernel
theorem d_Mo_init_1268 : decode b_Mo_init 1268 = .ok (.aload_n 0, 1) := by decide +kernel
theorem d_Mo_init_1269 : decode b_Mo_init 1269 = .ok (.sipush 420, 3) := by decide +kernel
theorem d_Mo_init_1272 : decode b_Mo_init 1272 = .ok (.newarray .int, 2) := by decide +kernel
theorem d_Mo_init_1274 : decode b_Mo_init 1274 = .ok (.putfield 105, 3) := by decide +kernel
theorem d_Mo_init_1277 : decode b_Mo_init 1277 = .ok (.aload_n 0, 1) := by decide +kernel
theorem d_Mo_init_1278 : decode b_Mo_init 1278 = .ok (.sipush 420, 3) := by decide +kernel
theorem d_Mo_init_1281 : decode b_Mo_init 1281 = .ok (.newarray .int, 2) := by decide +kernel
theorem d_Mo_init_1283 : decode b_Mo_init 1283 = .ok (.putfield 108, 3) := by decide +kernel
theorem d_Mo_init_1286 : decode b_Mo_init 1286 = .ok (.aload_n 0, 1) := by decide +kernel
theorem d_Mo_init_1287 : decode b_Mo_init 1287 = .ok (.sipush 400, 3) := by decide +kernel
theorem d_Mo_init_1290 : decode b_Mo_init 1290 = .ok (.newarray .int, 2) := by decide +kernel
theorem d_Mo_init_1292 : decode b_Mo_init 1292 = .ok (.putfield 111, 3) := by decide +kernel
theorem d_Mo_init_1295 : decode b_Mo_init 1295 = .ok (.aload_n 0, 1) := by decide +kernel
theorem d_Mo_init_1296 : decode b_Mo_init 1296 = .ok (.sipush 400, 3) := by decide +kernel
theorem d_Mo_init_1299 : decode b_Mo_init 1299 = .ok (.newarray .int, 2) := by decide +kernel
theorem d_Mo_init_1301 : decode b_Mo_init 1301 = .ok (.putfield 114, 3) := by decide +kernel
theorem d_Mo_init_1304 : decode b_Mo_init 1304 = .ok (.aload_n 0, 1) := by decide +kernel
theorem d_Mo_init_1305 : decode b_Mo_init 1305 = .ok (.sipush 1500, 3) := by decide +kernel
theorem d_Mo_init_1308 : decode b_Mo_init 1308 = .ok (.newarray .byte, 2) := by decide +kernel
theorem d_Mo_init_1310 : decode b_Mo_init 1310 = .ok (.putfield 117, 3) := by decide +kernel
theorem d_Mo_init_1313 : decode b_Mo_init 1313 = .ok (.aload_n 0, 1) := by decide +kernel
theorem d_Mo_init_1314 : decode b_Mo_init 1314 = .ok (.sipush 1510, 3) := by decide +kernel
theorem d_Mo_init_1317 : decode b_Mo_init 1317 = .ok (.newarray .int, 2) := by decide +kernel
theorem d_Mo_init_1319 : decode b_Mo_init 1319 = .ok (.putfield 120, 3) := by decide +kernel
theorem d_Mo_init_1322 : decode b_Mo_init 1322 = .ok (.aload_n 0, 1) := by decide +kernel
theorem d_Mo_init_1323 : decode b_Mo_init 1323 = .ok (.sipush 1510, 3) := by decide +kernel
theorem d_Mo_init_1326 : decode b_Mo_init 1326 = .ok (.newarray .int, 2) := by decide +kernel
theorem d_Mo_init_1328 : decode b_Mo_init 1328 = .ok (.putfield 123, 3) := by decide +kernel
theorem d_Mo_init_1331 : decode b_Mo_init 1331 = .ok (.aload_n 0, 1) := by decide +kernel
theorem d_Mo_init_1332 : decode b_Mo_init 1332 = .ok (.sipush 1500, 3) := by decide +kernel
theorem d_Mo_init_1335 : decode b_Mo_init 1335 = .ok (.newarray .byte, 2) := by decide +kernel
theorem d_Mo_init_1337 : decode b_Mo_init 1337 = .ok (.putfield 126, 3) := by decide +kernel
theorem d_Mo_init_1340 : decode b_Mo_init 1340 = .ok (.aload_n 0, 1) := by decide +kernel
theorem d_Mo_init_1341 : decode b_Mo_init 1341 = .ok (.sipush 1500, 3) := by decide +kernel
theorem d_Mo_init_1344 : decode b_Mo_init 1344 = .ok (.newarray .byte, 2) := by decide +kernel
theorem d_Mo_init_1346 : decode b_Mo_init 1346 = .ok (.putfield 129, 3) := by decide +kernel
theorem d_Mo_init_1349 : decode b_Mo_init 1349 = .ok (.aload_n 0, 1) := by decide +kernel
theorem d_Mo_init_1350 : decode b_Mo_init 1350 = .ok (.sipush 1500, 3) := by decide +kernel
theorem d_Mo_init_1353 : decode b_Mo_init 1353 = .ok (.newarray .int, 2) := by decide +kernel
theorem d_Mo_init_1355 : decode b_Mo_init 1355 = .ok (.putfield 132, 3) := by decide +kernel
theorem d_Mo_init_1358 : decode b_Mo_init 1358 = .ok (.return_, 1) := by decide +kernel
