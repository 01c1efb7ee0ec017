theorem dL_law_1033 : decode code 1033 = .ok (.aload_n 0, 1) := by decide +kernel
theorem dL_law_1034 : decode code 1034 = .ok (.iload 4, 2) := by decide +kernel
theorem dL_law_1036 : decode code 1036 = .ok (.iconst 1, 1) := by decide +kernel
theorem dL_law_1037 : decode code 1037 = .ok (.iadd, 1) := by decide +kernel
theorem dL_law_1038 : decode code 1038 = .ok (.iaload, 1) := by decide +kernel
theorem dL_law_1039 : decode code 1039 = .ok (.aload_n 0, 1) := by decide +kernel
theorem dL_law_1040 : decode code 1040 = .ok (.iload 4, 2) := by decide +kernel
theorem dL_law_1042 : decode code 1042 = .ok (.iconst 2, 1) := by decide +kernel
theorem dL_law_1043 : decode code 1043 = .ok (.iadd, 1) := by decide +kernel
theorem dL_law_1044 : decode code 1044 = .ok (.iaload, 1) := by decide +kernel
theorem dL_law_1045 : decode code 1045 = .ok (.i2l, 1) := by decide +kernel
theorem dL_law_1046 : decode code 1046 = .ok (.bipush 32, 2) := by decide +kernel
theorem dL_law_1048 : decode code 1048 = .ok (.lshl, 1) := by decide +kernel
theorem dL_law_1049 : decode code 1049 = .ok (.aload_n 0, 1) := by decide +kernel
theorem dL_law_1050 : decode code 1050 = .ok (.iload 4, 2) := by decide +kernel
theorem dL_law_1052 : decode code 1052 = .ok (.iconst 3, 1) := by decide +kernel
theorem dL_law_1053 : decode code 1053 = .ok (.iadd, 1) := by decide +kernel
theorem dL_law_1054 : decode code 1054 = .ok (.iaload, 1) := by decide +kernel
theorem dL_law_1055 : decode code 1055 = .ok (.i2l, 1) := by decide +kernel
theorem dL_law_1056 : decode code 1056 = .ok (.ldc2_w 66, 3) := by decide +kernel
theorem dL_law_1059 : decode code 1059 = .ok (.land, 1) := by decide +kernel
theorem dL_law_1060 : decode code 1060 = .ok (.lor, 1) := by decide +kernel
theorem dL_law_1061 : decode code 1061 = .ok (.aload_n 0, 1) := by decide +kernel
theorem dL_law_1062 : decode code 1062 = .ok (.iload 4, 2) := by decide +kernel
theorem dL_law_1064 : decode code 1064 = .ok (.iconst 4, 1) := by decide +kernel
theorem dL_law_1065 : decode code 1065 = .ok (.iadd, 1) := by decide +kernel
theorem dL_law_1066 : decode code 1066 = .ok (.iaload, 1) := by decide +kernel
theorem dL_law_1067 : decode code 1067 = .ok (.i2l, 1) := by decide +kernel
theorem dL_law_1068 : decode code 1068 = .ok (.bipush 32, 2) := by decide +kernel
theorem dL_law_1070 : decode code 1070 = .ok (.lshl, 1) := by decide +kernel
theorem dL_law_1071 : decode code 1071 = .ok (.aload_n 0, 1) := by decide +kernel
theorem dL_law_1072 : decode code 1072 = .ok (.iload 4, 2) := by decide +kernel
theorem dL_law_1074 : decode code 1074 = .ok (.iconst 5, 1) := by decide +kernel
theorem dL_law_1075 : decode code 1075 = .ok (.iadd, 1) := by decide +kernel
theorem dL_law_1076 : decode code 1076 = .ok (.iaload, 1) := by decide +kernel
theorem dL_law_1077 : decode code 1077 = .ok (.i2l, 1) := by decide +kernel
theorem dL_law_1078 : decode code 1078 = .ok (.ldc2_w 66, 3) := by decide +kernel
theorem dL_law_1081 : decode code 1081 = .ok (.land, 1) := by decide +kernel
theorem dL_law_1082 : decode code 1082 = .ok (.lor, 1) := by decide +kernel
theorem dL_law_1083 : decode code 1083 = .ok (.invokevirtual 104, 3) := by decide +kernel
theorem dL_law_1086 : decode code 1086 = .ok (.istore 6, 2) := by decide +kernel
theorem dL_law_1088 : decode code 1088 = .ok (.aload_n 2, 1) := by decide +kernel
theorem dL_law_1089 : decode code 1089 = .ok (.invokevirtual 74, 3) := by decide +kernel
theorem dL_law_1092 : decode code 1092 = .ok (.iload 5, 2) := by decide +kernel
theorem dL_law_1094 : decode code 1094 = .ok (.if_icmp .eq 5, 3) := by decide +kernel
theorem dL_law_1097 : decode code 1097 = .ok (.iconst 0, 1) := by decide +kernel
theorem dL_law_1098 : decode code 1098 = .ok (.ireturn, 1) := by decide +kernel
theorem dL_law_1099 : decode code 1099 = .ok (.iload 5, 2) := by decide +kernel
theorem dL_law_1101 : decode code 1101 = .ok (.ifCond .ne 22, 3) := by decide +kernel
theorem dL_law_1104 : decode code 1104 = .ok (.aload_n 3, 1) := by decide +kernel
theorem dL_law_1105 : decode code 1105 = .ok (.iconst 0, 1) := by decide +kernel
theorem dL_law_1106 : decode code 1106 = .ok (.laload, 1) := by decide +kernel
theorem dL_law_1107 : decode code 1107 = .ok (.iload 6, 2) := by decide +kernel
theorem dL_law_1109 : decode code 1109 = .ok (.ifCond .eq 7, 3) := by decide +kernel
theorem dL_law_1112 : decode code 1112 = .ok (.lconst 1, 1) := by decide +kernel
theorem dL_law_1113 : decode code 1113 = .ok (.goto 4, 3) := by decide +kernel
theorem dL_law_1116 : decode code 1116 = .ok (.lconst 0, 1) := by decide +kernel
theorem dL_law_1117 : decode code 1117 = .ok (.lcmp, 1) := by decide +kernel
theorem dL_law_1118 : decode code 1118 = .ok (.ifCond .eq 5, 3) := by decide +kernel
theorem dL_law_1121 : decode code 1121 = .ok (.iconst 0, 1) := by decide +kernel
theorem dL_law_1122 : decode code 1122 = .ok (.ireturn, 1) := by decide +kernel
theorem dL_law_1123 : decode code 1123 = .ok (.goto 409, 3) := by decide +kernel
theorem dL_law_1126 : decode code 1126 = .ok (.aload_n 1, 1) := by decide +kernel
theorem dL_law_1127 : decode code 1127 = .ok (.aload_n 0, 1) := by decide +kernel
theorem dL_law_1128 : decode code 1128 = .ok (.iload 4, 2) := by decide +kernel
theorem dL_law_1130 : decode code 1130 = .ok (.iconst 1, 1) := by decide +kernel
theorem dL_law_1131 : decode code 1131 = .ok (.iadd, 1) := by decide +kernel
theorem dL_law_1132 : decode code 1132 = .ok (.iaload, 1) := by decide +kernel
theorem dL_law_1133 : decode code 1133 = .ok (.aload_n 0, 1) := by decide +kernel
theorem dL_law_1134 : decode code 1134 = .ok (.iload 4, 2) := by decide +kernel
theorem dL_law_1136 : decode code 1136 = .ok (.iconst 2, 1) := by decide +kernel
theorem dL_law_1137 : decode code 1137 = .ok (.iadd, 1) := by decide +kernel
theorem dL_law_1138 : decode code 1138 = .ok (.iaload, 1) := by decide +kernel
theorem dL_law_1139 : decode code 1139 = .ok (.aload_n 0, 1) := by decide +kernel
theorem dL_law_1140 : decode code 1140 = .ok (.iload 4, 2) := by decide +kernel
theorem dL_law_1142 : decode code 1142 = .ok (.iconst 3, 1) := by decide +kernel
theorem dL_law_1143 : decode code 1143 = .ok (.iadd, 1) := by decide +kernel
theorem dL_law_1144 : decode code 1144 = .ok (.iaload, 1) := by decide +kernel
theorem dL_law_1145 : decode code 1145 = .ok (.i2l, 1) := by decide +kernel
theorem dL_law_1146 : decode code 1146 = .ok (.bipush 32, 2) := by decide +kernel
theorem dL_law_1148 : decode code 1148 = .ok (.lshl, 1) := by decide +kernel
theorem dL_law_1149 : decode code 1149 = .ok (.aload_n 0, 1) := by decide +kernel
theorem dL_law_1150 : decode code 1150 = .ok (.iload 4, 2) := by decide +kernel
theorem dL_law_1152 : decode code 1152 = .ok (.iconst 4, 1) := by decide +kernel
theorem dL_law_1153 : decode code 1153 = .ok (.iadd, 1) := by decide +kernel
theorem dL_law_1154 : decode code 1154 = .ok (.iaload, 1) := by decide +kernel
theorem dL_law_1155 : decode code 1155 = .ok (.i2l, 1) := by decide +kernel
theorem dL_law_1156 : decode code 1156 = .ok (.ldc2_w 66, 3) := by decide +kernel
theorem dL_law_1159 : decode code 1159 = .ok (.land, 1) := by decide +kernel
theorem dL_law_1160 : decode code 1160 = .ok (.lor, 1) := by decide +kernel
theorem dL_law_1161 : decode code 1161 = .ok (.aload_n 3, 1) := by decide +kernel
theorem dL_law_1162 : decode code 1162 = .ok (.invokestatic 105, 3) := by decide +kernel
theorem dL_law_1165 : decode code 1165 = .ok (.istore 5, 2) := by decide +kernel
theorem dL_law_1167 : decode code 1167 = .ok (.aload_n 2, 1) := by decide +kernel
theorem dL_law_1168 : decode code 1168 = .ok (.aload_n 0, 1) := by decide +kernel
theorem dL_law_1169 : decode code 1169 = .ok (.iload 4, 2) := by decide +kernel
theorem dL_law_1171 : decode code 1171 = .ok (.iconst 1, 1) := by decide +kernel
theorem dL_law_1172 : decode code 1172 = .ok (.iadd, 1) := by decide +kernel
theorem dL_law_1173 : decode code 1173 = .ok (.iaload, 1) := by decide +kernel
theorem dL_law_1174 : decode code 1174 = .ok (.aload_n 0, 1) := by decide +kernel
theorem dL_law_1175 : decode code 1175 = .ok (.iload 4, 2) := by decide +kernel
theorem dL_law_1177 : decode code 1177 = .ok (.iconst 2, 1) := by decide +kernel
theorem dL_law_1178 : decode code 1178 = .ok (.iadd, 1) := by decide +kernel
theorem dL_law_1179 : decode code 1179 = .ok (.iaload, 1) := by decide +kernel
theorem dL_law_1180 : decode code 1180 = .ok (.aload_n 0, 1) := by decide +kernel
theorem dL_law_1181 : decode code 1181 = .ok (.iload 4, 2) := by decide +kernel
theorem dL_law_1183 : decode code 1183 = .ok (.iconst 3, 1) := by decide +kernel
theorem dL_law_1184 : decode code 1184 = .ok (.iadd, 1) := by decide +kernel
theorem dL_law_1185 : decode code 1185 = .ok (.iaload, 1) := by decide +kernel
theorem dL_law_1186 : decode code 1186 = .ok (.i2l, 1) := by decide +kernel
theorem dL_law_1187 : decode code 1187 = .ok (.bipush 32, 2) := by decide +kernel
theorem dL_law_1189 : decode code 1189 = .ok (.lshl, 1) := by decide +kernel
theorem dL_law_1190 : decode code 1190 = .ok (.aload_n 0, 1) := by decide +kernel
theorem dL_law_1191 : decode code 1191 = .ok (.iload 4, 2) := by decide +kernel
theorem dL_law_1193 : decode code 1193 = .ok (.iconst 4, 1) := by decide +kernel
theorem dL_law_1194 : decode code 1194 = .ok (.iadd, 1) := by decide +kernel
theorem dL_law_1195 : decode code 1195 = .ok (.iaload, 1) := by decide +kernel
theorem dL_law_1196 : decode code 1196 = .ok (.i2l, 1) := by decide +kernel
theorem dL_law_1197 : decode code 1197 = .ok (.ldc2_w 66, 3) := by decide +kernel
theorem dL_law_1200 : decode code 1200 = .ok (.land, 1) := by decide +kernel
theorem dL_law_1201 : decode code 1201 = .ok (.lor, 1) := by decide +kernel
theorem dL_law_1202 : decode code 1202 = .ok (.invokevirtual 108, 3) := by decide +kernel
theorem dL_law_1205 : decode code 1205 = .ok (.istore 6, 2) := by decide +kernel
theorem dL_law_1207 : decode code 1207 = .ok (.aload_n 2, 1) := by decide +kernel
theorem dL_law_1208 : decode code 1208 = .ok (.invokevirtual 74, 3) := by decide +kernel
theorem dL_law_1211 : decode code 1211 = .ok (.iload 5, 2) := by decide +kernel
theorem dL_law_1213 : decode code 1213 = .ok (.if_icmp .eq 5, 3) := by decide +kernel
theorem dL_law_1216 : decode code 1216 = .ok (.iconst 0, 1) := by decide +kernel
theorem dL_law_1217 : decode code 1217 = .ok (.ireturn, 1) := by decide +kernel
theorem dL_law_1218 : decode code 1218 = .ok (.iload 5, 2) := by decide +kernel
theorem dL_law_1220 : decode code 1220 = .ok (.ifCond .ne 15, 3) := by decide +kernel
theorem dL_law_1223 : decode code 1223 = .ok (.aload_n 3, 1) := by decide +kernel
theorem dL_law_1224 : decode code 1224 = .ok (.iconst 0, 1) := by decide +kernel
theorem dL_law_1225 : decode code 1225 = .ok (.laload, 1) := by decide +kernel
theorem dL_law_1226 : decode code 1226 = .ok (.iload 6, 2) := by decide +kernel
theorem dL_law_1228 : decode code 1228 = .ok (.i2l, 1) := by decide +kernel
theorem dL_law_1229 : decode code 1229 = .ok (.lcmp, 1) := by decide +kernel
theorem dL_law_1230 : decode code 1230 = .ok (.ifCond .eq 5, 3) := by decide +kernel
theorem dL_law_1233 : decode code 1233 = .ok (.iconst 0, 1) := by decide +kernel
theorem dL_law_1234 : decode code 1234 = .ok (.ireturn, 1) := by decide +kernel
theorem dL_law_1235 : decode code 1235 = .ok (.goto 297, 3) := by decide +kernel
theorem dL_law_1238 : decode code 1238 = .ok (.aload_n 1, 1) := by decide +kernel
theorem dL_law_1239 : decode code 1239 = .ok (.aload_n 0, 1) := by decide +kernel
theorem dL_law_1240 : decode code 1240 = .ok (.iload 4, 2) := by decide +kernel
theorem dL_law_1242 : decode code 1242 = .ok (.iconst 1, 1) := by decide +kernel
theorem dL_law_1243 : decode code 1243 = .ok (.iadd, 1) := by decide +kernel
theorem dL_law_1244 : decode code 1244 = .ok (.iaload, 1) := by decide +kernel
theorem dL_law_1245 : decode code 1245 = .ok (.aload_n 0, 1) := by decide +kernel
theorem dL_law_1246 : decode code 1246 = .ok (.iload 4, 2) := by decide +kernel
theorem dL_law_1248 : decode code 1248 = .ok (.iconst 2, 1) := by decide +kernel
theorem dL_law_1249 : decode code 1249 = .ok (.iadd, 1) := by decide +kernel
theorem dL_law_1250 : decode code 1250 = .ok (.iaload, 1) := by decide +kernel
theorem dL_law_1251 : decode code 1251 = .ok (.aload_n 3, 1) := by decide +kernel
theorem dL_law_1252 : decode code 1252 = .ok (.invokestatic 109, 3) := by decide +kernel
theorem dL_law_1255 : decode code 1255 = .ok (.istore 5, 2) := by decide +kernel
theorem dL_law_1257 : decode code 1257 = .ok (.aload_n 2, 1) := by decide +kernel
theorem dL_law_1258 : decode code 1258 = .ok (.aload_n 0, 1) := by decide +kernel
theorem dL_law_1259 : decode code 1259 = .ok (.iload 4, 2) := by decide +kernel
theorem dL_law_1261 : decode code 1261 = .ok (.iconst 1, 1) := by decide +kernel
theorem dL_law_1262 : decode code 1262 = .ok (.iadd, 1) := by decide +kernel
theorem dL_law_1263 : decode code 1263 = .ok (.iaload, 1) := by decide +kernel
theorem dL_law_1264 : decode code 1264 = .ok (.aload_n 0, 1) := by decide +kernel
theorem dL_law_1265 : decode code 1265 = .ok (.iload 4, 2) := by decide +kernel
theorem dL_law_1267 : decode code 1267 = .ok (.iconst 2, 1) := by decide +kernel
theorem dL_law_1268 : decode code 1268 = .ok (.iadd, 1) := by decide +kernel
theorem dL_law_1269 : decode code 1269 = .ok (.iaload, 1) := by decide +kernel
theorem dL_law_1270 : decode code 1270 = .ok (.invokevirtual 112, 3) := by decide +kernel
theorem dL_law_1273 : decode code 1273 = .ok (.lstore 6, 2) := by decide +kernel
theorem dL_law_1275 : decode code 1275 = .ok (.aload_n 2, 1) := by decide +kernel
theorem dL_law_1276 : decode code 1276 = .ok (.invokevirtual 74, 3) := by decide +kernel
theorem dL_law_1279 : decode code 1279 = .ok (.iload 5, 2) := by decide +kernel
theorem dL_law_1281 : decode code 1281 = .ok (.if_icmp .eq 5, 3) := by decide +kernel
theorem dL_law_1284 : decode code 1284 = .ok (.iconst 0, 1) := by decide +kernel
theorem dL_law_1285 : decode code 1285 = .ok (.ireturn, 1) := by decide +kernel
theorem dL_law_1286 : decode code 1286 = .ok (.iload 5, 2) := by decide +kernel
theorem dL_law_1288 : decode code 1288 = .ok (.ifCond .ne 14, 3) := by decide +kernel
theorem dL_law_1291 : decode code 1291 = .ok (.aload_n 3, 1) := by decide +kernel
theorem dL_law_1292 : decode code 1292 = .ok (.iconst 0, 1) := by decide +kernel
theorem dL_law_1293 : decode code 1293 = .ok (.laload, 1) := by decide +kernel
theorem dL_law_1294 : decode code 1294 = .ok (.lload 6, 2) := by decide +kernel
theorem dL_law_1296 : decode code 1296 = .ok (.lcmp, 1) := by decide +kernel
theorem dL_law_1297 : decode code 1297 = .ok (.ifCond .eq 5, 3) := by decide +kernel
theorem dL_law_1300 : decode code 1300 = .ok (.iconst 0, 1) := by decide +kernel
theorem dL_law_1301 : decode code 1301 = .ok (.ireturn, 1) := by decide +kernel
theorem dL_law_1302 : decode code 1302 = .ok (.goto 230, 3) := by decide +kernel
theorem dL_law_1305 : decode code 1305 = .ok (.aload_n 1, 1) := by decide +kernel
theorem dL_law_1306 : decode code 1306 = .ok (.aload_n 0, 1) := by decide +kernel
theorem dL_law_1307 : decode code 1307 = .ok (.iload 4, 2) := by decide +kernel
theorem dL_law_1309 : decode code 1309 = .ok (.iconst 1, 1) := by decide +kernel
theorem dL_law_1310 : decode code 1310 = .ok (.iadd, 1) := by decide +kernel
theorem dL_law_1311 : decode code 1311 = .ok (.iaload, 1) := by decide +kernel
theorem dL_law_1312 : decode code 1312 = .ok (.aload_n 0, 1) := by decide +kernel
theorem dL_law_1313 : decode code 1313 = .ok (.iload 4, 2) := by decide +kernel
theorem dL_law_1315 : decode code 1315 = .ok (.iconst 2, 1) := by decide +kernel
theorem dL_law_1316 : decode code 1316 = .ok (.iadd, 1) := by decide +kernel
theorem dL_law_1317 : decode code 1317 = .ok (.iaload, 1) := by decide +kernel
theorem dL_law_1318 : decode code 1318 = .ok (.aload_n 0, 1) := by decide +kernel
theorem dL_law_1319 : decode code 1319 = .ok (.iload 4, 2) := by decide +kernel
theorem dL_law_1321 : decode code 1321 = .ok (.iconst 3, 1) := by decide +kernel
theorem dL_law_1322 : decode code 1322 = .ok (.iadd, 1) := by decide +kernel
theorem dL_law_1323 : decode code 1323 = .ok (.iaload, 1) := by decide +kernel
theorem dL_law_1324 : decode code 1324 = .ok (.ifCond .eq 7, 3) := by decide +kernel
theorem dL_law_1327 : decode code 1327 = .ok (.iconst 1, 1) := by decide +kernel
theorem dL_law_1328 : decode code 1328 = .ok (.goto 4, 3) := by decide +kernel
theorem dL_law_1331 : decode code 1331 = .ok (.iconst 0, 1) := by decide +kernel
theorem dL_law_1332 : decode code 1332 = .ok (.aload_n 3, 1) := by decide +kernel
theorem dL_law_1333 : decode code 1333 = .ok (.invokestatic 113, 3) := by decide +kernel
theorem dL_law_1336 : decode code 1336 = .ok (.istore 5, 2) := by decide +kernel
theorem dL_law_1338 : decode code 1338 = .ok (.aload_n 2, 1) := by decide +kernel
theorem dL_law_1339 : decode code 1339 = .ok (.aload_n 0, 1) := by decide +kernel
theorem dL_law_1340 : decode code 1340 = .ok (.iload 4, 2) := by decide +kernel
theorem dL_law_1342 : decode code 1342 = .ok (.iconst 1, 1) := by decide +kernel
theorem dL_law_1343 : decode code 1343 = .ok (.iadd, 1) := by decide +kernel
theorem dL_law_1344 : decode code 1344 = .ok (.iaload, 1) := by decide +kernel
theorem dL_law_1345 : decode code 1345 = .ok (.aload_n 0, 1) := by decide +kernel
theorem dL_law_1346 : decode code 1346 = .ok (.iload 4, 2) := by decide +kernel
theorem dL_law_1348 : decode code 1348 = .ok (.iconst 2, 1) := by decide +kernel
theorem dL_law_1349 : decode code 1349 = .ok (.iadd, 1) := by decide +kernel
theorem dL_law_1350 : decode code 1350 = .ok (.iaload, 1) := by decide +kernel
theorem dL_law_1351 : decode code 1351 = .ok (.aload_n 0, 1) := by decide +kernel
theorem dL_law_1352 : decode code 1352 = .ok (.iload 4, 2) := by decide +kernel
theorem dL_law_1354 : decode code 1354 = .ok (.iconst 3, 1) := by decide +kernel
theorem dL_law_1355 : decode code 1355 = .ok (.iadd, 1) := by decide +kernel
theorem dL_law_1356 : decode code 1356 = .ok (.iaload, 1) := by decide +kernel
theorem dL_law_1357 : decode code 1357 = .ok (.ifCond .eq 7, 3) := by decide +kernel
theorem dL_law_1360 : decode code 1360 = .ok (.iconst 1, 1) := by decide +kernel
theorem dL_law_1361 : decode code 1361 = .ok (.goto 4, 3) := by decide +kernel
theorem dL_law_1364 : decode code 1364 = .ok (.iconst 0, 1) := by decide +kernel
theorem dL_law_1365 : decode code 1365 = .ok (.invokevirtual 116, 3) := by decide +kernel
theorem dL_law_1368 : decode code 1368 = .ok (.istore 6, 2) := by decide +kernel
theorem dL_law_1370 : decode code 1370 = .ok (.aload_n 2, 1) := by decide +kernel
theorem dL_law_1371 : decode code 1371 = .ok (.invokevirtual 74, 3) := by decide +kernel
theorem dL_law_1374 : decode code 1374 = .ok (.iload 5, 2) := by decide +kernel
theorem dL_law_1376 : decode code 1376 = .ok (.if_icmp .eq 5, 3) := by decide +kernel
theorem dL_law_1379 : decode code 1379 = .ok (.iconst 0, 1) := by decide +kernel
theorem dL_law_1380 : decode code 1380 = .ok (.ireturn, 1) := by decide +kernel
theorem dL_law_1381 : decode code 1381 = .ok (.iload 5, 2) := by decide +kernel
theorem dL_law_1383 : decode code 1383 = .ok (.ifCond .ne 15, 3) := by decide +kernel
theorem dL_law_1386 : decode code 1386 = .ok (.aload_n 3, 1) := by decide +kernel
theorem dL_law_1387 : decode code 1387 = .ok (.iconst 0, 1) := by decide +kernel
theorem dL_law_1388 : decode code 1388 = .ok (.laload, 1) := by decide +kernel
theorem dL_law_1389 : decode code 1389 = .ok (.iload 6, 2) := by decide +kernel
theorem dL_law_1391 : decode code 1391 = .ok (.i2l, 1) := by decide +kernel
theorem dL_law_1392 : decode code 1392 = .ok (.lcmp, 1) := by decide +kernel
theorem dL_law_1393 : decode code 1393 = .ok (.ifCond .eq 5, 3) := by decide +kernel
theorem dL_law_1396 : decode code 1396 = .ok (.iconst 0, 1) := by decide +kernel
theorem dL_law_1397 : decode code 1397 = .ok (.ireturn, 1) := by decide +kernel
theorem dL_law_1398 : decode code 1398 = .ok (.goto 134, 3) := by decide +kernel
theorem dL_law_1401 : decode code 1401 = .ok (.aload_n 1, 1) := by decide +kernel
theorem dL_law_1402 : decode code 1402 = .ok (.aload_n 0, 1) := by decide +kernel
theorem dL_law_1403 : decode code 1403 = .ok (.iload 4, 2) := by decide +kernel
theorem dL_law_1405 : decode code 1405 = .ok (.iconst 1, 1) := by decide +kernel
theorem dL_law_1406 : decode code 1406 = .ok (.iadd, 1) := by decide +kernel
theorem dL_law_1407 : decode code 1407 = .ok (.iaload, 1) := by decide +kernel
theorem dL_law_1408 : decode code 1408 = .ok (.aload_n 3, 1) := by decide +kernel
theorem dL_law_1409 : decode code 1409 = .ok (.invokestatic 117, 3) := by decide +kernel
theorem dL_law_1412 : decode code 1412 = .ok (.istore 5, 2) := by decide +kernel
theorem dL_law_1414 : decode code 1414 = .ok (.aload_n 2, 1) := by decide +kernel
theorem dL_law_1415 : decode code 1415 = .ok (.aload_n 0, 1) := by decide +kernel
theorem dL_law_1416 : decode code 1416 = .ok (.iload 4, 2) := by decide +kernel
theorem dL_law_1418 : decode code 1418 = .ok (.iconst 1, 1) := by decide +kernel
theorem dL_law_1419 : decode code 1419 = .ok (.iadd, 1) := by decide +kernel
theorem dL_law_1420 : decode code 1420 = .ok (.iaload, 1) := by decide +kernel
theorem dL_law_1421 : decode code 1421 = .ok (.invokevirtual 119, 3) := by decide +kernel
theorem dL_law_1424 : decode code 1424 = .ok (.istore 6, 2) := by decide +kernel
theorem dL_law_1426 : decode code 1426 = .ok (.aload_n 2, 1) := by decide +kernel
theorem dL_law_1427 : decode code 1427 = .ok (.invokevirtual 74, 3) := by decide +kernel
theorem dL_law_1430 : decode code 1430 = .ok (.iload 5, 2) := by decide +kernel
theorem dL_law_1432 : decode code 1432 = .ok (.if_icmp .eq 5, 3) := by decide +kernel
theorem dL_law_1435 : decode code 1435 = .ok (.iconst 0, 1) := by decide +kernel
theorem dL_law_1436 : decode code 1436 = .ok (.ireturn, 1) := by decide +kernel
theorem dL_law_1437 : decode code 1437 = .ok (.iload 5, 2) := by decide +kernel
theorem dL_law_1439 : decode code 1439 = .ok (.ifCond .ne 15, 3) := by decide +kernel
theorem dL_law_1442 : decode code 1442 = .ok (.aload_n 3, 1) := by decide +kernel
theorem dL_law_1443 : decode code 1443 = .ok (.iconst 0, 1) := by decide +kernel
theorem dL_law_1444 : decode code 1444 = .ok (.laload, 1) := by decide +kernel
theorem dL_law_1445 : decode code 1445 = .ok (.iload 6, 2) := by decide +kernel
theorem dL_law_1447 : decode code 1447 = .ok (.i2l, 1) := by decide +kernel
theorem dL_law_1448 : decode code 1448 = .ok (.lcmp, 1) := by decide +kernel
theorem dL_law_1449 : decode code 1449 = .ok (.ifCond .eq 5, 3) := by decide +kernel
theorem dL_law_1452 : decode code 1452 = .ok (.iconst 0, 1) := by decide +kernel
theorem dL_law_1453 : decode code 1453 = .ok (.ireturn, 1) := by decide +kernel
theorem dL_law_1454 : decode code 1454 = .ok (.goto 78, 3) := by decide +kernel
theorem dL_law_1457 : decode code 1457 = .ok (.aload_n 1, 1) := by decide +kernel
theorem dL_law_1458 : decode code 1458 = .ok (.aload_n 0, 1) := by decide +kernel
theorem dL_law_1459 : decode code 1459 = .ok (.iload 4, 2) := by decide +kernel
theorem dL_law_1461 : decode code 1461 = .ok (.iconst 1, 1) := by decide +kernel
theorem dL_law_1462 : decode code 1462 = .ok (.iadd, 1) := by decide +kernel
theorem dL_law_1463 : decode code 1463 = .ok (.iaload, 1) := by decide +kernel
theorem dL_law_1464 : decode code 1464 = .ok (.aload_n 0, 1) := by decide +kernel
theorem dL_law_1465 : decode code 1465 = .ok (.iload 4, 2) := by decide +kernel
theorem dL_law_1467 : decode code 1467 = .ok (.iconst 2, 1) := by decide +kernel
theorem dL_law_1468 : decode code 1468 = .ok (.iadd, 1) := by decide +kernel
theorem dL_law_1469 : decode code 1469 = .ok (.iaload, 1) := by decide +kernel
theorem dL_law_1470 : decode code 1470 = .ok (.aload_n 3, 1) := by decide +kernel
theorem dL_law_1471 : decode code 1471 = .ok (.invokestatic 120, 3) := by decide +kernel
theorem dL_law_1474 : decode code 1474 = .ok (.istore 5, 2) := by decide +kernel
theorem dL_law_1476 : decode code 1476 = .ok (.aload_n 2, 1) := by decide +kernel
theorem dL_law_1477 : decode code 1477 = .ok (.aload_n 0, 1) := by decide +kernel
theorem dL_law_1478 : decode code 1478 = .ok (.iload 4, 2) := by decide +kernel
theorem dL_law_1480 : decode code 1480 = .ok (.iconst 1, 1) := by decide +kernel
theorem dL_law_1481 : decode code 1481 = .ok (.iadd, 1) := by decide +kernel
theorem dL_law_1482 : decode code 1482 = .ok (.iaload, 1) := by decide +kernel
theorem dL_law_1483 : decode code 1483 = .ok (.aload_n 0, 1) := by decide +kernel
theorem dL_law_1484 : decode code 1484 = .ok (.iload 4, 2) := by decide +kernel
theorem dL_law_1486 : decode code 1486 = .ok (.iconst 2, 1) := by decide +kernel
theorem dL_law_1487 : decode code 1487 = .ok (.iadd, 1) := by decide +kernel
theorem dL_law_1488 : decode code 1488 = .ok (.iaload, 1) := by decide +kernel
theorem dL_law_1489 : decode code 1489 = .ok (.invokevirtual 122, 3) := by decide +kernel
theorem dL_law_1492 : decode code 1492 = .ok (.istore 6, 2) := by decide +kernel
theorem dL_law_1494 : decode code 1494 = .ok (.aload_n 2, 1) := by decide +kernel
theorem dL_law_1495 : decode code 1495 = .ok (.invokevirtual 74, 3) := by decide +kernel
theorem dL_law_1498 : decode code 1498 = .ok (.iload 5, 2) := by decide +kernel
theorem dL_law_1500 : decode code 1500 = .ok (.if_icmp .eq 5, 3) := by decide +kernel
theorem dL_law_1503 : decode code 1503 = .ok (.iconst 0, 1) := by decide +kernel
theorem dL_law_1504 : decode code 1504 = .ok (.ireturn, 1) := by decide +kernel
theorem dL_law_1505 : decode code 1505 = .ok (.iload 5, 2) := by decide +kernel
theorem dL_law_1507 : decode code 1507 = .ok (.ifCond .ne 22, 3) := by decide +kernel
theorem dL_law_1510 : decode code 1510 = .ok (.aload_n 3, 1) := by decide +kernel
theorem dL_law_1511 : decode code 1511 = .ok (.iconst 0, 1) := by decide +kernel
theorem dL_law_1512 : decode code 1512 = .ok (.laload, 1) := by decide +kernel
theorem dL_law_1513 : decode code 1513 = .ok (.iload 6, 2) := by decide +kernel
theorem dL_law_1515 : decode code 1515 = .ok (.ifCond .eq 7, 3) := by decide +kernel
theorem dL_law_1518 : decode code 1518 = .ok (.lconst 1, 1) := by decide +kernel
theorem dL_law_1519 : decode code 1519 = .ok (.goto 4, 3) := by decide +kernel
theorem dL_law_1522 : decode code 1522 = .ok (.lconst 0, 1) := by decide +kernel
theorem dL_law_1523 : decode code 1523 = .ok (.lcmp, 1) := by decide +kernel
theorem dL_law_1524 : decode code 1524 = .ok (.ifCond .eq 5, 3) := by decide +kernel
theorem dL_law_1527 : decode code 1527 = .ok (.iconst 0, 1) := by decide +kernel
theorem dL_law_1528 : decode code 1528 = .ok (.ireturn, 1) := by decide +kernel
theorem dL_law_1529 : decode code 1529 = .ok (.goto 3, 3) := by decide +kernel
theorem dL_law_1532 : decode code 1532 = .ok (.iinc 4 11, 3) := by decide +kernel
theorem dL_law_1535 : decode code 1535 = .ok (.goto (-1512), 3) := by decide +kernel
theorem dL_law_1538 : decode code 1538 = .ok (.iconst 1, 1) := by decide +kernel
theorem dL_law_1539 : decode code 1539 = .ok (.ireturn, 1) := by decide +kernel
