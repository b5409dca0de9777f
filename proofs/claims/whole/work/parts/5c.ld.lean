theorem rd_Law_law_1027 : decode mb_Law_law 1027 = .ok (.aload_n 3, 1) := by decide +kernel
theorem rd_Law_law_1028 : decode mb_Law_law 1028 = .ok (.invokestatic 217, 3) := by decide +kernel
theorem rd_Law_law_1031 : decode mb_Law_law 1031 = .ok (.istore 5, 2) := by decide +kernel
theorem rd_Law_law_1033 : decode mb_Law_law 1033 = .ok (.aload_n 2, 1) := by decide +kernel
theorem rd_Law_law_1034 : decode mb_Law_law 1034 = .ok (.aload_n 0, 1) := by decide +kernel
theorem rd_Law_law_1035 : decode mb_Law_law 1035 = .ok (.iload 4, 2) := by decide +kernel
theorem rd_Law_law_1037 : decode mb_Law_law 1037 = .ok (.iconst 1, 1) := by decide +kernel
theorem rd_Law_law_1038 : decode mb_Law_law 1038 = .ok (.iadd, 1) := by decide +kernel
theorem rd_Law_law_1039 : decode mb_Law_law 1039 = .ok (.iaload, 1) := by decide +kernel
theorem rd_Law_law_1040 : decode mb_Law_law 1040 = .ok (.invokevirtual 219, 3) := by decide +kernel
theorem rd_Law_law_1043 : decode mb_Law_law 1043 = .ok (.istore 6, 2) := by decide +kernel
theorem rd_Law_law_1045 : decode mb_Law_law 1045 = .ok (.aload_n 2, 1) := by decide +kernel
theorem rd_Law_law_1046 : decode mb_Law_law 1046 = .ok (.invokevirtual 189, 3) := by decide +kernel
theorem rd_Law_law_1049 : decode mb_Law_law 1049 = .ok (.iload 5, 2) := by decide +kernel
theorem rd_Law_law_1051 : decode mb_Law_law 1051 = .ok (.if_icmp .eq 5, 3) := by decide +kernel
theorem rd_Law_law_1056 : decode mb_Law_law 1056 = .ok (.iload 5, 2) := by decide +kernel
theorem rd_Law_law_1058 : decode mb_Law_law 1058 = .ok (.ifCond .ne 15, 3) := by decide +kernel
theorem rd_Law_law_1061 : decode mb_Law_law 1061 = .ok (.aload_n 3, 1) := by decide +kernel
theorem rd_Law_law_1062 : decode mb_Law_law 1062 = .ok (.iconst 0, 1) := by decide +kernel
theorem rd_Law_law_1063 : decode mb_Law_law 1063 = .ok (.laload, 1) := by decide +kernel
theorem rd_Law_law_1064 : decode mb_Law_law 1064 = .ok (.iload 6, 2) := by decide +kernel
theorem rd_Law_law_1066 : decode mb_Law_law 1066 = .ok (.i2l, 1) := by decide +kernel
theorem rd_Law_law_1067 : decode mb_Law_law 1067 = .ok (.lcmp, 1) := by decide +kernel
theorem rd_Law_law_1068 : decode mb_Law_law 1068 = .ok (.ifCond .eq 5, 3) := by decide +kernel
theorem rd_Law_law_1073 : decode mb_Law_law 1073 = .ok (.goto 1711, 3) := by decide +kernel
theorem rd_Law_law_1076 : decode mb_Law_law 1076 = .ok (.aload_n 1, 1) := by decide +kernel
theorem rd_Law_law_1077 : decode mb_Law_law 1077 = .ok (.aload_n 0, 1) := by decide +kernel
theorem rd_Law_law_1078 : decode mb_Law_law 1078 = .ok (.iload 4, 2) := by decide +kernel
theorem rd_Law_law_1080 : decode mb_Law_law 1080 = .ok (.iconst 1, 1) := by decide +kernel
theorem rd_Law_law_1081 : decode mb_Law_law 1081 = .ok (.iadd, 1) := by decide +kernel
theorem rd_Law_law_1082 : decode mb_Law_law 1082 = .ok (.iaload, 1) := by decide +kernel
theorem rd_Law_law_1083 : decode mb_Law_law 1083 = .ok (.aload_n 0, 1) := by decide +kernel
theorem rd_Law_law_1084 : decode mb_Law_law 1084 = .ok (.iload 4, 2) := by decide +kernel
theorem rd_Law_law_1086 : decode mb_Law_law 1086 = .ok (.iconst 2, 1) := by decide +kernel
theorem rd_Law_law_1087 : decode mb_Law_law 1087 = .ok (.iadd, 1) := by decide +kernel
theorem rd_Law_law_1088 : decode mb_Law_law 1088 = .ok (.iaload, 1) := by decide +kernel
theorem rd_Law_law_1089 : decode mb_Law_law 1089 = .ok (.aload_n 3, 1) := by decide +kernel
theorem rd_Law_law_1090 : decode mb_Law_law 1090 = .ok (.invokestatic 220, 3) := by decide +kernel
theorem rd_Law_law_1093 : decode mb_Law_law 1093 = .ok (.istore 5, 2) := by decide +kernel
theorem rd_Law_law_1095 : decode mb_Law_law 1095 = .ok (.aload_n 2, 1) := by decide +kernel
theorem rd_Law_law_1096 : decode mb_Law_law 1096 = .ok (.aload_n 0, 1) := by decide +kernel
theorem rd_Law_law_1097 : decode mb_Law_law 1097 = .ok (.iload 4, 2) := by decide +kernel
theorem rd_Law_law_1099 : decode mb_Law_law 1099 = .ok (.iconst 1, 1) := by decide +kernel
theorem rd_Law_law_1100 : decode mb_Law_law 1100 = .ok (.iadd, 1) := by decide +kernel
theorem rd_Law_law_1101 : decode mb_Law_law 1101 = .ok (.iaload, 1) := by decide +kernel
theorem rd_Law_law_1102 : decode mb_Law_law 1102 = .ok (.aload_n 0, 1) := by decide +kernel
theorem rd_Law_law_1103 : decode mb_Law_law 1103 = .ok (.iload 4, 2) := by decide +kernel
theorem rd_Law_law_1105 : decode mb_Law_law 1105 = .ok (.iconst 2, 1) := by decide +kernel
theorem rd_Law_law_1106 : decode mb_Law_law 1106 = .ok (.iadd, 1) := by decide +kernel
theorem rd_Law_law_1107 : decode mb_Law_law 1107 = .ok (.iaload, 1) := by decide +kernel
theorem rd_Law_law_1108 : decode mb_Law_law 1108 = .ok (.invokevirtual 222, 3) := by decide +kernel
theorem rd_Law_law_1111 : decode mb_Law_law 1111 = .ok (.istore 6, 2) := by decide +kernel
theorem rd_Law_law_1113 : decode mb_Law_law 1113 = .ok (.aload_n 2, 1) := by decide +kernel
theorem rd_Law_law_1114 : decode mb_Law_law 1114 = .ok (.invokevirtual 189, 3) := by decide +kernel
theorem rd_Law_law_1117 : decode mb_Law_law 1117 = .ok (.iload 5, 2) := by decide +kernel
theorem rd_Law_law_1119 : decode mb_Law_law 1119 = .ok (.if_icmp .eq 5, 3) := by decide +kernel
theorem rd_Law_law_1124 : decode mb_Law_law 1124 = .ok (.iload 5, 2) := by decide +kernel
theorem rd_Law_law_1126 : decode mb_Law_law 1126 = .ok (.ifCond .ne 15, 3) := by decide +kernel
theorem rd_Law_law_1129 : decode mb_Law_law 1129 = .ok (.aload_n 3, 1) := by decide +kernel
theorem rd_Law_law_1130 : decode mb_Law_law 1130 = .ok (.iconst 0, 1) := by decide +kernel
theorem rd_Law_law_1131 : decode mb_Law_law 1131 = .ok (.laload, 1) := by decide +kernel
theorem rd_Law_law_1132 : decode mb_Law_law 1132 = .ok (.iload 6, 2) := by decide +kernel
theorem rd_Law_law_1134 : decode mb_Law_law 1134 = .ok (.i2l, 1) := by decide +kernel
theorem rd_Law_law_1135 : decode mb_Law_law 1135 = .ok (.lcmp, 1) := by decide +kernel
theorem rd_Law_law_1136 : decode mb_Law_law 1136 = .ok (.ifCond .eq 5, 3) := by decide +kernel
theorem rd_Law_law_1141 : decode mb_Law_law 1141 = .ok (.goto 1643, 3) := by decide +kernel
theorem rd_Law_law_1144 : decode mb_Law_law 1144 = .ok (.aload_n 1, 1) := by decide +kernel
theorem rd_Law_law_1145 : decode mb_Law_law 1145 = .ok (.aload_n 0, 1) := by decide +kernel
theorem rd_Law_law_1146 : decode mb_Law_law 1146 = .ok (.iload 4, 2) := by decide +kernel
theorem rd_Law_law_1148 : decode mb_Law_law 1148 = .ok (.iconst 1, 1) := by decide +kernel
theorem rd_Law_law_1149 : decode mb_Law_law 1149 = .ok (.iadd, 1) := by decide +kernel
theorem rd_Law_law_1150 : decode mb_Law_law 1150 = .ok (.iaload, 1) := by decide +kernel
theorem rd_Law_law_1151 : decode mb_Law_law 1151 = .ok (.aload_n 3, 1) := by decide +kernel
theorem rd_Law_law_1152 : decode mb_Law_law 1152 = .ok (.invokestatic 223, 3) := by decide +kernel
theorem rd_Law_law_1155 : decode mb_Law_law 1155 = .ok (.istore 5, 2) := by decide +kernel
theorem rd_Law_law_1157 : decode mb_Law_law 1157 = .ok (.aload_n 2, 1) := by decide +kernel
theorem rd_Law_law_1158 : decode mb_Law_law 1158 = .ok (.aload_n 0, 1) := by decide +kernel
theorem rd_Law_law_1159 : decode mb_Law_law 1159 = .ok (.iload 4, 2) := by decide +kernel
theorem rd_Law_law_1161 : decode mb_Law_law 1161 = .ok (.iconst 1, 1) := by decide +kernel
theorem rd_Law_law_1162 : decode mb_Law_law 1162 = .ok (.iadd, 1) := by decide +kernel
theorem rd_Law_law_1163 : decode mb_Law_law 1163 = .ok (.iaload, 1) := by decide +kernel
theorem rd_Law_law_1164 : decode mb_Law_law 1164 = .ok (.invokevirtual 225, 3) := by decide +kernel
theorem rd_Law_law_1167 : decode mb_Law_law 1167 = .ok (.istore 6, 2) := by decide +kernel
theorem rd_Law_law_1169 : decode mb_Law_law 1169 = .ok (.aload_n 2, 1) := by decide +kernel
theorem rd_Law_law_1170 : decode mb_Law_law 1170 = .ok (.invokevirtual 189, 3) := by decide +kernel
theorem rd_Law_law_1173 : decode mb_Law_law 1173 = .ok (.iload 5, 2) := by decide +kernel
theorem rd_Law_law_1175 : decode mb_Law_law 1175 = .ok (.if_icmp .eq 5, 3) := by decide +kernel
theorem rd_Law_law_1180 : decode mb_Law_law 1180 = .ok (.iload 5, 2) := by decide +kernel
theorem rd_Law_law_1182 : decode mb_Law_law 1182 = .ok (.ifCond .ne 22, 3) := by decide +kernel
theorem rd_Law_law_1185 : decode mb_Law_law 1185 = .ok (.aload_n 3, 1) := by decide +kernel
theorem rd_Law_law_1186 : decode mb_Law_law 1186 = .ok (.iconst 0, 1) := by decide +kernel
theorem rd_Law_law_1187 : decode mb_Law_law 1187 = .ok (.laload, 1) := by decide +kernel
theorem rd_Law_law_1188 : decode mb_Law_law 1188 = .ok (.iload 6, 2) := by decide +kernel
theorem rd_Law_law_1190 : decode mb_Law_law 1190 = .ok (.ifCond .eq 7, 3) := by decide +kernel
theorem rd_Law_law_1193 : decode mb_Law_law 1193 = .ok (.lconst 1, 1) := by decide +kernel
theorem rd_Law_law_1194 : decode mb_Law_law 1194 = .ok (.goto 4, 3) := by decide +kernel
theorem rd_Law_law_1197 : decode mb_Law_law 1197 = .ok (.lconst 0, 1) := by decide +kernel
theorem rd_Law_law_1198 : decode mb_Law_law 1198 = .ok (.lcmp, 1) := by decide +kernel
theorem rd_Law_law_1199 : decode mb_Law_law 1199 = .ok (.ifCond .eq 5, 3) := by decide +kernel
theorem rd_Law_law_1204 : decode mb_Law_law 1204 = .ok (.goto 1580, 3) := by decide +kernel
theorem rd_Law_law_1207 : decode mb_Law_law 1207 = .ok (.aload_n 1, 1) := by decide +kernel
theorem rd_Law_law_1208 : decode mb_Law_law 1208 = .ok (.aload_n 0, 1) := by decide +kernel
theorem rd_Law_law_1209 : decode mb_Law_law 1209 = .ok (.iload 4, 2) := by decide +kernel
theorem rd_Law_law_1211 : decode mb_Law_law 1211 = .ok (.iconst 1, 1) := by decide +kernel
theorem rd_Law_law_1212 : decode mb_Law_law 1212 = .ok (.iadd, 1) := by decide +kernel
theorem rd_Law_law_1213 : decode mb_Law_law 1213 = .ok (.iaload, 1) := by decide +kernel
theorem rd_Law_law_1214 : decode mb_Law_law 1214 = .ok (.aload_n 3, 1) := by decide +kernel
theorem rd_Law_law_1215 : decode mb_Law_law 1215 = .ok (.invokestatic 226, 3) := by decide +kernel
theorem rd_Law_law_1218 : decode mb_Law_law 1218 = .ok (.istore 5, 2) := by decide +kernel
theorem rd_Law_law_1220 : decode mb_Law_law 1220 = .ok (.aload_n 2, 1) := by decide +kernel
theorem rd_Law_law_1221 : decode mb_Law_law 1221 = .ok (.aload_n 0, 1) := by decide +kernel
theorem rd_Law_law_1222 : decode mb_Law_law 1222 = .ok (.iload 4, 2) := by decide +kernel
theorem rd_Law_law_1224 : decode mb_Law_law 1224 = .ok (.iconst 1, 1) := by decide +kernel
theorem rd_Law_law_1225 : decode mb_Law_law 1225 = .ok (.iadd, 1) := by decide +kernel
theorem rd_Law_law_1226 : decode mb_Law_law 1226 = .ok (.iaload, 1) := by decide +kernel
theorem rd_Law_law_1227 : decode mb_Law_law 1227 = .ok (.invokevirtual 228, 3) := by decide +kernel
theorem rd_Law_law_1230 : decode mb_Law_law 1230 = .ok (.istore 6, 2) := by decide +kernel
theorem rd_Law_law_1232 : decode mb_Law_law 1232 = .ok (.aload_n 2, 1) := by decide +kernel
theorem rd_Law_law_1233 : decode mb_Law_law 1233 = .ok (.invokevirtual 189, 3) := by decide +kernel
theorem rd_Law_law_1236 : decode mb_Law_law 1236 = .ok (.iload 5, 2) := by decide +kernel
theorem rd_Law_law_1238 : decode mb_Law_law 1238 = .ok (.if_icmp .eq 5, 3) := by decide +kernel
theorem rd_Law_law_1243 : decode mb_Law_law 1243 = .ok (.iload 5, 2) := by decide +kernel
theorem rd_Law_law_1245 : decode mb_Law_law 1245 = .ok (.ifCond .ne 15, 3) := by decide +kernel
theorem rd_Law_law_1248 : decode mb_Law_law 1248 = .ok (.aload_n 3, 1) := by decide +kernel
theorem rd_Law_law_1249 : decode mb_Law_law 1249 = .ok (.iconst 0, 1) := by decide +kernel
theorem rd_Law_law_1250 : decode mb_Law_law 1250 = .ok (.laload, 1) := by decide +kernel
theorem rd_Law_law_1251 : decode mb_Law_law 1251 = .ok (.iload 6, 2) := by decide +kernel
theorem rd_Law_law_1253 : decode mb_Law_law 1253 = .ok (.i2l, 1) := by decide +kernel
theorem rd_Law_law_1254 : decode mb_Law_law 1254 = .ok (.lcmp, 1) := by decide +kernel
theorem rd_Law_law_1255 : decode mb_Law_law 1255 = .ok (.ifCond .eq 5, 3) := by decide +kernel
theorem rd_Law_law_1260 : decode mb_Law_law 1260 = .ok (.goto 1524, 3) := by decide +kernel
theorem rd_Law_law_1263 : decode mb_Law_law 1263 = .ok (.aload_n 1, 1) := by decide +kernel
theorem rd_Law_law_1264 : decode mb_Law_law 1264 = .ok (.aload_n 0, 1) := by decide +kernel
theorem rd_Law_law_1265 : decode mb_Law_law 1265 = .ok (.iload 4, 2) := by decide +kernel
theorem rd_Law_law_1267 : decode mb_Law_law 1267 = .ok (.iconst 1, 1) := by decide +kernel
theorem rd_Law_law_1268 : decode mb_Law_law 1268 = .ok (.iadd, 1) := by decide +kernel
theorem rd_Law_law_1269 : decode mb_Law_law 1269 = .ok (.iaload, 1) := by decide +kernel
theorem rd_Law_law_1270 : decode mb_Law_law 1270 = .ok (.aload_n 3, 1) := by decide +kernel
theorem rd_Law_law_1271 : decode mb_Law_law 1271 = .ok (.invokestatic 229, 3) := by decide +kernel
theorem rd_Law_law_1274 : decode mb_Law_law 1274 = .ok (.istore 5, 2) := by decide +kernel
theorem rd_Law_law_1276 : decode mb_Law_law 1276 = .ok (.aload_n 2, 1) := by decide +kernel
theorem rd_Law_law_1277 : decode mb_Law_law 1277 = .ok (.aload_n 0, 1) := by decide +kernel
theorem rd_Law_law_1278 : decode mb_Law_law 1278 = .ok (.iload 4, 2) := by decide +kernel
theorem rd_Law_law_1280 : decode mb_Law_law 1280 = .ok (.iconst 1, 1) := by decide +kernel
theorem rd_Law_law_1281 : decode mb_Law_law 1281 = .ok (.iadd, 1) := by decide +kernel
theorem rd_Law_law_1282 : decode mb_Law_law 1282 = .ok (.iaload, 1) := by decide +kernel
theorem rd_Law_law_1283 : decode mb_Law_law 1283 = .ok (.invokevirtual 231, 3) := by decide +kernel
theorem rd_Law_law_1286 : decode mb_Law_law 1286 = .ok (.istore 6, 2) := by decide +kernel
theorem rd_Law_law_1288 : decode mb_Law_law 1288 = .ok (.aload_n 2, 1) := by decide +kernel
theorem rd_Law_law_1289 : decode mb_Law_law 1289 = .ok (.invokevirtual 189, 3) := by decide +kernel
theorem rd_Law_law_1292 : decode mb_Law_law 1292 = .ok (.iload 5, 2) := by decide +kernel
theorem rd_Law_law_1294 : decode mb_Law_law 1294 = .ok (.if_icmp .eq 5, 3) := by decide +kernel
theorem rd_Law_law_1299 : decode mb_Law_law 1299 = .ok (.iload 5, 2) := by decide +kernel
theorem rd_Law_law_1301 : decode mb_Law_law 1301 = .ok (.ifCond .ne 15, 3) := by decide +kernel
theorem rd_Law_law_1304 : decode mb_Law_law 1304 = .ok (.aload_n 3, 1) := by decide +kernel
theorem rd_Law_law_1305 : decode mb_Law_law 1305 = .ok (.iconst 0, 1) := by decide +kernel
theorem rd_Law_law_1306 : decode mb_Law_law 1306 = .ok (.laload, 1) := by decide +kernel
theorem rd_Law_law_1307 : decode mb_Law_law 1307 = .ok (.iload 6, 2) := by decide +kernel
theorem rd_Law_law_1309 : decode mb_Law_law 1309 = .ok (.i2l, 1) := by decide +kernel
theorem rd_Law_law_1310 : decode mb_Law_law 1310 = .ok (.lcmp, 1) := by decide +kernel
theorem rd_Law_law_1311 : decode mb_Law_law 1311 = .ok (.ifCond .eq 5, 3) := by decide +kernel
theorem rd_Law_law_1316 : decode mb_Law_law 1316 = .ok (.goto 1468, 3) := by decide +kernel
theorem rd_Law_law_1319 : decode mb_Law_law 1319 = .ok (.aload_n 1, 1) := by decide +kernel
theorem rd_Law_law_1320 : decode mb_Law_law 1320 = .ok (.aload_n 0, 1) := by decide +kernel
theorem rd_Law_law_1321 : decode mb_Law_law 1321 = .ok (.iload 4, 2) := by decide +kernel
theorem rd_Law_law_1323 : decode mb_Law_law 1323 = .ok (.iconst 1, 1) := by decide +kernel
theorem rd_Law_law_1324 : decode mb_Law_law 1324 = .ok (.iadd, 1) := by decide +kernel
theorem rd_Law_law_1325 : decode mb_Law_law 1325 = .ok (.iaload, 1) := by decide +kernel
theorem rd_Law_law_1326 : decode mb_Law_law 1326 = .ok (.aload_n 3, 1) := by decide +kernel
theorem rd_Law_law_1327 : decode mb_Law_law 1327 = .ok (.invokestatic 232, 3) := by decide +kernel
theorem rd_Law_law_1330 : decode mb_Law_law 1330 = .ok (.istore 5, 2) := by decide +kernel
theorem rd_Law_law_1332 : decode mb_Law_law 1332 = .ok (.aload_n 2, 1) := by decide +kernel
theorem rd_Law_law_1333 : decode mb_Law_law 1333 = .ok (.aload_n 0, 1) := by decide +kernel
theorem rd_Law_law_1334 : decode mb_Law_law 1334 = .ok (.iload 4, 2) := by decide +kernel
theorem rd_Law_law_1336 : decode mb_Law_law 1336 = .ok (.iconst 1, 1) := by decide +kernel
theorem rd_Law_law_1337 : decode mb_Law_law 1337 = .ok (.iadd, 1) := by decide +kernel
theorem rd_Law_law_1338 : decode mb_Law_law 1338 = .ok (.iaload, 1) := by decide +kernel
theorem rd_Law_law_1339 : decode mb_Law_law 1339 = .ok (.invokevirtual 234, 3) := by decide +kernel
theorem rd_Law_law_1342 : decode mb_Law_law 1342 = .ok (.istore 6, 2) := by decide +kernel
theorem rd_Law_law_1344 : decode mb_Law_law 1344 = .ok (.aload_n 2, 1) := by decide +kernel
theorem rd_Law_law_1345 : decode mb_Law_law 1345 = .ok (.invokevirtual 189, 3) := by decide +kernel
theorem rd_Law_law_1348 : decode mb_Law_law 1348 = .ok (.iload 5, 2) := by decide +kernel
theorem rd_Law_law_1350 : decode mb_Law_law 1350 = .ok (.if_icmp .eq 5, 3) := by decide +kernel
theorem rd_Law_law_1355 : decode mb_Law_law 1355 = .ok (.iload 5, 2) := by decide +kernel
theorem rd_Law_law_1357 : decode mb_Law_law 1357 = .ok (.ifCond .ne 15, 3) := by decide +kernel
theorem rd_Law_law_1360 : decode mb_Law_law 1360 = .ok (.aload_n 3, 1) := by decide +kernel
theorem rd_Law_law_1361 : decode mb_Law_law 1361 = .ok (.iconst 0, 1) := by decide +kernel
theorem rd_Law_law_1362 : decode mb_Law_law 1362 = .ok (.laload, 1) := by decide +kernel
theorem rd_Law_law_1363 : decode mb_Law_law 1363 = .ok (.iload 6, 2) := by decide +kernel
theorem rd_Law_law_1365 : decode mb_Law_law 1365 = .ok (.i2l, 1) := by decide +kernel
theorem rd_Law_law_1366 : decode mb_Law_law 1366 = .ok (.lcmp, 1) := by decide +kernel
theorem rd_Law_law_1367 : decode mb_Law_law 1367 = .ok (.ifCond .eq 5, 3) := by decide +kernel
theorem rd_Law_law_1372 : decode mb_Law_law 1372 = .ok (.goto 1412, 3) := by decide +kernel
theorem rd_Law_law_1375 : decode mb_Law_law 1375 = .ok (.aload_n 1, 1) := by decide +kernel
theorem rd_Law_law_1376 : decode mb_Law_law 1376 = .ok (.aload_n 0, 1) := by decide +kernel
theorem rd_Law_law_1377 : decode mb_Law_law 1377 = .ok (.iload 4, 2) := by decide +kernel
theorem rd_Law_law_1379 : decode mb_Law_law 1379 = .ok (.iconst 1, 1) := by decide +kernel
theorem rd_Law_law_1380 : decode mb_Law_law 1380 = .ok (.iadd, 1) := by decide +kernel
theorem rd_Law_law_1381 : decode mb_Law_law 1381 = .ok (.iaload, 1) := by decide +kernel
theorem rd_Law_law_1382 : decode mb_Law_law 1382 = .ok (.aload_n 3, 1) := by decide +kernel
theorem rd_Law_law_1383 : decode mb_Law_law 1383 = .ok (.invokestatic 235, 3) := by decide +kernel
theorem rd_Law_law_1386 : decode mb_Law_law 1386 = .ok (.istore 5, 2) := by decide +kernel
theorem rd_Law_law_1388 : decode mb_Law_law 1388 = .ok (.aload_n 2, 1) := by decide +kernel
theorem rd_Law_law_1389 : decode mb_Law_law 1389 = .ok (.aload_n 0, 1) := by decide +kernel
theorem rd_Law_law_1390 : decode mb_Law_law 1390 = .ok (.iload 4, 2) := by decide +kernel
theorem rd_Law_law_1392 : decode mb_Law_law 1392 = .ok (.iconst 1, 1) := by decide +kernel
theorem rd_Law_law_1393 : decode mb_Law_law 1393 = .ok (.iadd, 1) := by decide +kernel
theorem rd_Law_law_1394 : decode mb_Law_law 1394 = .ok (.iaload, 1) := by decide +kernel
theorem rd_Law_law_1395 : decode mb_Law_law 1395 = .ok (.invokevirtual 237, 3) := by decide +kernel
theorem rd_Law_law_1398 : decode mb_Law_law 1398 = .ok (.istore 6, 2) := by decide +kernel
theorem rd_Law_law_1400 : decode mb_Law_law 1400 = .ok (.aload_n 2, 1) := by decide +kernel
theorem rd_Law_law_1401 : decode mb_Law_law 1401 = .ok (.invokevirtual 189, 3) := by decide +kernel
theorem rd_Law_law_1404 : decode mb_Law_law 1404 = .ok (.iload 5, 2) := by decide +kernel
theorem rd_Law_law_1406 : decode mb_Law_law 1406 = .ok (.if_icmp .eq 5, 3) := by decide +kernel
theorem rd_Law_law_1411 : decode mb_Law_law 1411 = .ok (.iload 5, 2) := by decide +kernel
theorem rd_Law_law_1413 : decode mb_Law_law 1413 = .ok (.ifCond .ne 15, 3) := by decide +kernel
theorem rd_Law_law_1416 : decode mb_Law_law 1416 = .ok (.aload_n 3, 1) := by decide +kernel
theorem rd_Law_law_1417 : decode mb_Law_law 1417 = .ok (.iconst 0, 1) := by decide +kernel
theorem rd_Law_law_1418 : decode mb_Law_law 1418 = .ok (.laload, 1) := by decide +kernel
theorem rd_Law_law_1419 : decode mb_Law_law 1419 = .ok (.iload 6, 2) := by decide +kernel
