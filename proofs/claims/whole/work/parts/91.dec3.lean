theorem dL_1131 : decode code 1131 = .ok (.iload_n 3, 1) := by decide +kernel
theorem dL_1132 : decode code 1132 = .ok (.iconst 2, 1) := by decide +kernel
theorem dL_1133 : decode code 1133 = .ok (.iadd, 1) := by decide +kernel
theorem dL_1134 : decode code 1134 = .ok (.iaload, 1) := by decide +kernel
theorem dL_1135 : decode code 1135 = .ok (.aload_n 0, 1) := by decide +kernel
theorem dL_1136 : decode code 1136 = .ok (.iload_n 3, 1) := by decide +kernel
theorem dL_1137 : decode code 1137 = .ok (.iconst 3, 1) := by decide +kernel
theorem dL_1138 : decode code 1138 = .ok (.iadd, 1) := by decide +kernel
theorem dL_1139 : decode code 1139 = .ok (.iaload, 1) := by decide +kernel
theorem dL_1140 : decode code 1140 = .ok (.invokevirtual 146, 3) := by decide +kernel
theorem dL_1143 : decode code 1143 = .ok (.if_icmp .eq 292, 3) := by decide +kernel
theorem dL_1146 : decode code 1146 = .ok (.iconst 0, 1) := by decide +kernel
theorem dL_1147 : decode code 1147 = .ok (.ireturn, 1) := by decide +kernel
theorem dL_1148 : decode code 1148 = .ok (.aload_n 1, 1) := by decide +kernel
theorem dL_1149 : decode code 1149 = .ok (.aload_n 0, 1) := by decide +kernel
theorem dL_1150 : decode code 1150 = .ok (.iload_n 3, 1) := by decide +kernel
theorem dL_1151 : decode code 1151 = .ok (.iconst 1, 1) := by decide +kernel
theorem dL_1152 : decode code 1152 = .ok (.iadd, 1) := by decide +kernel
theorem dL_1153 : decode code 1153 = .ok (.iaload, 1) := by decide +kernel
theorem dL_1154 : decode code 1154 = .ok (.invokevirtual 147, 3) := by decide +kernel
theorem dL_1157 : decode code 1157 = .ok (.aload_n 2, 1) := by decide +kernel
theorem dL_1158 : decode code 1158 = .ok (.aload_n 0, 1) := by decide +kernel
theorem dL_1159 : decode code 1159 = .ok (.iload_n 3, 1) := by decide +kernel
theorem dL_1160 : decode code 1160 = .ok (.iconst 1, 1) := by decide +kernel
theorem dL_1161 : decode code 1161 = .ok (.iadd, 1) := by decide +kernel
theorem dL_1162 : decode code 1162 = .ok (.iaload, 1) := by decide +kernel
theorem dL_1163 : decode code 1163 = .ok (.invokevirtual 150, 3) := by decide +kernel
theorem dL_1166 : decode code 1166 = .ok (.if_icmp .eq 269, 3) := by decide +kernel
theorem dL_1169 : decode code 1169 = .ok (.iconst 0, 1) := by decide +kernel
theorem dL_1170 : decode code 1170 = .ok (.ireturn, 1) := by decide +kernel
theorem dL_1171 : decode code 1171 = .ok (.aload_n 1, 1) := by decide +kernel
theorem dL_1172 : decode code 1172 = .ok (.aload_n 0, 1) := by decide +kernel
theorem dL_1173 : decode code 1173 = .ok (.iload_n 3, 1) := by decide +kernel
theorem dL_1174 : decode code 1174 = .ok (.iconst 1, 1) := by decide +kernel
theorem dL_1175 : decode code 1175 = .ok (.iadd, 1) := by decide +kernel
theorem dL_1176 : decode code 1176 = .ok (.iaload, 1) := by decide +kernel
theorem dL_1177 : decode code 1177 = .ok (.invokevirtual 151, 3) := by decide +kernel
theorem dL_1180 : decode code 1180 = .ok (.aload_n 2, 1) := by decide +kernel
theorem dL_1181 : decode code 1181 = .ok (.aload_n 0, 1) := by decide +kernel
theorem dL_1182 : decode code 1182 = .ok (.iload_n 3, 1) := by decide +kernel
theorem dL_1183 : decode code 1183 = .ok (.iconst 1, 1) := by decide +kernel
theorem dL_1184 : decode code 1184 = .ok (.iadd, 1) := by decide +kernel
theorem dL_1185 : decode code 1185 = .ok (.iaload, 1) := by decide +kernel
theorem dL_1186 : decode code 1186 = .ok (.invokevirtual 154, 3) := by decide +kernel
theorem dL_1189 : decode code 1189 = .ok (.if_icmp .eq 246, 3) := by decide +kernel
theorem dL_1192 : decode code 1192 = .ok (.iconst 0, 1) := by decide +kernel
theorem dL_1193 : decode code 1193 = .ok (.ireturn, 1) := by decide +kernel
theorem dL_1194 : decode code 1194 = .ok (.aload_n 1, 1) := by decide +kernel
theorem dL_1195 : decode code 1195 = .ok (.aload_n 0, 1) := by decide +kernel
theorem dL_1196 : decode code 1196 = .ok (.iload_n 3, 1) := by decide +kernel
theorem dL_1197 : decode code 1197 = .ok (.iconst 1, 1) := by decide +kernel
theorem dL_1198 : decode code 1198 = .ok (.iadd, 1) := by decide +kernel
theorem dL_1199 : decode code 1199 = .ok (.iaload, 1) := by decide +kernel
theorem dL_1200 : decode code 1200 = .ok (.invokevirtual 155, 3) := by decide +kernel
theorem dL_1203 : decode code 1203 = .ok (.aload_n 2, 1) := by decide +kernel
theorem dL_1204 : decode code 1204 = .ok (.aload_n 0, 1) := by decide +kernel
theorem dL_1205 : decode code 1205 = .ok (.iload_n 3, 1) := by decide +kernel
theorem dL_1206 : decode code 1206 = .ok (.iconst 1, 1) := by decide +kernel
theorem dL_1207 : decode code 1207 = .ok (.iadd, 1) := by decide +kernel
theorem dL_1208 : decode code 1208 = .ok (.iaload, 1) := by decide +kernel
theorem dL_1209 : decode code 1209 = .ok (.invokevirtual 158, 3) := by decide +kernel
theorem dL_1212 : decode code 1212 = .ok (.if_icmp .eq 223, 3) := by decide +kernel
theorem dL_1215 : decode code 1215 = .ok (.iconst 0, 1) := by decide +kernel
theorem dL_1216 : decode code 1216 = .ok (.ireturn, 1) := by decide +kernel
theorem dL_1217 : decode code 1217 = .ok (.aload_n 1, 1) := by decide +kernel
theorem dL_1218 : decode code 1218 = .ok (.aload_n 0, 1) := by decide +kernel
theorem dL_1219 : decode code 1219 = .ok (.iload_n 3, 1) := by decide +kernel
theorem dL_1220 : decode code 1220 = .ok (.iconst 1, 1) := by decide +kernel
theorem dL_1221 : decode code 1221 = .ok (.iadd, 1) := by decide +kernel
theorem dL_1222 : decode code 1222 = .ok (.iaload, 1) := by decide +kernel
theorem dL_1223 : decode code 1223 = .ok (.aload_n 0, 1) := by decide +kernel
theorem dL_1224 : decode code 1224 = .ok (.iload_n 3, 1) := by decide +kernel
theorem dL_1225 : decode code 1225 = .ok (.iconst 2, 1) := by decide +kernel
theorem dL_1226 : decode code 1226 = .ok (.iadd, 1) := by decide +kernel
theorem dL_1227 : decode code 1227 = .ok (.iaload, 1) := by decide +kernel
theorem dL_1228 : decode code 1228 = .ok (.aload_n 0, 1) := by decide +kernel
theorem dL_1229 : decode code 1229 = .ok (.iload_n 3, 1) := by decide +kernel
theorem dL_1230 : decode code 1230 = .ok (.iconst 3, 1) := by decide +kernel
theorem dL_1231 : decode code 1231 = .ok (.iadd, 1) := by decide +kernel
theorem dL_1232 : decode code 1232 = .ok (.iaload, 1) := by decide +kernel
theorem dL_1233 : decode code 1233 = .ok (.aload_n 0, 1) := by decide +kernel
theorem dL_1234 : decode code 1234 = .ok (.iload_n 3, 1) := by decide +kernel
theorem dL_1235 : decode code 1235 = .ok (.iconst 4, 1) := by decide +kernel
theorem dL_1236 : decode code 1236 = .ok (.iadd, 1) := by decide +kernel
theorem dL_1237 : decode code 1237 = .ok (.iaload, 1) := by decide +kernel
theorem dL_1238 : decode code 1238 = .ok (.invokevirtual 159, 3) := by decide +kernel
theorem dL_1241 : decode code 1241 = .ok (.aload_n 2, 1) := by decide +kernel
theorem dL_1242 : decode code 1242 = .ok (.aload_n 0, 1) := by decide +kernel
theorem dL_1243 : decode code 1243 = .ok (.iload_n 3, 1) := by decide +kernel
theorem dL_1244 : decode code 1244 = .ok (.iconst 1, 1) := by decide +kernel
theorem dL_1245 : decode code 1245 = .ok (.iadd, 1) := by decide +kernel
theorem dL_1246 : decode code 1246 = .ok (.iaload, 1) := by decide +kernel
theorem dL_1247 : decode code 1247 = .ok (.aload_n 0, 1) := by decide +kernel
theorem dL_1248 : decode code 1248 = .ok (.iload_n 3, 1) := by decide +kernel
theorem dL_1249 : decode code 1249 = .ok (.iconst 2, 1) := by decide +kernel
theorem dL_1250 : decode code 1250 = .ok (.iadd, 1) := by decide +kernel
theorem dL_1251 : decode code 1251 = .ok (.iaload, 1) := by decide +kernel
theorem dL_1252 : decode code 1252 = .ok (.aload_n 0, 1) := by decide +kernel
theorem dL_1253 : decode code 1253 = .ok (.iload_n 3, 1) := by decide +kernel
theorem dL_1254 : decode code 1254 = .ok (.iconst 3, 1) := by decide +kernel
theorem dL_1255 : decode code 1255 = .ok (.iadd, 1) := by decide +kernel
theorem dL_1256 : decode code 1256 = .ok (.iaload, 1) := by decide +kernel
theorem dL_1257 : decode code 1257 = .ok (.aload_n 0, 1) := by decide +kernel
theorem dL_1258 : decode code 1258 = .ok (.iload_n 3, 1) := by decide +kernel
theorem dL_1259 : decode code 1259 = .ok (.iconst 4, 1) := by decide +kernel
theorem dL_1260 : decode code 1260 = .ok (.iadd, 1) := by decide +kernel
theorem dL_1261 : decode code 1261 = .ok (.iaload, 1) := by decide +kernel
theorem dL_1262 : decode code 1262 = .ok (.invokevirtual 162, 3) := by decide +kernel
theorem dL_1265 : decode code 1265 = .ok (.if_icmp .eq 170, 3) := by decide +kernel
theorem dL_1268 : decode code 1268 = .ok (.iconst 0, 1) := by decide +kernel
theorem dL_1269 : decode code 1269 = .ok (.ireturn, 1) := by decide +kernel
theorem dL_1270 : decode code 1270 = .ok (.aload_n 1, 1) := by decide +kernel
theorem dL_1271 : decode code 1271 = .ok (.aload_n 0, 1) := by decide +kernel
theorem dL_1272 : decode code 1272 = .ok (.iload_n 3, 1) := by decide +kernel
theorem dL_1273 : decode code 1273 = .ok (.iconst 1, 1) := by decide +kernel
theorem dL_1274 : decode code 1274 = .ok (.iadd, 1) := by decide +kernel
theorem dL_1275 : decode code 1275 = .ok (.iaload, 1) := by decide +kernel
theorem dL_1276 : decode code 1276 = .ok (.aload_n 0, 1) := by decide +kernel
theorem dL_1277 : decode code 1277 = .ok (.iload_n 3, 1) := by decide +kernel
theorem dL_1278 : decode code 1278 = .ok (.iconst 2, 1) := by decide +kernel
theorem dL_1279 : decode code 1279 = .ok (.iadd, 1) := by decide +kernel
theorem dL_1280 : decode code 1280 = .ok (.iaload, 1) := by decide +kernel
theorem dL_1281 : decode code 1281 = .ok (.aload_n 0, 1) := by decide +kernel
theorem dL_1282 : decode code 1282 = .ok (.iload_n 3, 1) := by decide +kernel
theorem dL_1283 : decode code 1283 = .ok (.iconst 3, 1) := by decide +kernel
theorem dL_1284 : decode code 1284 = .ok (.iadd, 1) := by decide +kernel
theorem dL_1285 : decode code 1285 = .ok (.iaload, 1) := by decide +kernel
theorem dL_1286 : decode code 1286 = .ok (.invokevirtual 163, 3) := by decide +kernel
theorem dL_1289 : decode code 1289 = .ok (.aload_n 2, 1) := by decide +kernel
theorem dL_1290 : decode code 1290 = .ok (.aload_n 0, 1) := by decide +kernel
theorem dL_1291 : decode code 1291 = .ok (.iload_n 3, 1) := by decide +kernel
theorem dL_1292 : decode code 1292 = .ok (.iconst 1, 1) := by decide +kernel
theorem dL_1293 : decode code 1293 = .ok (.iadd, 1) := by decide +kernel
theorem dL_1294 : decode code 1294 = .ok (.iaload, 1) := by decide +kernel
theorem dL_1295 : decode code 1295 = .ok (.aload_n 0, 1) := by decide +kernel
theorem dL_1296 : decode code 1296 = .ok (.iload_n 3, 1) := by decide +kernel
theorem dL_1297 : decode code 1297 = .ok (.iconst 2, 1) := by decide +kernel
theorem dL_1298 : decode code 1298 = .ok (.iadd, 1) := by decide +kernel
theorem dL_1299 : decode code 1299 = .ok (.iaload, 1) := by decide +kernel
theorem dL_1300 : decode code 1300 = .ok (.aload_n 0, 1) := by decide +kernel
theorem dL_1301 : decode code 1301 = .ok (.iload_n 3, 1) := by decide +kernel
theorem dL_1302 : decode code 1302 = .ok (.iconst 3, 1) := by decide +kernel
theorem dL_1303 : decode code 1303 = .ok (.iadd, 1) := by decide +kernel
theorem dL_1304 : decode code 1304 = .ok (.iaload, 1) := by decide +kernel
theorem dL_1305 : decode code 1305 = .ok (.invokevirtual 166, 3) := by decide +kernel
theorem dL_1308 : decode code 1308 = .ok (.if_icmp .eq 127, 3) := by decide +kernel
theorem dL_1311 : decode code 1311 = .ok (.iconst 0, 1) := by decide +kernel
theorem dL_1312 : decode code 1312 = .ok (.ireturn, 1) := by decide +kernel
theorem dL_1313 : decode code 1313 = .ok (.aload_n 1, 1) := by decide +kernel
theorem dL_1314 : decode code 1314 = .ok (.aload_n 0, 1) := by decide +kernel
theorem dL_1315 : decode code 1315 = .ok (.iload_n 3, 1) := by decide +kernel
theorem dL_1316 : decode code 1316 = .ok (.iconst 1, 1) := by decide +kernel
theorem dL_1317 : decode code 1317 = .ok (.iadd, 1) := by decide +kernel
theorem dL_1318 : decode code 1318 = .ok (.iaload, 1) := by decide +kernel
theorem dL_1319 : decode code 1319 = .ok (.aload_n 0, 1) := by decide +kernel
theorem dL_1320 : decode code 1320 = .ok (.iload_n 3, 1) := by decide +kernel
theorem dL_1321 : decode code 1321 = .ok (.iconst 2, 1) := by decide +kernel
theorem dL_1322 : decode code 1322 = .ok (.iadd, 1) := by decide +kernel
theorem dL_1323 : decode code 1323 = .ok (.iaload, 1) := by decide +kernel
theorem dL_1324 : decode code 1324 = .ok (.invokevirtual 167, 3) := by decide +kernel
theorem dL_1327 : decode code 1327 = .ok (.aload_n 2, 1) := by decide +kernel
theorem dL_1328 : decode code 1328 = .ok (.aload_n 0, 1) := by decide +kernel
theorem dL_1329 : decode code 1329 = .ok (.iload_n 3, 1) := by decide +kernel
theorem dL_1330 : decode code 1330 = .ok (.iconst 1, 1) := by decide +kernel
theorem dL_1331 : decode code 1331 = .ok (.iadd, 1) := by decide +kernel
theorem dL_1332 : decode code 1332 = .ok (.iaload, 1) := by decide +kernel
theorem dL_1333 : decode code 1333 = .ok (.aload_n 0, 1) := by decide +kernel
theorem dL_1334 : decode code 1334 = .ok (.iload_n 3, 1) := by decide +kernel
theorem dL_1335 : decode code 1335 = .ok (.iconst 2, 1) := by decide +kernel
theorem dL_1336 : decode code 1336 = .ok (.iadd, 1) := by decide +kernel
theorem dL_1337 : decode code 1337 = .ok (.iaload, 1) := by decide +kernel
theorem dL_1338 : decode code 1338 = .ok (.invokevirtual 170, 3) := by decide +kernel
theorem dL_1341 : decode code 1341 = .ok (.if_icmp .eq 94, 3) := by decide +kernel
theorem dL_1344 : decode code 1344 = .ok (.iconst 0, 1) := by decide +kernel
theorem dL_1345 : decode code 1345 = .ok (.ireturn, 1) := by decide +kernel
theorem dL_1346 : decode code 1346 = .ok (.aload_n 1, 1) := by decide +kernel
theorem dL_1347 : decode code 1347 = .ok (.aload_n 0, 1) := by decide +kernel
theorem dL_1348 : decode code 1348 = .ok (.iload_n 3, 1) := by decide +kernel
theorem dL_1349 : decode code 1349 = .ok (.iconst 1, 1) := by decide +kernel
theorem dL_1350 : decode code 1350 = .ok (.iadd, 1) := by decide +kernel
theorem dL_1351 : decode code 1351 = .ok (.iaload, 1) := by decide +kernel
theorem dL_1352 : decode code 1352 = .ok (.aload_n 0, 1) := by decide +kernel
theorem dL_1353 : decode code 1353 = .ok (.iload_n 3, 1) := by decide +kernel
theorem dL_1354 : decode code 1354 = .ok (.iconst 2, 1) := by decide +kernel
theorem dL_1355 : decode code 1355 = .ok (.iadd, 1) := by decide +kernel
theorem dL_1356 : decode code 1356 = .ok (.iaload, 1) := by decide +kernel
theorem dL_1357 : decode code 1357 = .ok (.aload_n 0, 1) := by decide +kernel
theorem dL_1358 : decode code 1358 = .ok (.iload_n 3, 1) := by decide +kernel
theorem dL_1359 : decode code 1359 = .ok (.iconst 3, 1) := by decide +kernel
theorem dL_1360 : decode code 1360 = .ok (.iadd, 1) := by decide +kernel
theorem dL_1361 : decode code 1361 = .ok (.iaload, 1) := by decide +kernel
theorem dL_1362 : decode code 1362 = .ok (.invokevirtual 171, 3) := by decide +kernel
theorem dL_1365 : decode code 1365 = .ok (.aload_n 2, 1) := by decide +kernel
theorem dL_1366 : decode code 1366 = .ok (.aload_n 0, 1) := by decide +kernel
theorem dL_1367 : decode code 1367 = .ok (.iload_n 3, 1) := by decide +kernel
theorem dL_1368 : decode code 1368 = .ok (.iconst 1, 1) := by decide +kernel
theorem dL_1369 : decode code 1369 = .ok (.iadd, 1) := by decide +kernel
theorem dL_1370 : decode code 1370 = .ok (.iaload, 1) := by decide +kernel
theorem dL_1371 : decode code 1371 = .ok (.aload_n 0, 1) := by decide +kernel
theorem dL_1372 : decode code 1372 = .ok (.iload_n 3, 1) := by decide +kernel
theorem dL_1373 : decode code 1373 = .ok (.iconst 2, 1) := by decide +kernel
theorem dL_1374 : decode code 1374 = .ok (.iadd, 1) := by decide +kernel
theorem dL_1375 : decode code 1375 = .ok (.iaload, 1) := by decide +kernel
theorem dL_1376 : decode code 1376 = .ok (.aload_n 0, 1) := by decide +kernel
theorem dL_1377 : decode code 1377 = .ok (.iload_n 3, 1) := by decide +kernel
theorem dL_1378 : decode code 1378 = .ok (.iconst 3, 1) := by decide +kernel
theorem dL_1379 : decode code 1379 = .ok (.iadd, 1) := by decide +kernel
theorem dL_1380 : decode code 1380 = .ok (.iaload, 1) := by decide +kernel
theorem dL_1381 : decode code 1381 = .ok (.invokevirtual 174, 3) := by decide +kernel
theorem dL_1384 : decode code 1384 = .ok (.if_icmp .eq 51, 3) := by decide +kernel
theorem dL_1387 : decode code 1387 = .ok (.iconst 0, 1) := by decide +kernel
theorem dL_1388 : decode code 1388 = .ok (.ireturn, 1) := by decide +kernel
theorem dL_1389 : decode code 1389 = .ok (.aload_n 1, 1) := by decide +kernel
theorem dL_1390 : decode code 1390 = .ok (.aload_n 0, 1) := by decide +kernel
theorem dL_1391 : decode code 1391 = .ok (.iload_n 3, 1) := by decide +kernel
theorem dL_1392 : decode code 1392 = .ok (.iconst 1, 1) := by decide +kernel
theorem dL_1393 : decode code 1393 = .ok (.iadd, 1) := by decide +kernel
theorem dL_1394 : decode code 1394 = .ok (.iaload, 1) := by decide +kernel
theorem dL_1395 : decode code 1395 = .ok (.invokevirtual 175, 3) := by decide +kernel
theorem dL_1398 : decode code 1398 = .ok (.aload_n 2, 1) := by decide +kernel
theorem dL_1399 : decode code 1399 = .ok (.aload_n 0, 1) := by decide +kernel
theorem dL_1400 : decode code 1400 = .ok (.iload_n 3, 1) := by decide +kernel
theorem dL_1401 : decode code 1401 = .ok (.iconst 1, 1) := by decide +kernel
theorem dL_1402 : decode code 1402 = .ok (.iadd, 1) := by decide +kernel
theorem dL_1403 : decode code 1403 = .ok (.iaload, 1) := by decide +kernel
theorem dL_1404 : decode code 1404 = .ok (.invokevirtual 178, 3) := by decide +kernel
theorem dL_1407 : decode code 1407 = .ok (.if_icmp .eq 28, 3) := by decide +kernel
theorem dL_1410 : decode code 1410 = .ok (.iconst 0, 1) := by decide +kernel
theorem dL_1411 : decode code 1411 = .ok (.ireturn, 1) := by decide +kernel
theorem dL_1412 : decode code 1412 = .ok (.aload_n 1, 1) := by decide +kernel
theorem dL_1413 : decode code 1413 = .ok (.aload_n 0, 1) := by decide +kernel
theorem dL_1414 : decode code 1414 = .ok (.iload_n 3, 1) := by decide +kernel
theorem dL_1415 : decode code 1415 = .ok (.iconst 1, 1) := by decide +kernel
theorem dL_1416 : decode code 1416 = .ok (.iadd, 1) := by decide +kernel
theorem dL_1417 : decode code 1417 = .ok (.iaload, 1) := by decide +kernel
theorem dL_1418 : decode code 1418 = .ok (.invokevirtual 179, 3) := by decide +kernel
theorem dL_1421 : decode code 1421 = .ok (.aload_n 2, 1) := by decide +kernel
theorem dL_1422 : decode code 1422 = .ok (.aload_n 0, 1) := by decide +kernel
theorem dL_1423 : decode code 1423 = .ok (.iload_n 3, 1) := by decide +kernel
theorem dL_1424 : decode code 1424 = .ok (.iconst 1, 1) := by decide +kernel
theorem dL_1425 : decode code 1425 = .ok (.iadd, 1) := by decide +kernel
theorem dL_1426 : decode code 1426 = .ok (.iaload, 1) := by decide +kernel
theorem dL_1427 : decode code 1427 = .ok (.invokevirtual 182, 3) := by decide +kernel
theorem dL_1430 : decode code 1430 = .ok (.if_icmp .eq 5, 3) := by decide +kernel
theorem dL_1433 : decode code 1433 = .ok (.iconst 0, 1) := by decide +kernel
theorem dL_1434 : decode code 1434 = .ok (.ireturn, 1) := by decide +kernel
theorem dL_1435 : decode code 1435 = .ok (.iinc 3 6, 3) := by decide +kernel
theorem dL_1438 : decode code 1438 = .ok (.goto (-1420), 3) := by decide +kernel
theorem dL_1441 : decode code 1441 = .ok (.iconst 1, 1) := by decide +kernel
theorem dL_1442 : decode code 1442 = .ok (.ireturn, 1) := by decide +kernel
