theorem d_law_1180 : decode code 1180 = .ok (.aload_n 3, 1) := by decide +kernel
theorem d_law_1181 : decode code 1181 = .ok (.invokestatic 211, 3) := by decide +kernel
theorem d_law_1184 : decode code 1184 = .ok (.istore 6, 2) := by decide +kernel
theorem d_law_1186 : decode code 1186 = .ok (.aload_n 2, 1) := by decide +kernel
theorem d_law_1187 : decode code 1187 = .ok (.aload_n 0, 1) := by decide +kernel
theorem d_law_1188 : decode code 1188 = .ok (.iload 5, 2) := by decide +kernel
theorem d_law_1190 : decode code 1190 = .ok (.iconst 1, 1) := by decide +kernel
theorem d_law_1191 : decode code 1191 = .ok (.iadd, 1) := by decide +kernel
theorem d_law_1192 : decode code 1192 = .ok (.iaload, 1) := by decide +kernel
theorem d_law_1193 : decode code 1193 = .ok (.invokevirtual 213, 3) := by decide +kernel
theorem d_law_1196 : decode code 1196 = .ok (.istore 7, 2) := by decide +kernel
theorem d_law_1198 : decode code 1198 = .ok (.aload_n 2, 1) := by decide +kernel
theorem d_law_1199 : decode code 1199 = .ok (.invokevirtual 160, 3) := by decide +kernel
theorem d_law_1202 : decode code 1202 = .ok (.iload 6, 2) := by decide +kernel
theorem d_law_1204 : decode code 1204 = .ok (.if_icmp .eq 5, 3) := by decide +kernel
theorem d_law_1209 : decode code 1209 = .ok (.iload 6, 2) := by decide +kernel
theorem d_law_1211 : decode code 1211 = .ok (.ifCond .ne 15, 3) := by decide +kernel
theorem d_law_1214 : decode code 1214 = .ok (.aload_n 3, 1) := by decide +kernel
theorem d_law_1215 : decode code 1215 = .ok (.iconst 0, 1) := by decide +kernel
theorem d_law_1216 : decode code 1216 = .ok (.laload, 1) := by decide +kernel
theorem d_law_1217 : decode code 1217 = .ok (.iload 7, 2) := by decide +kernel
theorem d_law_1219 : decode code 1219 = .ok (.i2l, 1) := by decide +kernel
theorem d_law_1220 : decode code 1220 = .ok (.lcmp, 1) := by decide +kernel
theorem d_law_1221 : decode code 1221 = .ok (.ifCond .eq 5, 3) := by decide +kernel
theorem d_law_1226 : decode code 1226 = .ok (.goto 1846, 3) := by decide +kernel
theorem d_law_1229 : decode code 1229 = .ok (.aload_n 1, 1) := by decide +kernel
theorem d_law_1230 : decode code 1230 = .ok (.aload_n 0, 1) := by decide +kernel
theorem d_law_1231 : decode code 1231 = .ok (.iload 5, 2) := by decide +kernel
theorem d_law_1233 : decode code 1233 = .ok (.iconst 1, 1) := by decide +kernel
theorem d_law_1234 : decode code 1234 = .ok (.iadd, 1) := by decide +kernel
theorem d_law_1235 : decode code 1235 = .ok (.iaload, 1) := by decide +kernel
theorem d_law_1236 : decode code 1236 = .ok (.aload_n 3, 1) := by decide +kernel
theorem d_law_1237 : decode code 1237 = .ok (.invokestatic 214, 3) := by decide +kernel
theorem d_law_1240 : decode code 1240 = .ok (.istore 6, 2) := by decide +kernel
theorem d_law_1242 : decode code 1242 = .ok (.aload_n 2, 1) := by decide +kernel
theorem d_law_1243 : decode code 1243 = .ok (.aload_n 0, 1) := by decide +kernel
theorem d_law_1244 : decode code 1244 = .ok (.iload 5, 2) := by decide +kernel
theorem d_law_1246 : decode code 1246 = .ok (.iconst 1, 1) := by decide +kernel
theorem d_law_1247 : decode code 1247 = .ok (.iadd, 1) := by decide +kernel
theorem d_law_1248 : decode code 1248 = .ok (.iaload, 1) := by decide +kernel
theorem d_law_1249 : decode code 1249 = .ok (.invokevirtual 216, 3) := by decide +kernel
theorem d_law_1252 : decode code 1252 = .ok (.istore 7, 2) := by decide +kernel
theorem d_law_1254 : decode code 1254 = .ok (.aload_n 2, 1) := by decide +kernel
theorem d_law_1255 : decode code 1255 = .ok (.invokevirtual 160, 3) := by decide +kernel
theorem d_law_1258 : decode code 1258 = .ok (.iload 6, 2) := by decide +kernel
theorem d_law_1260 : decode code 1260 = .ok (.if_icmp .eq 5, 3) := by decide +kernel
theorem d_law_1265 : decode code 1265 = .ok (.iload 6, 2) := by decide +kernel
theorem d_law_1267 : decode code 1267 = .ok (.ifCond .ne 15, 3) := by decide +kernel
theorem d_law_1282 : decode code 1282 = .ok (.goto 1790, 3) := by decide +kernel
theorem d_law_1285 : decode code 1285 = .ok (.aload_n 1, 1) := by decide +kernel
theorem d_law_1286 : decode code 1286 = .ok (.invokevirtual 217, 3) := by decide +kernel
theorem d_law_1289 : decode code 1289 = .ok (.aload_n 2, 1) := by decide +kernel
theorem d_law_1290 : decode code 1290 = .ok (.invokevirtual 220, 3) := by decide +kernel
theorem d_law_1293 : decode code 1293 = .ok (.if_icmp .eq 1779, 3) := by decide +kernel
theorem d_law_1298 : decode code 1298 = .ok (.aload_n 1, 1) := by decide +kernel
theorem d_law_1299 : decode code 1299 = .ok (.aload_n 0, 1) := by decide +kernel
theorem d_law_1300 : decode code 1300 = .ok (.iload 5, 2) := by decide +kernel
theorem d_law_1302 : decode code 1302 = .ok (.iconst 1, 1) := by decide +kernel
theorem d_law_1303 : decode code 1303 = .ok (.iadd, 1) := by decide +kernel
theorem d_law_1304 : decode code 1304 = .ok (.iaload, 1) := by decide +kernel
theorem d_law_1305 : decode code 1305 = .ok (.aload_n 3, 1) := by decide +kernel
theorem d_law_1306 : decode code 1306 = .ok (.invokestatic 221, 3) := by decide +kernel
theorem d_law_1309 : decode code 1309 = .ok (.istore 6, 2) := by decide +kernel
theorem d_law_1311 : decode code 1311 = .ok (.aload_n 2, 1) := by decide +kernel
theorem d_law_1312 : decode code 1312 = .ok (.aload_n 0, 1) := by decide +kernel
theorem d_law_1313 : decode code 1313 = .ok (.iload 5, 2) := by decide +kernel
theorem d_law_1315 : decode code 1315 = .ok (.iconst 1, 1) := by decide +kernel
theorem d_law_1316 : decode code 1316 = .ok (.iadd, 1) := by decide +kernel
theorem d_law_1317 : decode code 1317 = .ok (.iaload, 1) := by decide +kernel
theorem d_law_1318 : decode code 1318 = .ok (.invokevirtual 223, 3) := by decide +kernel
theorem d_law_1321 : decode code 1321 = .ok (.istore 7, 2) := by decide +kernel
theorem d_law_1323 : decode code 1323 = .ok (.aload_n 2, 1) := by decide +kernel
theorem d_law_1324 : decode code 1324 = .ok (.invokevirtual 160, 3) := by decide +kernel
theorem d_law_1327 : decode code 1327 = .ok (.iload 6, 2) := by decide +kernel
theorem d_law_1329 : decode code 1329 = .ok (.if_icmp .eq 5, 3) := by decide +kernel
theorem d_law_1334 : decode code 1334 = .ok (.iload 6, 2) := by decide +kernel
theorem d_law_1336 : decode code 1336 = .ok (.ifCond .ne 15, 3) := by decide +kernel
theorem d_law_1351 : decode code 1351 = .ok (.goto 1721, 3) := by decide +kernel
theorem d_law_1354 : decode code 1354 = .ok (.aload_n 1, 1) := by decide +kernel
theorem d_law_1355 : decode code 1355 = .ok (.aload_n 0, 1) := by decide +kernel
theorem d_law_1356 : decode code 1356 = .ok (.iload 5, 2) := by decide +kernel
theorem d_law_1358 : decode code 1358 = .ok (.iconst 1, 1) := by decide +kernel
theorem d_law_1359 : decode code 1359 = .ok (.iadd, 1) := by decide +kernel
theorem d_law_1360 : decode code 1360 = .ok (.iaload, 1) := by decide +kernel
theorem d_law_1361 : decode code 1361 = .ok (.aload_n 3, 1) := by decide +kernel
theorem d_law_1362 : decode code 1362 = .ok (.invokestatic 224, 3) := by decide +kernel
theorem d_law_1365 : decode code 1365 = .ok (.istore 6, 2) := by decide +kernel
theorem d_law_1367 : decode code 1367 = .ok (.aload_n 2, 1) := by decide +kernel
theorem d_law_1368 : decode code 1368 = .ok (.aload_n 0, 1) := by decide +kernel
theorem d_law_1369 : decode code 1369 = .ok (.iload 5, 2) := by decide +kernel
theorem d_law_1371 : decode code 1371 = .ok (.iconst 1, 1) := by decide +kernel
theorem d_law_1372 : decode code 1372 = .ok (.iadd, 1) := by decide +kernel
theorem d_law_1373 : decode code 1373 = .ok (.iaload, 1) := by decide +kernel
theorem d_law_1374 : decode code 1374 = .ok (.invokevirtual 226, 3) := by decide +kernel
theorem d_law_1377 : decode code 1377 = .ok (.istore 7, 2) := by decide +kernel
theorem d_law_1379 : decode code 1379 = .ok (.aload_n 2, 1) := by decide +kernel
theorem d_law_1380 : decode code 1380 = .ok (.invokevirtual 160, 3) := by decide +kernel
theorem d_law_1383 : decode code 1383 = .ok (.iload 6, 2) := by decide +kernel
theorem d_law_1385 : decode code 1385 = .ok (.if_icmp .eq 5, 3) := by decide +kernel
theorem d_law_1390 : decode code 1390 = .ok (.iload 6, 2) := by decide +kernel
theorem d_law_1392 : decode code 1392 = .ok (.ifCond .ne 15, 3) := by decide +kernel
theorem d_law_1407 : decode code 1407 = .ok (.goto 1665, 3) := by decide +kernel
theorem d_law_1410 : decode code 1410 = .ok (.aload_n 1, 1) := by decide +kernel
theorem d_law_1411 : decode code 1411 = .ok (.invokevirtual 227, 3) := by decide +kernel
theorem d_law_1414 : decode code 1414 = .ok (.aload_n 2, 1) := by decide +kernel
theorem d_law_1415 : decode code 1415 = .ok (.invokevirtual 230, 3) := by decide +kernel
theorem d_law_1418 : decode code 1418 = .ok (.if_icmp .eq 1654, 3) := by decide +kernel
theorem d_law_1423 : decode code 1423 = .ok (.aload_n 1, 1) := by decide +kernel
theorem d_law_1424 : decode code 1424 = .ok (.aload_n 0, 1) := by decide +kernel
theorem d_law_1425 : decode code 1425 = .ok (.iload 5, 2) := by decide +kernel
theorem d_law_1427 : decode code 1427 = .ok (.iconst 1, 1) := by decide +kernel
theorem d_law_1428 : decode code 1428 = .ok (.iadd, 1) := by decide +kernel
theorem d_law_1429 : decode code 1429 = .ok (.iaload, 1) := by decide +kernel
theorem d_law_1430 : decode code 1430 = .ok (.aload_n 0, 1) := by decide +kernel
theorem d_law_1431 : decode code 1431 = .ok (.iload 5, 2) := by decide +kernel
theorem d_law_1433 : decode code 1433 = .ok (.iconst 2, 1) := by decide +kernel
theorem d_law_1434 : decode code 1434 = .ok (.iadd, 1) := by decide +kernel
theorem d_law_1435 : decode code 1435 = .ok (.iaload, 1) := by decide +kernel
theorem d_law_1436 : decode code 1436 = .ok (.aload_n 3, 1) := by decide +kernel
theorem d_law_1437 : decode code 1437 = .ok (.invokestatic 231, 3) := by decide +kernel
theorem d_law_1440 : decode code 1440 = .ok (.istore 6, 2) := by decide +kernel
theorem d_law_1442 : decode code 1442 = .ok (.aload_n 2, 1) := by decide +kernel
theorem d_law_1443 : decode code 1443 = .ok (.aload_n 0, 1) := by decide +kernel
theorem d_law_1444 : decode code 1444 = .ok (.iload 5, 2) := by decide +kernel
theorem d_law_1446 : decode code 1446 = .ok (.iconst 1, 1) := by decide +kernel
theorem d_law_1447 : decode code 1447 = .ok (.iadd, 1) := by decide +kernel
theorem d_law_1448 : decode code 1448 = .ok (.iaload, 1) := by decide +kernel
theorem d_law_1449 : decode code 1449 = .ok (.aload_n 0, 1) := by decide +kernel
theorem d_law_1450 : decode code 1450 = .ok (.iload 5, 2) := by decide +kernel
theorem d_law_1452 : decode code 1452 = .ok (.iconst 2, 1) := by decide +kernel
theorem d_law_1453 : decode code 1453 = .ok (.iadd, 1) := by decide +kernel
theorem d_law_1454 : decode code 1454 = .ok (.iaload, 1) := by decide +kernel
theorem d_law_1455 : decode code 1455 = .ok (.invokevirtual 233, 3) := by decide +kernel
theorem d_law_1458 : decode code 1458 = .ok (.istore 7, 2) := by decide +kernel
theorem d_law_1460 : decode code 1460 = .ok (.aload_n 2, 1) := by decide +kernel
theorem d_law_1461 : decode code 1461 = .ok (.invokevirtual 160, 3) := by decide +kernel
theorem d_law_1464 : decode code 1464 = .ok (.iload 6, 2) := by decide +kernel
theorem d_law_1466 : decode code 1466 = .ok (.if_icmp .eq 5, 3) := by decide +kernel
theorem d_law_1471 : decode code 1471 = .ok (.iload 6, 2) := by decide +kernel
theorem d_law_1473 : decode code 1473 = .ok (.ifCond .ne 15, 3) := by decide +kernel
theorem d_law_1488 : decode code 1488 = .ok (.goto 1584, 3) := by decide +kernel
theorem d_law_1491 : decode code 1491 = .ok (.aload_n 1, 1) := by decide +kernel
theorem d_law_1492 : decode code 1492 = .ok (.aload_n 0, 1) := by decide +kernel
theorem d_law_1493 : decode code 1493 = .ok (.iload 5, 2) := by decide +kernel
theorem d_law_1495 : decode code 1495 = .ok (.iconst 1, 1) := by decide +kernel
theorem d_law_1496 : decode code 1496 = .ok (.iadd, 1) := by decide +kernel
theorem d_law_1497 : decode code 1497 = .ok (.iaload, 1) := by decide +kernel
theorem d_law_1498 : decode code 1498 = .ok (.invokevirtual 234, 3) := by decide +kernel
theorem d_law_1501 : decode code 1501 = .ok (.aload_n 2, 1) := by decide +kernel
theorem d_law_1502 : decode code 1502 = .ok (.aload_n 0, 1) := by decide +kernel
