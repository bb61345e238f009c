/-! ===== lawcase 1: printed by wip/whole/lawcase.py ===== -/
theorem dL_law_1215 : decode cL_law 1215 = .ok (.aload_n 1, 1) := by decide +kernel
theorem dL_law_1216 : decode cL_law 1216 = .ok (.aload_n 0, 1) := by decide +kernel
theorem dL_law_1217 : decode cL_law 1217 = .ok (.iload 4, 2) := by decide +kernel
theorem dL_law_1219 : decode cL_law 1219 = .ok (.iconst 1, 1) := by decide +kernel
theorem dL_law_1220 : decode cL_law 1220 = .ok (.iadd, 1) := by decide +kernel
theorem dL_law_1221 : decode cL_law 1221 = .ok (.iaload, 1) := by decide +kernel
theorem dL_law_1222 : decode cL_law 1222 = .ok (.aload_n 3, 1) := by decide +kernel
theorem dL_law_1223 : decode cL_law 1223 = .ok (.invokestatic 226, 3) := by decide +kernel
theorem dL_law_1226 : decode cL_law 1226 = .ok (.istore 5, 2) := by decide +kernel
theorem dL_law_1228 : decode cL_law 1228 = .ok (.aload_n 2, 1) := by decide +kernel
theorem dL_law_1229 : decode cL_law 1229 = .ok (.aload_n 0, 1) := by decide +kernel
theorem dL_law_1230 : decode cL_law 1230 = .ok (.iload 4, 2) := by decide +kernel
theorem dL_law_1232 : decode cL_law 1232 = .ok (.iconst 1, 1) := by decide +kernel
theorem dL_law_1233 : decode cL_law 1233 = .ok (.iadd, 1) := by decide +kernel
theorem dL_law_1234 : decode cL_law 1234 = .ok (.iaload, 1) := by decide +kernel
theorem dL_law_1235 : decode cL_law 1235 = .ok (.invokevirtual 228, 3) := by decide +kernel
theorem dL_law_1238 : decode cL_law 1238 = .ok (.istore 6, 2) := by decide +kernel
theorem dL_law_1240 : decode cL_law 1240 = .ok (.aload_n 2, 1) := by decide +kernel
theorem dL_law_1241 : decode cL_law 1241 = .ok (.invokevirtual 148, 3) := by decide +kernel
theorem dL_law_1244 : decode cL_law 1244 = .ok (.iload 5, 2) := by decide +kernel
theorem dL_law_1246 : decode cL_law 1246 = .ok (.if_icmp .eq 5, 3) := by decide +kernel
theorem dL_law_1249 : decode cL_law 1249 = .ok (.iconst 0, 1) := by decide +kernel
theorem dL_law_1250 : decode cL_law 1250 = .ok (.ireturn, 1) := by decide +kernel
theorem dL_law_1251 : decode cL_law 1251 = .ok (.iload 5, 2) := by decide +kernel
theorem dL_law_1253 : decode cL_law 1253 = .ok (.ifCond .ne 15, 3) := by decide +kernel
theorem dL_law_1256 : decode cL_law 1256 = .ok (.aload_n 3, 1) := by decide +kernel
theorem dL_law_1257 : decode cL_law 1257 = .ok (.iconst 0, 1) := by decide +kernel
theorem dL_law_1258 : decode cL_law 1258 = .ok (.laload, 1) := by decide +kernel
theorem dL_law_1259 : decode cL_law 1259 = .ok (.iload 6, 2) := by decide +kernel
theorem dL_law_1261 : decode cL_law 1261 = .ok (.i2l, 1) := by decide +kernel
theorem dL_law_1262 : decode cL_law 1262 = .ok (.lcmp, 1) := by decide +kernel
theorem dL_law_1263 : decode cL_law 1263 = .ok (.ifCond .eq 5, 3) := by decide +kernel
theorem dL_law_1266 : decode cL_law 1266 = .ok (.iconst 0, 1) := by decide +kernel
theorem dL_law_1267 : decode cL_law 1267 = .ok (.ireturn, 1) := by decide +kernel
theorem dL_law_1268 : decode cL_law 1268 = .ok (.goto 1740, 3) := by decide +kernel
theorem dL_law_1271 : decode cL_law 1271 = .ok (.aload_n 1, 1) := by decide +kernel
theorem dL_law_1272 : decode cL_law 1272 = .ok (.aload_n 0, 1) := by decide +kernel
theorem dL_law_1273 : decode cL_law 1273 = .ok (.iload 4, 2) := by decide +kernel
theorem dL_law_1275 : decode cL_law 1275 = .ok (.iconst 1, 1) := by decide +kernel
theorem dL_law_1276 : decode cL_law 1276 = .ok (.iadd, 1) := by decide +kernel
theorem dL_law_1277 : decode cL_law 1277 = .ok (.iaload, 1) := by decide +kernel
theorem dL_law_1278 : decode cL_law 1278 = .ok (.aload_n 3, 1) := by decide +kernel
theorem dL_law_1279 : decode cL_law 1279 = .ok (.invokestatic 229, 3) := by decide +kernel
theorem dL_law_1282 : decode cL_law 1282 = .ok (.istore 5, 2) := by decide +kernel
theorem dL_law_1284 : decode cL_law 1284 = .ok (.aload_n 2, 1) := by decide +kernel
theorem dL_law_1285 : decode cL_law 1285 = .ok (.aload_n 0, 1) := by decide +kernel
theorem dL_law_1286 : decode cL_law 1286 = .ok (.iload 4, 2) := by decide +kernel
theorem dL_law_1288 : decode cL_law 1288 = .ok (.iconst 1, 1) := by decide +kernel
theorem dL_law_1289 : decode cL_law 1289 = .ok (.iadd, 1) := by decide +kernel
theorem dL_law_1290 : decode cL_law 1290 = .ok (.iaload, 1) := by decide +kernel
theorem dL_law_1291 : decode cL_law 1291 = .ok (.invokevirtual 231, 3) := by decide +kernel
theorem dL_law_1294 : decode cL_law 1294 = .ok (.istore 6, 2) := by decide +kernel
theorem dL_law_1296 : decode cL_law 1296 = .ok (.aload_n 2, 1) := by decide +kernel
theorem dL_law_1297 : decode cL_law 1297 = .ok (.invokevirtual 148, 3) := by decide +kernel
theorem dL_law_1300 : decode cL_law 1300 = .ok (.iload 5, 2) := by decide +kernel
theorem dL_law_1302 : decode cL_law 1302 = .ok (.if_icmp .eq 5, 3) := by decide +kernel
theorem dL_law_1305 : decode cL_law 1305 = .ok (.iconst 0, 1) := by decide +kernel
theorem dL_law_1306 : decode cL_law 1306 = .ok (.ireturn, 1) := by decide +kernel
theorem dL_law_1307 : decode cL_law 1307 = .ok (.iload 5, 2) := by decide +kernel
theorem dL_law_1309 : decode cL_law 1309 = .ok (.ifCond .ne 15, 3) := by decide +kernel
theorem dL_law_1312 : decode cL_law 1312 = .ok (.aload_n 3, 1) := by decide +kernel
theorem dL_law_1313 : decode cL_law 1313 = .ok (.iconst 0, 1) := by decide +kernel
theorem dL_law_1314 : decode cL_law 1314 = .ok (.laload, 1) := by decide +kernel
theorem dL_law_1315 : decode cL_law 1315 = .ok (.iload 6, 2) := by decide +kernel
theorem dL_law_1317 : decode cL_law 1317 = .ok (.i2l, 1) := by decide +kernel
theorem dL_law_1318 : decode cL_law 1318 = .ok (.lcmp, 1) := by decide +kernel
theorem dL_law_1319 : decode cL_law 1319 = .ok (.ifCond .eq 5, 3) := by decide +kernel
theorem dL_law_1322 : decode cL_law 1322 = .ok (.iconst 0, 1) := by decide +kernel
theorem dL_law_1323 : decode cL_law 1323 = .ok (.ireturn, 1) := by decide +kernel
theorem dL_law_1324 : decode cL_law 1324 = .ok (.goto 1684, 3) := by decide +kernel
theorem dL_law_1327 : decode cL_law 1327 = .ok (.aload_n 1, 1) := by decide +kernel
theorem dL_law_1328 : decode cL_law 1328 = .ok (.aload_n 0, 1) := by decide +kernel
theorem dL_law_1329 : decode cL_law 1329 = .ok (.iload 4, 2) := by decide +kernel
theorem dL_law_1331 : decode cL_law 1331 = .ok (.iconst 1, 1) := by decide +kernel
theorem dL_law_1332 : decode cL_law 1332 = .ok (.iadd, 1) := by decide +kernel
theorem dL_law_1333 : decode cL_law 1333 = .ok (.iaload, 1) := by decide +kernel
theorem dL_law_1334 : decode cL_law 1334 = .ok (.aload_n 3, 1) := by decide +kernel
theorem dL_law_1335 : decode cL_law 1335 = .ok (.invokestatic 232, 3) := by decide +kernel
theorem dL_law_1338 : decode cL_law 1338 = .ok (.istore 5, 2) := by decide +kernel
theorem dL_law_1340 : decode cL_law 1340 = .ok (.aload_n 2, 1) := by decide +kernel
theorem dL_law_1341 : decode cL_law 1341 = .ok (.aload_n 0, 1) := by decide +kernel
theorem dL_law_1342 : decode cL_law 1342 = .ok (.iload 4, 2) := by decide +kernel
theorem dL_law_1344 : decode cL_law 1344 = .ok (.iconst 1, 1) := by decide +kernel
theorem dL_law_1345 : decode cL_law 1345 = .ok (.iadd, 1) := by decide +kernel
theorem dL_law_1346 : decode cL_law 1346 = .ok (.iaload, 1) := by decide +kernel
theorem dL_law_1347 : decode cL_law 1347 = .ok (.invokevirtual 234, 3) := by decide +kernel
theorem dL_law_1350 : decode cL_law 1350 = .ok (.istore 6, 2) := by decide +kernel
theorem dL_law_1352 : decode cL_law 1352 = .ok (.aload_n 2, 1) := by decide +kernel
theorem dL_law_1353 : decode cL_law 1353 = .ok (.invokevirtual 148, 3) := by decide +kernel
theorem dL_law_1356 : decode cL_law 1356 = .ok (.iload 5, 2) := by decide +kernel
theorem dL_law_1358 : decode cL_law 1358 = .ok (.if_icmp .eq 5, 3) := by decide +kernel
theorem dL_law_1361 : decode cL_law 1361 = .ok (.iconst 0, 1) := by decide +kernel
theorem dL_law_1362 : decode cL_law 1362 = .ok (.ireturn, 1) := by decide +kernel
theorem dL_law_1363 : decode cL_law 1363 = .ok (.iload 5, 2) := by decide +kernel
theorem dL_law_1365 : decode cL_law 1365 = .ok (.ifCond .ne 15, 3) := by decide +kernel
theorem dL_law_1368 : decode cL_law 1368 = .ok (.aload_n 3, 1) := by decide +kernel
theorem dL_law_1369 : decode cL_law 1369 = .ok (.iconst 0, 1) := by decide +kernel
theorem dL_law_1370 : decode cL_law 1370 = .ok (.laload, 1) := by decide +kernel
theorem dL_law_1371 : decode cL_law 1371 = .ok (.iload 6, 2) := by decide +kernel
theorem dL_law_1373 : decode cL_law 1373 = .ok (.i2l, 1) := by decide +kernel
theorem dL_law_1374 : decode cL_law 1374 = .ok (.lcmp, 1) := by decide +kernel
theorem dL_law_1375 : decode cL_law 1375 = .ok (.ifCond .eq 5, 3) := by decide +kernel
theorem dL_law_1378 : decode cL_law 1378 = .ok (.iconst 0, 1) := by decide +kernel
theorem dL_law_1379 : decode cL_law 1379 = .ok (.ireturn, 1) := by decide +kernel
theorem dL_law_1380 : decode cL_law 1380 = .ok (.goto 1628, 3) := by decide +kernel
theorem dL_law_1383 : decode cL_law 1383 = .ok (.aload_n 1, 1) := by decide +kernel
theorem dL_law_1384 : decode cL_law 1384 = .ok (.invokevirtual 235, 3) := by decide +kernel
theorem dL_law_1387 : decode cL_law 1387 = .ok (.aload_n 2, 1) := by decide +kernel
theorem dL_law_1388 : decode cL_law 1388 = .ok (.invokevirtual 238, 3) := by decide +kernel
theorem dL_law_1391 : decode cL_law 1391 = .ok (.if_icmp .eq 1617, 3) := by decide +kernel
theorem dL_law_1394 : decode cL_law 1394 = .ok (.iconst 0, 1) := by decide +kernel
theorem dL_law_1395 : decode cL_law 1395 = .ok (.ireturn, 1) := by decide +kernel
theorem dL_law_1396 : decode cL_law 1396 = .ok (.aload_n 1, 1) := by decide +kernel
theorem dL_law_1397 : decode cL_law 1397 = .ok (.aload_n 0, 1) := by decide +kernel
theorem dL_law_1398 : decode cL_law 1398 = .ok (.iload 4, 2) := by decide +kernel
theorem dL_law_1400 : decode cL_law 1400 = .ok (.iconst 1, 1) := by decide +kernel
theorem dL_law_1401 : decode cL_law 1401 = .ok (.iadd, 1) := by decide +kernel
theorem dL_law_1402 : decode cL_law 1402 = .ok (.iaload, 1) := by decide +kernel
theorem dL_law_1403 : decode cL_law 1403 = .ok (.invokevirtual 239, 3) := by decide +kernel
theorem dL_law_1406 : decode cL_law 1406 = .ok (.aload_n 2, 1) := by decide +kernel
theorem dL_law_1407 : decode cL_law 1407 = .ok (.aload_n 0, 1) := by decide +kernel
theorem dL_law_1408 : decode cL_law 1408 = .ok (.iload 4, 2) := by decide +kernel
theorem dL_law_1410 : decode cL_law 1410 = .ok (.iconst 1, 1) := by decide +kernel
theorem dL_law_1411 : decode cL_law 1411 = .ok (.iadd, 1) := by decide +kernel
theorem dL_law_1412 : decode cL_law 1412 = .ok (.iaload, 1) := by decide +kernel
theorem dL_law_1413 : decode cL_law 1413 = .ok (.invokevirtual 242, 3) := by decide +kernel
theorem dL_law_1416 : decode cL_law 1416 = .ok (.if_icmp .eq 1592, 3) := by decide +kernel
theorem dL_law_1419 : decode cL_law 1419 = .ok (.iconst 0, 1) := by decide +kernel
theorem dL_law_1420 : decode cL_law 1420 = .ok (.ireturn, 1) := by decide +kernel
theorem dL_law_1421 : decode cL_law 1421 = .ok (.aload_n 1, 1) := by decide +kernel
theorem dL_law_1422 : decode cL_law 1422 = .ok (.aload_n 0, 1) := by decide +kernel
theorem dL_law_1423 : decode cL_law 1423 = .ok (.iload 4, 2) := by decide +kernel
theorem dL_law_1425 : decode cL_law 1425 = .ok (.iconst 1, 1) := by decide +kernel
theorem dL_law_1426 : decode cL_law 1426 = .ok (.iadd, 1) := by decide +kernel
theorem dL_law_1427 : decode cL_law 1427 = .ok (.iaload, 1) := by decide +kernel
theorem dL_law_1428 : decode cL_law 1428 = .ok (.aload_n 3, 1) := by decide +kernel
theorem dL_law_1429 : decode cL_law 1429 = .ok (.invokestatic 243, 3) := by decide +kernel
theorem dL_law_1432 : decode cL_law 1432 = .ok (.istore 5, 2) := by decide +kernel
theorem dL_law_1434 : decode cL_law 1434 = .ok (.aload_n 2, 1) := by decide +kernel
theorem dL_law_1435 : decode cL_law 1435 = .ok (.aload_n 0, 1) := by decide +kernel
theorem dL_law_1436 : decode cL_law 1436 = .ok (.iload 4, 2) := by decide +kernel
theorem dL_law_1438 : decode cL_law 1438 = .ok (.iconst 1, 1) := by decide +kernel
theorem dL_law_1439 : decode cL_law 1439 = .ok (.iadd, 1) := by decide +kernel
theorem dL_law_1440 : decode cL_law 1440 = .ok (.iaload, 1) := by decide +kernel
theorem dL_law_1441 : decode cL_law 1441 = .ok (.invokevirtual 245, 3) := by decide +kernel
theorem dL_law_1444 : decode cL_law 1444 = .ok (.istore 6, 2) := by decide +kernel
theorem dL_law_1446 : decode cL_law 1446 = .ok (.aload_n 2, 1) := by decide +kernel
theorem dL_law_1447 : decode cL_law 1447 = .ok (.invokevirtual 148, 3) := by decide +kernel
theorem dL_law_1450 : decode cL_law 1450 = .ok (.iload 5, 2) := by decide +kernel
theorem dL_law_1452 : decode cL_law 1452 = .ok (.if_icmp .eq 5, 3) := by decide +kernel
theorem dL_law_1455 : decode cL_law 1455 = .ok (.iconst 0, 1) := by decide +kernel
theorem dL_law_1456 : decode cL_law 1456 = .ok (.ireturn, 1) := by decide +kernel
theorem dL_law_1457 : decode cL_law 1457 = .ok (.iload 5, 2) := by decide +kernel
theorem dL_law_1459 : decode cL_law 1459 = .ok (.ifCond .ne 15, 3) := by decide +kernel
theorem dL_law_1462 : decode cL_law 1462 = .ok (.aload_n 3, 1) := by decide +kernel
theorem dL_law_1463 : decode cL_law 1463 = .ok (.iconst 0, 1) := by decide +kernel
theorem dL_law_1464 : decode cL_law 1464 = .ok (.laload, 1) := by decide +kernel
theorem dL_law_1465 : decode cL_law 1465 = .ok (.iload 6, 2) := by decide +kernel
theorem dL_law_1467 : decode cL_law 1467 = .ok (.i2l, 1) := by decide +kernel
theorem dL_law_1468 : decode cL_law 1468 = .ok (.lcmp, 1) := by decide +kernel
theorem dL_law_1469 : decode cL_law 1469 = .ok (.ifCond .eq 5, 3) := by decide +kernel
theorem dL_law_1472 : decode cL_law 1472 = .ok (.iconst 0, 1) := by decide +kernel
theorem dL_law_1473 : decode cL_law 1473 = .ok (.ireturn, 1) := by decide +kernel
theorem dL_law_1474 : decode cL_law 1474 = .ok (.goto 1534, 3) := by decide +kernel
theorem dL_law_1477 : decode cL_law 1477 = .ok (.aload_n 1, 1) := by decide +kernel
theorem dL_law_1478 : decode cL_law 1478 = .ok (.aload_n 0, 1) := by decide +kernel
theorem dL_law_1479 : decode cL_law 1479 = .ok (.iload 4, 2) := by decide +kernel
theorem dL_law_1481 : decode cL_law 1481 = .ok (.iconst 1, 1) := by decide +kernel
theorem dL_law_1482 : decode cL_law 1482 = .ok (.iadd, 1) := by decide +kernel
theorem dL_law_1483 : decode cL_law 1483 = .ok (.iaload, 1) := by decide +kernel
theorem dL_law_1484 : decode cL_law 1484 = .ok (.aload_n 3, 1) := by decide +kernel
theorem dL_law_1485 : decode cL_law 1485 = .ok (.invokestatic 246, 3) := by decide +kernel
theorem dL_law_1488 : decode cL_law 1488 = .ok (.istore 5, 2) := by decide +kernel
theorem dL_law_1490 : decode cL_law 1490 = .ok (.aload_n 2, 1) := by decide +kernel
theorem dL_law_1491 : decode cL_law 1491 = .ok (.aload_n 0, 1) := by decide +kernel
theorem dL_law_1492 : decode cL_law 1492 = .ok (.iload 4, 2) := by decide +kernel
theorem dL_law_1494 : decode cL_law 1494 = .ok (.iconst 1, 1) := by decide +kernel
theorem dL_law_1495 : decode cL_law 1495 = .ok (.iadd, 1) := by decide +kernel
theorem dL_law_1496 : decode cL_law 1496 = .ok (.iaload, 1) := by decide +kernel
theorem dL_law_1497 : decode cL_law 1497 = .ok (.invokevirtual 248, 3) := by decide +kernel
theorem dL_law_1500 : decode cL_law 1500 = .ok (.istore 6, 2) := by decide +kernel
theorem dL_law_1502 : decode cL_law 1502 = .ok (.aload_n 2, 1) := by decide +kernel
theorem dL_law_1503 : decode cL_law 1503 = .ok (.invokevirtual 148, 3) := by decide +kernel
theorem dL_law_1506 : decode cL_law 1506 = .ok (.iload 5, 2) := by decide +kernel
theorem dL_law_1508 : decode cL_law 1508 = .ok (.if_icmp .eq 5, 3) := by decide +kernel
theorem dL_law_1511 : decode cL_law 1511 = .ok (.iconst 0, 1) := by decide +kernel
theorem dL_law_1512 : decode cL_law 1512 = .ok (.ireturn, 1) := by decide +kernel
theorem dL_law_1513 : decode cL_law 1513 = .ok (.iload 5, 2) := by decide +kernel
theorem dL_law_1515 : decode cL_law 1515 = .ok (.ifCond .ne 15, 3) := by decide +kernel
theorem dL_law_1518 : decode cL_law 1518 = .ok (.aload_n 3, 1) := by decide +kernel
theorem dL_law_1519 : decode cL_law 1519 = .ok (.iconst 0, 1) := by decide +kernel
theorem dL_law_1520 : decode cL_law 1520 = .ok (.laload, 1) := by decide +kernel
theorem dL_law_1521 : decode cL_law 1521 = .ok (.iload 6, 2) := by decide +kernel
theorem dL_law_1523 : decode cL_law 1523 = .ok (.i2l, 1) := by decide +kernel
theorem dL_law_1524 : decode cL_law 1524 = .ok (.lcmp, 1) := by decide +kernel
theorem dL_law_1525 : decode cL_law 1525 = .ok (.ifCond .eq 5, 3) := by decide +kernel
theorem dL_law_1528 : decode cL_law 1528 = .ok (.iconst 0, 1) := by decide +kernel
theorem dL_law_1529 : decode cL_law 1529 = .ok (.ireturn, 1) := by decide +kernel
theorem dL_law_1530 : decode cL_law 1530 = .ok (.goto 1478, 3) := by decide +kernel
theorem dL_law_1533 : decode cL_law 1533 = .ok (.aload_n 1, 1) := by decide +kernel
theorem dL_law_1534 : decode cL_law 1534 = .ok (.aload_n 0, 1) := by decide +kernel
theorem dL_law_1535 : decode cL_law 1535 = .ok (.iload 4, 2) := by decide +kernel
theorem dL_law_1537 : decode cL_law 1537 = .ok (.iconst 1, 1) := by decide +kernel
theorem dL_law_1538 : decode cL_law 1538 = .ok (.iadd, 1) := by decide +kernel
theorem dL_law_1539 : decode cL_law 1539 = .ok (.iaload, 1) := by decide +kernel
theorem dL_law_1540 : decode cL_law 1540 = .ok (.aload_n 3, 1) := by decide +kernel
theorem dL_law_1541 : decode cL_law 1541 = .ok (.invokestatic 249, 3) := by decide +kernel
theorem dL_law_1544 : decode cL_law 1544 = .ok (.istore 5, 2) := by decide +kernel
theorem dL_law_1546 : decode cL_law 1546 = .ok (.aload_n 2, 1) := by decide +kernel
theorem dL_law_1547 : decode cL_law 1547 = .ok (.aload_n 0, 1) := by decide +kernel
theorem dL_law_1548 : decode cL_law 1548 = .ok (.iload 4, 2) := by decide +kernel
theorem dL_law_1550 : decode cL_law 1550 = .ok (.iconst 1, 1) := by decide +kernel
theorem dL_law_1551 : decode cL_law 1551 = .ok (.iadd, 1) := by decide +kernel
theorem dL_law_1552 : decode cL_law 1552 = .ok (.iaload, 1) := by decide +kernel
theorem dL_law_1553 : decode cL_law 1553 = .ok (.invokevirtual 251, 3) := by decide +kernel
theorem dL_law_1556 : decode cL_law 1556 = .ok (.istore 6, 2) := by decide +kernel
theorem dL_law_1558 : decode cL_law 1558 = .ok (.aload_n 2, 1) := by decide +kernel
theorem dL_law_1559 : decode cL_law 1559 = .ok (.invokevirtual 148, 3) := by decide +kernel
theorem dL_law_1562 : decode cL_law 1562 = .ok (.iload 5, 2) := by decide +kernel
theorem dL_law_1564 : decode cL_law 1564 = .ok (.if_icmp .eq 5, 3) := by decide +kernel
theorem dL_law_1567 : decode cL_law 1567 = .ok (.iconst 0, 1) := by decide +kernel
theorem dL_law_1568 : decode cL_law 1568 = .ok (.ireturn, 1) := by decide +kernel
theorem dL_law_1569 : decode cL_law 1569 = .ok (.iload 5, 2) := by decide +kernel
theorem dL_law_1571 : decode cL_law 1571 = .ok (.ifCond .ne 15, 3) := by decide +kernel
theorem dL_law_1574 : decode cL_law 1574 = .ok (.aload_n 3, 1) := by decide +kernel
theorem dL_law_1575 : decode cL_law 1575 = .ok (.iconst 0, 1) := by decide +kernel
theorem dL_law_1576 : decode cL_law 1576 = .ok (.laload, 1) := by decide +kernel
theorem dL_law_1577 : decode cL_law 1577 = .ok (.iload 6, 2) := by decide +kernel
theorem dL_law_1579 : decode cL_law 1579 = .ok (.i2l, 1) := by decide +kernel
theorem dL_law_1580 : decode cL_law 1580 = .ok (.lcmp, 1) := by decide +kernel
theorem dL_law_1581 : decode cL_law 1581 = .ok (.ifCond .eq 5, 3) := by decide +kernel
theorem dL_law_1584 : decode cL_law 1584 = .ok (.iconst 0, 1) := by decide +kernel
theorem dL_law_1585 : decode cL_law 1585 = .ok (.ireturn, 1) := by decide +kernel
theorem dL_law_1586 : decode cL_law 1586 = .ok (.goto 1422, 3) := by decide +kernel
theorem dL_law_1589 : decode cL_law 1589 = .ok (.aload_n 1, 1) := by decide +kernel
theorem dL_law_1590 : decode cL_law 1590 = .ok (.aload_n 0, 1) := by decide +kernel
theorem dL_law_1591 : decode cL_law 1591 = .ok (.iload 4, 2) := by decide +kernel
theorem dL_law_1593 : decode cL_law 1593 = .ok (.iconst 1, 1) := by decide +kernel
theorem dL_law_1594 : decode cL_law 1594 = .ok (.iadd, 1) := by decide +kernel
theorem dL_law_1595 : decode cL_law 1595 = .ok (.iaload, 1) := by decide +kernel
theorem dL_law_1596 : decode cL_law 1596 = .ok (.aload_n 3, 1) := by decide +kernel
theorem dL_law_1597 : decode cL_law 1597 = .ok (.invokestatic 252, 3) := by decide +kernel
theorem dL_law_1600 : decode cL_law 1600 = .ok (.istore 5, 2) := by decide +kernel
theorem dL_law_1602 : decode cL_law 1602 = .ok (.aload_n 2, 1) := by decide +kernel
theorem dL_law_1603 : decode cL_law 1603 = .ok (.aload_n 0, 1) := by decide +kernel
theorem dL_law_1604 : decode cL_law 1604 = .ok (.iload 4, 2) := by decide +kernel
theorem dL_law_1606 : decode cL_law 1606 = .ok (.iconst 1, 1) := by decide +kernel
theorem dL_law_1607 : decode cL_law 1607 = .ok (.iadd, 1) := by decide +kernel
theorem dL_law_1608 : decode cL_law 1608 = .ok (.iaload, 1) := by decide +kernel
theorem dL_law_1609 : decode cL_law 1609 = .ok (.invokevirtual 254, 3) := by decide +kernel
theorem dL_law_1612 : decode cL_law 1612 = .ok (.istore 6, 2) := by decide +kernel
theorem dL_law_1614 : decode cL_law 1614 = .ok (.aload_n 2, 1) := by decide +kernel
theorem dL_law_1615 : decode cL_law 1615 = .ok (.invokevirtual 148, 3) := by decide +kernel
theorem dL_law_1618 : decode cL_law 1618 = .ok (.iload 5, 2) := by decide +kernel
theorem dL_law_1620 : decode cL_law 1620 = .ok (.if_icmp .eq 5, 3) := by decide +kernel
theorem dL_law_1623 : decode cL_law 1623 = .ok (.iconst 0, 1) := by decide +kernel
theorem dL_law_1624 : decode cL_law 1624 = .ok (.ireturn, 1) := by decide +kernel
theorem dL_law_1625 : decode cL_law 1625 = .ok (.iload 5, 2) := by decide +kernel
theorem dL_law_1627 : decode cL_law 1627 = .ok (.ifCond .ne 15, 3) := by decide +kernel
theorem dL_law_1630 : decode cL_law 1630 = .ok (.aload_n 3, 1) := by decide +kernel
theorem dL_law_1631 : decode cL_law 1631 = .ok (.iconst 0, 1) := by decide +kernel
theorem dL_law_1632 : decode cL_law 1632 = .ok (.laload, 1) := by decide +kernel
theorem dL_law_1633 : decode cL_law 1633 = .ok (.iload 6, 2) := by decide +kernel
theorem dL_law_1635 : decode cL_law 1635 = .ok (.i2l, 1) := by decide +kernel
theorem dL_law_1636 : decode cL_law 1636 = .ok (.lcmp, 1) := by decide +kernel
theorem dL_law_1637 : decode cL_law 1637 = .ok (.ifCond .eq 5, 3) := by decide +kernel
theorem dL_law_1640 : decode cL_law 1640 = .ok (.iconst 0, 1) := by decide +kernel
theorem dL_law_1641 : decode cL_law 1641 = .ok (.ireturn, 1) := by decide +kernel
theorem dL_law_1642 : decode cL_law 1642 = .ok (.goto 1366, 3) := by decide +kernel
theorem dL_law_1645 : decode cL_law 1645 = .ok (.aload_n 1, 1) := by decide +kernel
theorem dL_law_1646 : decode cL_law 1646 = .ok (.aload_n 0, 1) := by decide +kernel
theorem dL_law_1647 : decode cL_law 1647 = .ok (.iload 4, 2) := by decide +kernel
theorem dL_law_1649 : decode cL_law 1649 = .ok (.iconst 1, 1) := by decide +kernel
theorem dL_law_1650 : decode cL_law 1650 = .ok (.iadd, 1) := by decide +kernel
theorem dL_law_1651 : decode cL_law 1651 = .ok (.iaload, 1) := by decide +kernel
theorem dL_law_1652 : decode cL_law 1652 = .ok (.aload_n 3, 1) := by decide +kernel
theorem dL_law_1653 : decode cL_law 1653 = .ok (.invokestatic 255, 3) := by decide +kernel
theorem dL_law_1656 : decode cL_law 1656 = .ok (.istore 5, 2) := by decide +kernel
theorem dL_law_1658 : decode cL_law 1658 = .ok (.aload_n 2, 1) := by decide +kernel
theorem dL_law_1659 : decode cL_law 1659 = .ok (.aload_n 0, 1) := by decide +kernel
theorem dL_law_1660 : decode cL_law 1660 = .ok (.iload 4, 2) := by decide +kernel
theorem dL_law_1662 : decode cL_law 1662 = .ok (.iconst 1, 1) := by decide +kernel
theorem dL_law_1663 : decode cL_law 1663 = .ok (.iadd, 1) := by decide +kernel
theorem dL_law_1664 : decode cL_law 1664 = .ok (.iaload, 1) := by decide +kernel
theorem dL_law_1665 : decode cL_law 1665 = .ok (.invokevirtual 257, 3) := by decide +kernel
theorem dL_law_1668 : decode cL_law 1668 = .ok (.istore 6, 2) := by decide +kernel
theorem dL_law_1670 : decode cL_law 1670 = .ok (.aload_n 2, 1) := by decide +kernel
theorem dL_law_1671 : decode cL_law 1671 = .ok (.invokevirtual 148, 3) := by decide +kernel
theorem dL_law_1674 : decode cL_law 1674 = .ok (.iload 5, 2) := by decide +kernel
theorem dL_law_1676 : decode cL_law 1676 = .ok (.if_icmp .eq 5, 3) := by decide +kernel
theorem dL_law_1679 : decode cL_law 1679 = .ok (.iconst 0, 1) := by decide +kernel
theorem dL_law_1680 : decode cL_law 1680 = .ok (.ireturn, 1) := by decide +kernel
theorem dL_law_1681 : decode cL_law 1681 = .ok (.iload 5, 2) := by decide +kernel
theorem dL_law_1683 : decode cL_law 1683 = .ok (.ifCond .ne 15, 3) := by decide +kernel
theorem dL_law_1686 : decode cL_law 1686 = .ok (.aload_n 3, 1) := by decide +kernel
theorem dL_law_1687 : decode cL_law 1687 = .ok (.iconst 0, 1) := by decide +kernel
theorem dL_law_1688 : decode cL_law 1688 = .ok (.laload, 1) := by decide +kernel
theorem dL_law_1689 : decode cL_law 1689 = .ok (.iload 6, 2) := by decide +kernel
theorem dL_law_1691 : decode cL_law 1691 = .ok (.i2l, 1) := by decide +kernel
theorem dL_law_1692 : decode cL_law 1692 = .ok (.lcmp, 1) := by decide +kernel
theorem dL_law_1693 : decode cL_law 1693 = .ok (.ifCond .eq 5, 3) := by decide +kernel
theorem dL_law_1696 : decode cL_law 1696 = .ok (.iconst 0, 1) := by decide +kernel
theorem dL_law_1697 : decode cL_law 1697 = .ok (.ireturn, 1) := by decide +kernel
theorem dL_law_1698 : decode cL_law 1698 = .ok (.goto 1310, 3) := by decide +kernel
theorem dL_law_1701 : decode cL_law 1701 = .ok (.aload_n 1, 1) := by decide +kernel
theorem dL_law_1702 : decode cL_law 1702 = .ok (.invokevirtual 258, 3) := by decide +kernel
theorem dL_law_1705 : decode cL_law 1705 = .ok (.aload_n 2, 1) := by decide +kernel
theorem dL_law_1706 : decode cL_law 1706 = .ok (.invokevirtual 261, 3) := by decide +kernel
theorem dL_law_1709 : decode cL_law 1709 = .ok (.if_icmp .eq 1299, 3) := by decide +kernel
theorem dL_law_1712 : decode cL_law 1712 = .ok (.iconst 0, 1) := by decide +kernel
theorem dL_law_1713 : decode cL_law 1713 = .ok (.ireturn, 1) := by decide +kernel
theorem dL_law_1714 : decode cL_law 1714 = .ok (.aload_n 1, 1) := by decide +kernel
theorem dL_law_1715 : decode cL_law 1715 = .ok (.aload_n 0, 1) := by decide +kernel
theorem dL_law_1716 : decode cL_law 1716 = .ok (.iload 4, 2) := by decide +kernel
theorem dL_law_1718 : decode cL_law 1718 = .ok (.iconst 1, 1) := by decide +kernel
theorem dL_law_1719 : decode cL_law 1719 = .ok (.iadd, 1) := by decide +kernel
theorem dL_law_1720 : decode cL_law 1720 = .ok (.iaload, 1) := by decide +kernel
theorem dL_law_1721 : decode cL_law 1721 = .ok (.aload_n 3, 1) := by decide +kernel
theorem dL_law_1722 : decode cL_law 1722 = .ok (.invokestatic 262, 3) := by decide +kernel
theorem dL_law_1725 : decode cL_law 1725 = .ok (.istore 5, 2) := by decide +kernel
theorem dL_law_1727 : decode cL_law 1727 = .ok (.aload_n 2, 1) := by decide +kernel
theorem dL_law_1728 : decode cL_law 1728 = .ok (.aload_n 0, 1) := by decide +kernel
theorem dL_law_1729 : decode cL_law 1729 = .ok (.iload 4, 2) := by decide +kernel
theorem dL_law_1731 : decode cL_law 1731 = .ok (.iconst 1, 1) := by decide +kernel
theorem dL_law_1732 : decode cL_law 1732 = .ok (.iadd, 1) := by decide +kernel
theorem dL_law_1733 : decode cL_law 1733 = .ok (.iaload, 1) := by decide +kernel
theorem dL_law_1734 : decode cL_law 1734 = .ok (.invokevirtual 264, 3) := by decide +kernel
theorem dL_law_1737 : decode cL_law 1737 = .ok (.istore 6, 2) := by decide +kernel
theorem dL_law_1739 : decode cL_law 1739 = .ok (.aload_n 2, 1) := by decide +kernel
theorem dL_law_1740 : decode cL_law 1740 = .ok (.invokevirtual 148, 3) := by decide +kernel
theorem dL_law_1743 : decode cL_law 1743 = .ok (.iload 5, 2) := by decide +kernel
theorem dL_law_1745 : decode cL_law 1745 = .ok (.if_icmp .eq 5, 3) := by decide +kernel
theorem dL_law_1748 : decode cL_law 1748 = .ok (.iconst 0, 1) := by decide +kernel
theorem dL_law_1749 : decode cL_law 1749 = .ok (.ireturn, 1) := by decide +kernel
theorem dL_law_1750 : decode cL_law 1750 = .ok (.iload 5, 2) := by decide +kernel
theorem dL_law_1752 : decode cL_law 1752 = .ok (.ifCond .ne 15, 3) := by decide +kernel
theorem dL_law_1755 : decode cL_law 1755 = .ok (.aload_n 3, 1) := by decide +kernel
theorem dL_law_1756 : decode cL_law 1756 = .ok (.iconst 0, 1) := by decide +kernel
theorem dL_law_1757 : decode cL_law 1757 = .ok (.laload, 1) := by decide +kernel
theorem dL_law_1758 : decode cL_law 1758 = .ok (.iload 6, 2) := by decide +kernel
theorem dL_law_1760 : decode cL_law 1760 = .ok (.i2l, 1) := by decide +kernel
theorem dL_law_1761 : decode cL_law 1761 = .ok (.lcmp, 1) := by decide +kernel
theorem dL_law_1762 : decode cL_law 1762 = .ok (.ifCond .eq 5, 3) := by decide +kernel
theorem dL_law_1765 : decode cL_law 1765 = .ok (.iconst 0, 1) := by decide +kernel
theorem dL_law_1766 : decode cL_law 1766 = .ok (.ireturn, 1) := by decide +kernel
theorem dL_law_1767 : decode cL_law 1767 = .ok (.goto 1241, 3) := by decide +kernel
theorem dL_law_1770 : decode cL_law 1770 = .ok (.aload_n 1, 1) := by decide +kernel
theorem dL_law_1771 : decode cL_law 1771 = .ok (.aload_n 0, 1) := by decide +kernel
theorem dL_law_1772 : decode cL_law 1772 = .ok (.iload 4, 2) := by decide +kernel
theorem dL_law_1774 : decode cL_law 1774 = .ok (.iconst 1, 1) := by decide +kernel
theorem dL_law_1775 : decode cL_law 1775 = .ok (.iadd, 1) := by decide +kernel
theorem dL_law_1776 : decode cL_law 1776 = .ok (.iaload, 1) := by decide +kernel
theorem dL_law_1777 : decode cL_law 1777 = .ok (.aload_n 0, 1) := by decide +kernel
theorem dL_law_1778 : decode cL_law 1778 = .ok (.iload 4, 2) := by decide +kernel
theorem dL_law_1780 : decode cL_law 1780 = .ok (.iconst 2, 1) := by decide +kernel
theorem dL_law_1781 : decode cL_law 1781 = .ok (.iadd, 1) := by decide +kernel
theorem dL_law_1782 : decode cL_law 1782 = .ok (.iaload, 1) := by decide +kernel
theorem dL_law_1783 : decode cL_law 1783 = .ok (.aload_n 3, 1) := by decide +kernel
theorem dL_law_1784 : decode cL_law 1784 = .ok (.invokestatic 265, 3) := by decide +kernel
theorem dL_law_1787 : decode cL_law 1787 = .ok (.istore 5, 2) := by decide +kernel
theorem dL_law_1789 : decode cL_law 1789 = .ok (.aload_n 2, 1) := by decide +kernel
theorem dL_law_1790 : decode cL_law 1790 = .ok (.aload_n 0, 1) := by decide +kernel
theorem dL_law_1791 : decode cL_law 1791 = .ok (.iload 4, 2) := by decide +kernel
theorem dL_law_1793 : decode cL_law 1793 = .ok (.iconst 1, 1) := by decide +kernel
theorem dL_law_1794 : decode cL_law 1794 = .ok (.iadd, 1) := by decide +kernel
theorem dL_law_1795 : decode cL_law 1795 = .ok (.iaload, 1) := by decide +kernel
theorem dL_law_1796 : decode cL_law 1796 = .ok (.aload_n 0, 1) := by decide +kernel
theorem dL_law_1797 : decode cL_law 1797 = .ok (.iload 4, 2) := by decide +kernel
theorem dL_law_1799 : decode cL_law 1799 = .ok (.iconst 2, 1) := by decide +kernel
theorem dL_law_1800 : decode cL_law 1800 = .ok (.iadd, 1) := by decide +kernel
theorem dL_law_1801 : decode cL_law 1801 = .ok (.iaload, 1) := by decide +kernel
theorem dL_law_1802 : decode cL_law 1802 = .ok (.invokevirtual 268, 3) := by decide +kernel
theorem dL_law_1805 : decode cL_law 1805 = .ok (.istore 6, 2) := by decide +kernel
theorem dL_law_1807 : decode cL_law 1807 = .ok (.aload_n 2, 1) := by decide +kernel
theorem dL_law_1808 : decode cL_law 1808 = .ok (.invokevirtual 148, 3) := by decide +kernel
theorem dL_law_1811 : decode cL_law 1811 = .ok (.iload 5, 2) := by decide +kernel
theorem dL_law_1813 : decode cL_law 1813 = .ok (.if_icmp .eq 5, 3) := by decide +kernel
theorem dL_law_1816 : decode cL_law 1816 = .ok (.iconst 0, 1) := by decide +kernel
theorem dL_law_1817 : decode cL_law 1817 = .ok (.ireturn, 1) := by decide +kernel
theorem dL_law_1818 : decode cL_law 1818 = .ok (.iload 5, 2) := by decide +kernel
theorem dL_law_1820 : decode cL_law 1820 = .ok (.ifCond .ne 15, 3) := by decide +kernel
theorem dL_law_1823 : decode cL_law 1823 = .ok (.aload_n 3, 1) := by decide +kernel
theorem dL_law_1824 : decode cL_law 1824 = .ok (.iconst 0, 1) := by decide +kernel
theorem dL_law_1825 : decode cL_law 1825 = .ok (.laload, 1) := by decide +kernel
theorem dL_law_1826 : decode cL_law 1826 = .ok (.iload 6, 2) := by decide +kernel
theorem dL_law_1828 : decode cL_law 1828 = .ok (.i2l, 1) := by decide +kernel
theorem dL_law_1829 : decode cL_law 1829 = .ok (.lcmp, 1) := by decide +kernel
theorem dL_law_1830 : decode cL_law 1830 = .ok (.ifCond .eq 5, 3) := by decide +kernel
theorem dL_law_1833 : decode cL_law 1833 = .ok (.iconst 0, 1) := by decide +kernel
theorem dL_law_1834 : decode cL_law 1834 = .ok (.ireturn, 1) := by decide +kernel
theorem dL_law_1835 : decode cL_law 1835 = .ok (.goto 1173, 3) := by decide +kernel
theorem dL_law_1838 : decode cL_law 1838 = .ok (.aload_n 1, 1) := by decide +kernel
theorem dL_law_1839 : decode cL_law 1839 = .ok (.aload_n 0, 1) := by decide +kernel
theorem dL_law_1840 : decode cL_law 1840 = .ok (.iload 4, 2) := by decide +kernel
theorem dL_law_1842 : decode cL_law 1842 = .ok (.iconst 1, 1) := by decide +kernel
theorem dL_law_1843 : decode cL_law 1843 = .ok (.iadd, 1) := by decide +kernel
theorem dL_law_1844 : decode cL_law 1844 = .ok (.iaload, 1) := by decide +kernel
theorem dL_law_1845 : decode cL_law 1845 = .ok (.aload_n 0, 1) := by decide +kernel
theorem dL_law_1846 : decode cL_law 1846 = .ok (.iload 4, 2) := by decide +kernel
theorem dL_law_1848 : decode cL_law 1848 = .ok (.iconst 2, 1) := by decide +kernel
theorem dL_law_1849 : decode cL_law 1849 = .ok (.iadd, 1) := by decide +kernel
theorem dL_law_1850 : decode cL_law 1850 = .ok (.iaload, 1) := by decide +kernel
theorem dL_law_1851 : decode cL_law 1851 = .ok (.aload_n 3, 1) := by decide +kernel
theorem dL_law_1852 : decode cL_law 1852 = .ok (.invokestatic 269, 3) := by decide +kernel
theorem dL_law_1855 : decode cL_law 1855 = .ok (.istore 5, 2) := by decide +kernel
theorem dL_law_1857 : decode cL_law 1857 = .ok (.aload_n 2, 1) := by decide +kernel
theorem dL_law_1858 : decode cL_law 1858 = .ok (.aload_n 0, 1) := by decide +kernel
theorem dL_law_1859 : decode cL_law 1859 = .ok (.iload 4, 2) := by decide +kernel
theorem dL_law_1861 : decode cL_law 1861 = .ok (.iconst 1, 1) := by decide +kernel
theorem dL_law_1862 : decode cL_law 1862 = .ok (.iadd, 1) := by decide +kernel
theorem dL_law_1863 : decode cL_law 1863 = .ok (.iaload, 1) := by decide +kernel
theorem dL_law_1864 : decode cL_law 1864 = .ok (.aload_n 0, 1) := by decide +kernel
theorem dL_law_1865 : decode cL_law 1865 = .ok (.iload 4, 2) := by decide +kernel
theorem dL_law_1867 : decode cL_law 1867 = .ok (.iconst 2, 1) := by decide +kernel
theorem dL_law_1868 : decode cL_law 1868 = .ok (.iadd, 1) := by decide +kernel
theorem dL_law_1869 : decode cL_law 1869 = .ok (.iaload, 1) := by decide +kernel
theorem dL_law_1870 : decode cL_law 1870 = .ok (.invokevirtual 271, 3) := by decide +kernel
theorem dL_law_1873 : decode cL_law 1873 = .ok (.istore 6, 2) := by decide +kernel
theorem dL_law_1875 : decode cL_law 1875 = .ok (.aload_n 2, 1) := by decide +kernel
theorem dL_law_1876 : decode cL_law 1876 = .ok (.invokevirtual 148, 3) := by decide +kernel
theorem dL_law_1879 : decode cL_law 1879 = .ok (.iload 5, 2) := by decide +kernel
theorem dL_law_1881 : decode cL_law 1881 = .ok (.if_icmp .eq 5, 3) := by decide +kernel
theorem dL_law_1884 : decode cL_law 1884 = .ok (.iconst 0, 1) := by decide +kernel
theorem dL_law_1885 : decode cL_law 1885 = .ok (.ireturn, 1) := by decide +kernel
theorem dL_law_1886 : decode cL_law 1886 = .ok (.iload 5, 2) := by decide +kernel
theorem dL_law_1888 : decode cL_law 1888 = .ok (.ifCond .ne 15, 3) := by decide +kernel
theorem dL_law_1891 : decode cL_law 1891 = .ok (.aload_n 3, 1) := by decide +kernel
theorem dL_law_1892 : decode cL_law 1892 = .ok (.iconst 0, 1) := by decide +kernel
theorem dL_law_1893 : decode cL_law 1893 = .ok (.laload, 1) := by decide +kernel
theorem dL_law_1894 : decode cL_law 1894 = .ok (.iload 6, 2) := by decide +kernel
theorem dL_law_1896 : decode cL_law 1896 = .ok (.i2l, 1) := by decide +kernel
theorem dL_law_1897 : decode cL_law 1897 = .ok (.lcmp, 1) := by decide +kernel
theorem dL_law_1898 : decode cL_law 1898 = .ok (.ifCond .eq 5, 3) := by decide +kernel
theorem dL_law_1901 : decode cL_law 1901 = .ok (.iconst 0, 1) := by decide +kernel
theorem dL_law_1902 : decode cL_law 1902 = .ok (.ireturn, 1) := by decide +kernel
theorem dL_law_1903 : decode cL_law 1903 = .ok (.goto 1105, 3) := by decide +kernel
theorem dL_law_1906 : decode cL_law 1906 = .ok (.aload_n 1, 1) := by decide +kernel
theorem dL_law_1907 : decode cL_law 1907 = .ok (.invokevirtual 272, 3) := by decide +kernel
theorem dL_law_1910 : decode cL_law 1910 = .ok (.aload_n 2, 1) := by decide +kernel
theorem dL_law_1911 : decode cL_law 1911 = .ok (.invokevirtual 275, 3) := by decide +kernel
theorem dL_law_1914 : decode cL_law 1914 = .ok (.if_icmp .eq 1094, 3) := by decide +kernel
theorem dL_law_1917 : decode cL_law 1917 = .ok (.iconst 0, 1) := by decide +kernel
theorem dL_law_1918 : decode cL_law 1918 = .ok (.ireturn, 1) := by decide +kernel
theorem dL_law_1919 : decode cL_law 1919 = .ok (.aload_n 1, 1) := by decide +kernel
theorem dL_law_1920 : decode cL_law 1920 = .ok (.aload_n 0, 1) := by decide +kernel
theorem dL_law_1921 : decode cL_law 1921 = .ok (.iload 4, 2) := by decide +kernel
theorem dL_law_1923 : decode cL_law 1923 = .ok (.iconst 1, 1) := by decide +kernel
theorem dL_law_1924 : decode cL_law 1924 = .ok (.iadd, 1) := by decide +kernel
theorem dL_law_1925 : decode cL_law 1925 = .ok (.iaload, 1) := by decide +kernel
theorem dL_law_1926 : decode cL_law 1926 = .ok (.aload_n 0, 1) := by decide +kernel
theorem dL_law_1927 : decode cL_law 1927 = .ok (.iload 4, 2) := by decide +kernel
theorem dL_law_1929 : decode cL_law 1929 = .ok (.iconst 2, 1) := by decide +kernel
theorem dL_law_1930 : decode cL_law 1930 = .ok (.iadd, 1) := by decide +kernel
theorem dL_law_1931 : decode cL_law 1931 = .ok (.iaload, 1) := by decide +kernel
theorem dL_law_1932 : decode cL_law 1932 = .ok (.aload_n 3, 1) := by decide +kernel
theorem dL_law_1933 : decode cL_law 1933 = .ok (.invokestatic 276, 3) := by decide +kernel
theorem dL_law_1936 : decode cL_law 1936 = .ok (.istore 5, 2) := by decide +kernel
theorem dL_law_1938 : decode cL_law 1938 = .ok (.aload_n 2, 1) := by decide +kernel
theorem dL_law_1939 : decode cL_law 1939 = .ok (.aload_n 0, 1) := by decide +kernel
theorem dL_law_1940 : decode cL_law 1940 = .ok (.iload 4, 2) := by decide +kernel
theorem dL_law_1942 : decode cL_law 1942 = .ok (.iconst 1, 1) := by decide +kernel
theorem dL_law_1943 : decode cL_law 1943 = .ok (.iadd, 1) := by decide +kernel
theorem dL_law_1944 : decode cL_law 1944 = .ok (.iaload, 1) := by decide +kernel
theorem dL_law_1945 : decode cL_law 1945 = .ok (.aload_n 0, 1) := by decide +kernel
theorem dL_law_1946 : decode cL_law 1946 = .ok (.iload 4, 2) := by decide +kernel
theorem dL_law_1948 : decode cL_law 1948 = .ok (.iconst 2, 1) := by decide +kernel
theorem dL_law_1949 : decode cL_law 1949 = .ok (.iadd, 1) := by decide +kernel
theorem dL_law_1950 : decode cL_law 1950 = .ok (.iaload, 1) := by decide +kernel
theorem dL_law_1951 : decode cL_law 1951 = .ok (.invokevirtual 278, 3) := by decide +kernel
theorem dL_law_1954 : decode cL_law 1954 = .ok (.istore 6, 2) := by decide +kernel
theorem dL_law_1956 : decode cL_law 1956 = .ok (.aload_n 2, 1) := by decide +kernel
theorem dL_law_1957 : decode cL_law 1957 = .ok (.invokevirtual 148, 3) := by decide +kernel
theorem dL_law_1960 : decode cL_law 1960 = .ok (.iload 5, 2) := by decide +kernel
theorem dL_law_1962 : decode cL_law 1962 = .ok (.if_icmp .eq 5, 3) := by decide +kernel
theorem dL_law_1965 : decode cL_law 1965 = .ok (.iconst 0, 1) := by decide +kernel
theorem dL_law_1966 : decode cL_law 1966 = .ok (.ireturn, 1) := by decide +kernel
theorem dL_law_1967 : decode cL_law 1967 = .ok (.iload 5, 2) := by decide +kernel
theorem dL_law_1969 : decode cL_law 1969 = .ok (.ifCond .ne 15, 3) := by decide +kernel
theorem dL_law_1972 : decode cL_law 1972 = .ok (.aload_n 3, 1) := by decide +kernel
theorem dL_law_1973 : decode cL_law 1973 = .ok (.iconst 0, 1) := by decide +kernel
theorem dL_law_1974 : decode cL_law 1974 = .ok (.laload, 1) := by decide +kernel
theorem dL_law_1975 : decode cL_law 1975 = .ok (.iload 6, 2) := by decide +kernel
theorem dL_law_1977 : decode cL_law 1977 = .ok (.i2l, 1) := by decide +kernel
theorem dL_law_1978 : decode cL_law 1978 = .ok (.lcmp, 1) := by decide +kernel
theorem dL_law_1979 : decode cL_law 1979 = .ok (.ifCond .eq 5, 3) := by decide +kernel
theorem dL_law_1982 : decode cL_law 1982 = .ok (.iconst 0, 1) := by decide +kernel
theorem dL_law_1983 : decode cL_law 1983 = .ok (.ireturn, 1) := by decide +kernel
theorem dL_law_1984 : decode cL_law 1984 = .ok (.goto 1024, 3) := by decide +kernel
theorem dL_law_1987 : decode cL_law 1987 = .ok (.aload_n 1, 1) := by decide +kernel
theorem dL_law_1988 : decode cL_law 1988 = .ok (.aload_n 0, 1) := by decide +kernel
theorem dL_law_1989 : decode cL_law 1989 = .ok (.iload 4, 2) := by decide +kernel
theorem dL_law_1991 : decode cL_law 1991 = .ok (.iconst 1, 1) := by decide +kernel
theorem dL_law_1992 : decode cL_law 1992 = .ok (.iadd, 1) := by decide +kernel
theorem dL_law_1993 : decode cL_law 1993 = .ok (.iaload, 1) := by decide +kernel
theorem dL_law_1994 : decode cL_law 1994 = .ok (.aload_n 3, 1) := by decide +kernel
theorem dL_law_1995 : decode cL_law 1995 = .ok (.invokestatic 279, 3) := by decide +kernel
theorem dL_law_1998 : decode cL_law 1998 = .ok (.istore 5, 2) := by decide +kernel
theorem dL_law_2000 : decode cL_law 2000 = .ok (.aload_n 2, 1) := by decide +kernel
theorem dL_law_2001 : decode cL_law 2001 = .ok (.aload_n 0, 1) := by decide +kernel
theorem dL_law_2002 : decode cL_law 2002 = .ok (.iload 4, 2) := by decide +kernel
theorem dL_law_2004 : decode cL_law 2004 = .ok (.iconst 1, 1) := by decide +kernel
theorem dL_law_2005 : decode cL_law 2005 = .ok (.iadd, 1) := by decide +kernel
theorem dL_law_2006 : decode cL_law 2006 = .ok (.iaload, 1) := by decide +kernel
theorem dL_law_2007 : decode cL_law 2007 = .ok (.invokevirtual 281, 3) := by decide +kernel
theorem dL_law_2010 : decode cL_law 2010 = .ok (.istore 6, 2) := by decide +kernel
theorem dL_law_2012 : decode cL_law 2012 = .ok (.aload_n 2, 1) := by decide +kernel
theorem dL_law_2013 : decode cL_law 2013 = .ok (.invokevirtual 148, 3) := by decide +kernel
theorem dL_law_2016 : decode cL_law 2016 = .ok (.iload 5, 2) := by decide +kernel
theorem dL_law_2018 : decode cL_law 2018 = .ok (.if_icmp .eq 5, 3) := by decide +kernel
theorem dL_law_2021 : decode cL_law 2021 = .ok (.iconst 0, 1) := by decide +kernel
theorem dL_law_2022 : decode cL_law 2022 = .ok (.ireturn, 1) := by decide +kernel
theorem dL_law_2023 : decode cL_law 2023 = .ok (.iload 5, 2) := by decide +kernel
theorem dL_law_2025 : decode cL_law 2025 = .ok (.ifCond .ne 15, 3) := by decide +kernel
theorem dL_law_2028 : decode cL_law 2028 = .ok (.aload_n 3, 1) := by decide +kernel
theorem dL_law_2029 : decode cL_law 2029 = .ok (.iconst 0, 1) := by decide +kernel
theorem dL_law_2030 : decode cL_law 2030 = .ok (.laload, 1) := by decide +kernel
theorem dL_law_2031 : decode cL_law 2031 = .ok (.iload 6, 2) := by decide +kernel
theorem dL_law_2033 : decode cL_law 2033 = .ok (.i2l, 1) := by decide +kernel
theorem dL_law_2034 : decode cL_law 2034 = .ok (.lcmp, 1) := by decide +kernel
theorem dL_law_2035 : decode cL_law 2035 = .ok (.ifCond .eq 5, 3) := by decide +kernel
theorem dL_law_2038 : decode cL_law 2038 = .ok (.iconst 0, 1) := by decide +kernel
theorem dL_law_2039 : decode cL_law 2039 = .ok (.ireturn, 1) := by decide +kernel
theorem dL_law_2040 : decode cL_law 2040 = .ok (.goto 968, 3) := by decide +kernel
theorem dL_law_2043 : decode cL_law 2043 = .ok (.aload_n 1, 1) := by decide +kernel
theorem dL_law_2044 : decode cL_law 2044 = .ok (.aload_n 0, 1) := by decide +kernel
theorem dL_law_2045 : decode cL_law 2045 = .ok (.iload 4, 2) := by decide +kernel
theorem dL_law_2047 : decode cL_law 2047 = .ok (.iconst 1, 1) := by decide +kernel
theorem dL_law_2048 : decode cL_law 2048 = .ok (.iadd, 1) := by decide +kernel
theorem dL_law_2049 : decode cL_law 2049 = .ok (.iaload, 1) := by decide +kernel
theorem dL_law_2050 : decode cL_law 2050 = .ok (.aload_n 3, 1) := by decide +kernel
theorem dL_law_2051 : decode cL_law 2051 = .ok (.invokestatic 282, 3) := by decide +kernel
theorem dL_law_2054 : decode cL_law 2054 = .ok (.istore 5, 2) := by decide +kernel
theorem dL_law_2056 : decode cL_law 2056 = .ok (.aload_n 2, 1) := by decide +kernel
theorem dL_law_2057 : decode cL_law 2057 = .ok (.aload_n 0, 1) := by decide +kernel
theorem dL_law_2058 : decode cL_law 2058 = .ok (.iload 4, 2) := by decide +kernel
theorem dL_law_2060 : decode cL_law 2060 = .ok (.iconst 1, 1) := by decide +kernel
theorem dL_law_2061 : decode cL_law 2061 = .ok (.iadd, 1) := by decide +kernel
theorem dL_law_2062 : decode cL_law 2062 = .ok (.iaload, 1) := by decide +kernel
theorem dL_law_2063 : decode cL_law 2063 = .ok (.invokevirtual 284, 3) := by decide +kernel
theorem dL_law_2066 : decode cL_law 2066 = .ok (.istore 6, 2) := by decide +kernel
theorem dL_law_2068 : decode cL_law 2068 = .ok (.aload_n 2, 1) := by decide +kernel
theorem dL_law_2069 : decode cL_law 2069 = .ok (.invokevirtual 148, 3) := by decide +kernel
theorem dL_law_2072 : decode cL_law 2072 = .ok (.iload 5, 2) := by decide +kernel
theorem dL_law_2074 : decode cL_law 2074 = .ok (.if_icmp .eq 5, 3) := by decide +kernel
theorem dL_law_2077 : decode cL_law 2077 = .ok (.iconst 0, 1) := by decide +kernel
theorem dL_law_2078 : decode cL_law 2078 = .ok (.ireturn, 1) := by decide +kernel
theorem dL_law_2079 : decode cL_law 2079 = .ok (.iload 5, 2) := by decide +kernel
theorem dL_law_2081 : decode cL_law 2081 = .ok (.ifCond .ne 15, 3) := by decide +kernel
theorem dL_law_2084 : decode cL_law 2084 = .ok (.aload_n 3, 1) := by decide +kernel
theorem dL_law_2085 : decode cL_law 2085 = .ok (.iconst 0, 1) := by decide +kernel
theorem dL_law_2086 : decode cL_law 2086 = .ok (.laload, 1) := by decide +kernel
theorem dL_law_2087 : decode cL_law 2087 = .ok (.iload 6, 2) := by decide +kernel
theorem dL_law_2089 : decode cL_law 2089 = .ok (.i2l, 1) := by decide +kernel
theorem dL_law_2090 : decode cL_law 2090 = .ok (.lcmp, 1) := by decide +kernel
theorem dL_law_2091 : decode cL_law 2091 = .ok (.ifCond .eq 5, 3) := by decide +kernel
theorem dL_law_2094 : decode cL_law 2094 = .ok (.iconst 0, 1) := by decide +kernel
theorem dL_law_2095 : decode cL_law 2095 = .ok (.ireturn, 1) := by decide +kernel
theorem dL_law_2096 : decode cL_law 2096 = .ok (.goto 912, 3) := by decide +kernel
theorem dL_law_2099 : decode cL_law 2099 = .ok (.aload_n 1, 1) := by decide +kernel
theorem dL_law_2100 : decode cL_law 2100 = .ok (.aload_n 0, 1) := by decide +kernel
theorem dL_law_2101 : decode cL_law 2101 = .ok (.iload 4, 2) := by decide +kernel
theorem dL_law_2103 : decode cL_law 2103 = .ok (.iconst 1, 1) := by decide +kernel
theorem dL_law_2104 : decode cL_law 2104 = .ok (.iadd, 1) := by decide +kernel
theorem dL_law_2105 : decode cL_law 2105 = .ok (.iaload, 1) := by decide +kernel
theorem dL_law_2106 : decode cL_law 2106 = .ok (.aload_n 3, 1) := by decide +kernel
theorem dL_law_2107 : decode cL_law 2107 = .ok (.invokestatic 285, 3) := by decide +kernel
theorem dL_law_2110 : decode cL_law 2110 = .ok (.istore 5, 2) := by decide +kernel
theorem dL_law_2112 : decode cL_law 2112 = .ok (.aload_n 2, 1) := by decide +kernel
theorem dL_law_2113 : decode cL_law 2113 = .ok (.aload_n 0, 1) := by decide +kernel
theorem dL_law_2114 : decode cL_law 2114 = .ok (.iload 4, 2) := by decide +kernel
theorem dL_law_2116 : decode cL_law 2116 = .ok (.iconst 1, 1) := by decide +kernel
theorem dL_law_2117 : decode cL_law 2117 = .ok (.iadd, 1) := by decide +kernel
theorem dL_law_2118 : decode cL_law 2118 = .ok (.iaload, 1) := by decide +kernel
theorem dL_law_2119 : decode cL_law 2119 = .ok (.invokevirtual 287, 3) := by decide +kernel
theorem dL_law_2122 : decode cL_law 2122 = .ok (.istore 6, 2) := by decide +kernel
theorem dL_law_2124 : decode cL_law 2124 = .ok (.aload_n 2, 1) := by decide +kernel
theorem dL_law_2125 : decode cL_law 2125 = .ok (.invokevirtual 148, 3) := by decide +kernel
theorem dL_law_2128 : decode cL_law 2128 = .ok (.iload 5, 2) := by decide +kernel
theorem dL_law_2130 : decode cL_law 2130 = .ok (.if_icmp .eq 5, 3) := by decide +kernel
theorem dL_law_2133 : decode cL_law 2133 = .ok (.iconst 0, 1) := by decide +kernel
theorem dL_law_2134 : decode cL_law 2134 = .ok (.ireturn, 1) := by decide +kernel
theorem dL_law_2135 : decode cL_law 2135 = .ok (.iload 5, 2) := by decide +kernel
theorem dL_law_2137 : decode cL_law 2137 = .ok (.ifCond .ne 15, 3) := by decide +kernel
theorem dL_law_2140 : decode cL_law 2140 = .ok (.aload_n 3, 1) := by decide +kernel
theorem dL_law_2141 : decode cL_law 2141 = .ok (.iconst 0, 1) := by decide +kernel
theorem dL_law_2142 : decode cL_law 2142 = .ok (.laload, 1) := by decide +kernel
theorem dL_law_2143 : decode cL_law 2143 = .ok (.iload 6, 2) := by decide +kernel
theorem dL_law_2145 : decode cL_law 2145 = .ok (.i2l, 1) := by decide +kernel
theorem dL_law_2146 : decode cL_law 2146 = .ok (.lcmp, 1) := by decide +kernel
theorem dL_law_2147 : decode cL_law 2147 = .ok (.ifCond .eq 5, 3) := by decide +kernel
theorem dL_law_2150 : decode cL_law 2150 = .ok (.iconst 0, 1) := by decide +kernel
theorem dL_law_2151 : decode cL_law 2151 = .ok (.ireturn, 1) := by decide +kernel
theorem dL_law_2152 : decode cL_law 2152 = .ok (.goto 856, 3) := by decide +kernel
theorem dL_law_2155 : decode cL_law 2155 = .ok (.aload_n 1, 1) := by decide +kernel
theorem dL_law_2156 : decode cL_law 2156 = .ok (.aload_n 0, 1) := by decide +kernel
theorem dL_law_2157 : decode cL_law 2157 = .ok (.iload 4, 2) := by decide +kernel
theorem dL_law_2159 : decode cL_law 2159 = .ok (.iconst 1, 1) := by decide +kernel
theorem dL_law_2160 : decode cL_law 2160 = .ok (.iadd, 1) := by decide +kernel
theorem dL_law_2161 : decode cL_law 2161 = .ok (.iaload, 1) := by decide +kernel
theorem dL_law_2162 : decode cL_law 2162 = .ok (.aload_n 3, 1) := by decide +kernel
theorem dL_law_2163 : decode cL_law 2163 = .ok (.invokestatic 288, 3) := by decide +kernel
theorem dL_law_2166 : decode cL_law 2166 = .ok (.istore 5, 2) := by decide +kernel
theorem dL_law_2168 : decode cL_law 2168 = .ok (.aload_n 2, 1) := by decide +kernel
theorem dL_law_2169 : decode cL_law 2169 = .ok (.aload_n 0, 1) := by decide +kernel
theorem dL_law_2170 : decode cL_law 2170 = .ok (.iload 4, 2) := by decide +kernel
theorem dL_law_2172 : decode cL_law 2172 = .ok (.iconst 1, 1) := by decide +kernel
theorem dL_law_2173 : decode cL_law 2173 = .ok (.iadd, 1) := by decide +kernel
theorem dL_law_2174 : decode cL_law 2174 = .ok (.iaload, 1) := by decide +kernel
theorem dL_law_2175 : decode cL_law 2175 = .ok (.invokevirtual 290, 3) := by decide +kernel
theorem dL_law_2178 : decode cL_law 2178 = .ok (.istore 6, 2) := by decide +kernel
theorem dL_law_2180 : decode cL_law 2180 = .ok (.aload_n 2, 1) := by decide +kernel
theorem dL_law_2181 : decode cL_law 2181 = .ok (.invokevirtual 148, 3) := by decide +kernel
theorem dL_law_2184 : decode cL_law 2184 = .ok (.iload 5, 2) := by decide +kernel
theorem dL_law_2186 : decode cL_law 2186 = .ok (.if_icmp .eq 5, 3) := by decide +kernel
theorem dL_law_2189 : decode cL_law 2189 = .ok (.iconst 0, 1) := by decide +kernel
theorem dL_law_2190 : decode cL_law 2190 = .ok (.ireturn, 1) := by decide +kernel
theorem dL_law_2191 : decode cL_law 2191 = .ok (.iload 5, 2) := by decide +kernel
theorem dL_law_2193 : decode cL_law 2193 = .ok (.ifCond .ne 15, 3) := by decide +kernel
theorem dL_law_2196 : decode cL_law 2196 = .ok (.aload_n 3, 1) := by decide +kernel
theorem dL_law_2197 : decode cL_law 2197 = .ok (.iconst 0, 1) := by decide +kernel
theorem dL_law_2198 : decode cL_law 2198 = .ok (.laload, 1) := by decide +kernel
theorem dL_law_2199 : decode cL_law 2199 = .ok (.iload 6, 2) := by decide +kernel
theorem dL_law_2201 : decode cL_law 2201 = .ok (.i2l, 1) := by decide +kernel
theorem dL_law_2202 : decode cL_law 2202 = .ok (.lcmp, 1) := by decide +kernel
theorem dL_law_2203 : decode cL_law 2203 = .ok (.ifCond .eq 5, 3) := by decide +kernel
theorem dL_law_2206 : decode cL_law 2206 = .ok (.iconst 0, 1) := by decide +kernel
theorem dL_law_2207 : decode cL_law 2207 = .ok (.ireturn, 1) := by decide +kernel
theorem dL_law_2208 : decode cL_law 2208 = .ok (.goto 800, 3) := by decide +kernel
theorem la22N {w : WP} (hW : gW w) (hM : gWM w) (hS : gS w) (hZ : gZ w) (hO : wFr w (14, 13, 0, 0)) {X : CX} (C : gC w X cL_law "HedgeMessagesLaw" (some .boolean) 15 9) {b L : Nat} {xs : Nat → Int32} (hX : gSc X b L xs) {S : Nat → Nat → HV} {τ : HV} {o : Nat → Int64} {i : Int32} {p1 : Int32} (h1 : vp_in (i + 1) L ∧ xs (i + 1).toNatClampNeg = p1) {v : Int32} (hF : F_X10_startSlot p1 S = some (.inl v)) {τ' : HV} (hG : F_X11_startSlot p1 τ = some (v, τ')) (ht : F_X11_thrown τ' = 0) {Q1 : State → Prop} {c n : Nat} (hq : qOk X (Q1, c, n)) (kk : gU w X (Q1, c, n) (cA w (S, τ', (vp_updL o 0 v.toInt64))) 3008 [(4, .int i), (0, .ref b), (1, .ref (wAd w (7, 11, 6, 0))), (2, .ref (wAd w (11, 12, 0, 0))), (3, .ref (wAd w (14, 13, 0, 0)))] []) : gU w X (Q1, c, n) (cA w (S, τ, o)) 1215 [(4, .int i), (0, .ref b), (1, .ref (wAd w (7, 11, 6, 0))), (2, .ref (wAd w (11, 12, 0, 0))), (3, .ref (wAd w (14, 13, 0, 0)))] [] := by
  refine r_aload_n C (k := 2) rfl rfl dL_law_1215 ?_
  refine r_aload_n C (k := 1) rfl rfl dL_law_1216 ?_
  refine r_iload C (k := 0) rfl dL_law_1217 ?_
  refine r_iconst C (v := 1) rfl dL_law_1219 ?_
  refine r_iadd C dL_law_1220 ?_
  refine r_sld C hX h1.1 h1.2 dL_law_1221 ?_
  refine r_aload_n C (k := 4) rfl rfl dL_law_1222 ?_
  refine r_callH C (ny := 3) (d' := 8) (mc := 0) (ms := 0) [.ref (wAd w (7, 11, 6, 0)), .int p1, .ref (wAd w (14, 13, 0, 0))] (kL_startSlot hW hS hO (Ω := (S, τ, o)) rfl p1 hF) cwL_startSlot rfl wm1_0 wm5_174 ⟨by decide, by decide, by decide +kernel⟩ wm5_173 rfl (kR rfl) (by decide) (kR rfl) rfl dL_law_1223 hq ?_
  refine r_istore C (lo' := [(5, .int 0), (4, .int i), (0, .ref b), (1, .ref (wAd w (7, 11, 6, 0))), (2, .ref (wAd w (11, 12, 0, 0))), (3, .ref (wAd w (14, 13, 0, 0)))]) (by decide) rfl dL_law_1226 ?_
  refine r_aload_n C (k := 4) rfl rfl dL_law_1228 ?_
  refine r_aload_n C (k := 2) rfl rfl dL_law_1229 ?_
  refine r_iload C (k := 1) rfl dL_law_1230 ?_
  refine r_iconst C (v := 1) rfl dL_law_1232 ?_
  refine r_iadd C dL_law_1233 ?_
  refine r_sld C hX h1.1 h1.2 dL_law_1234 ?_
  refine r_callV C (d' := 2) [.int p1] (c_X11_startSlot hM (Ω := (S, τ, (vp_updL o 0 v.toInt64))) rfl p1 hG rfl) myX11_startSlot wm8_204 ⟨_, _, _, _, (hM.ok k11), rfl, rfl, rfl, rfl⟩ rfl (kR rfl) (by decide) (kR rfl) rfl dL_law_1235 ?_
  refine r_istore C (lo' := [(6, .int v), (5, .int 0), (4, .int i), (0, .ref b), (1, .ref (wAd w (7, 11, 6, 0))), (2, .ref (wAd w (11, 12, 0, 0))), (3, .ref (wAd w (14, 13, 0, 0)))]) (by decide) rfl dL_law_1238 ?_
  refine r_aload_n C (k := 5) rfl rfl dL_law_1240 ?_
  refine r_callV C (d' := 0) [] (c_X11_thrown hM (Ω := (S, τ', (vp_updL o 0 v.toInt64))) rfl ht) myX11_thrown wm7_137 ⟨_, _, _, _, (hM.ok k11), rfl, rfl, rfl, rfl⟩ rfl (kR rfl) (by decide) (kR rfl) rfl dL_law_1241 ?_
  refine r_iload C (k := 1) rfl dL_law_1244 ?_
  refine r_icmp_eq C (tgt := 1251) rfl dL_law_1246 (fun _ => ?_) (fun h => absurd rfl h)
  refine r_iload C (k := 1) rfl dL_law_1251 ?_
  refine r_if_ne C (tgt := 1268) rfl dL_law_1253 (fun h => absurd rfl h) (fun _ => ?_)
  refine r_aload_n C (k := 6) rfl rfl dL_law_1256 ?_
  refine r_iconst C (v := 0) rfl dL_law_1257 ?_
  refine r_lald C (o := (vp_updL o 0 v.toInt64)) (hM.1 |> fun _ => hW.2.2.2.1 _ hO) rfl dL_law_1258 ?_
  refine r_iload C (k := 0) rfl dL_law_1259 ?_
  refine r_i2l C (v := v.toInt64) rfl dL_law_1261 ?_
  refine r_lcmp C dL_law_1262 ?_
  refine r_if_eq C (tgt := 1268) rfl dL_law_1263 (fun _ => ?_) (fun h => absurd (lgself _) h)
  refine r_goto C (tgt := 3008) rfl dL_law_1268 ?_
  refine r_lo [2, 3, 4, 5, 6] (lo' := [(4, .int i), (0, .ref b), (1, .ref (wAd w (7, 11, 6, 0))), (2, .ref (wAd w (11, 12, 0, 0))), (3, .ref (wAd w (14, 13, 0, 0)))]) rfl ?_
  exact kk
theorem la22X2 {w : WP} (hW : gW w) (hM : gWM w) (hS : gS w) (hZ : gZ w) (hO : wFr w (14, 13, 0, 0)) {X : CX} (C : gC w X cL_law "HedgeMessagesLaw" (some .boolean) 15 9) {b L : Nat} {xs : Nat → Int32} (hX : gSc X b L xs) {S : Nat → Nat → HV} {τ : HV} {o : Nat → Int64} {i : Int32} {p1 : Int32} (h1 : vp_in (i + 1) L ∧ xs (i + 1).toNatClampNeg = p1)  (hF : F_X10_startSlot p1 S = some (.inr 2)) {b9 : Int32} {τ' : HV} (hG : F_X11_startSlot p1 τ = some (b9, τ')) (ht : F_X11_thrown τ' = 1) {Q1 : State → Prop} {c n : Nat} (hq1 : qOk X (Q1, c + 1, n + 6)) (kk : gU w X (Q1, c + 1, n + 6) (cA w (S, τ', o)) 3008 [(4, .int i), (0, .ref b), (1, .ref (wAd w (7, 11, 6, 0))), (2, .ref (wAd w (11, 12, 0, 0))), (3, .ref (wAd w (14, 13, 0, 0)))] []) : gU w X (Q1, c, n) (cA w (S, τ, o)) 1215 [(4, .int i), (0, .ref b), (1, .ref (wAd w (7, 11, 6, 0))), (2, .ref (wAd w (11, 12, 0, 0))), (3, .ref (wAd w (14, 13, 0, 0)))] [] := by
  have hq : qOk X (Q1, c + 1, n + 6) := hq1
  refine r_aload_n C (k := 2) rfl rfl dL_law_1215 ?_
  refine r_aload_n C (k := 1) rfl rfl dL_law_1216 ?_
  refine r_iload C (k := 0) rfl dL_law_1217 ?_
  refine r_iconst C (v := 1) rfl dL_law_1219 ?_
  refine r_iadd C dL_law_1220 ?_
  refine r_sld C hX h1.1 h1.2 dL_law_1221 ?_
  refine r_aload_n C (k := 4) rfl rfl dL_law_1222 ?_
  refine r_callH C (ny := 3) (d' := 8) (mc := 1) (ms := 6) [.ref (wAd w (7, 11, 6, 0)), .int p1, .ref (wAd w (14, 13, 0, 0))] (xL_startSlot_2 hW hS hZ (Ω := (S, τ, o)) rfl p1 hF) cwL_startSlot rfl wm1_0 wm5_174 ⟨by decide, by decide, by decide +kernel⟩ wm5_173 rfl (kR rfl) (by decide) (kR rfl) rfl dL_law_1223 hq1 ?_
  refine r_istore C (lo' := [(5, .int 1), (4, .int i), (0, .ref b), (1, .ref (wAd w (7, 11, 6, 0))), (2, .ref (wAd w (11, 12, 0, 0))), (3, .ref (wAd w (14, 13, 0, 0)))]) (by decide) rfl dL_law_1226 ?_
  refine r_aload_n C (k := 4) rfl rfl dL_law_1228 ?_
  refine r_aload_n C (k := 2) rfl rfl dL_law_1229 ?_
  refine r_iload C (k := 1) rfl dL_law_1230 ?_
  refine r_iconst C (v := 1) rfl dL_law_1232 ?_
  refine r_iadd C dL_law_1233 ?_
  refine r_sld C hX h1.1 h1.2 dL_law_1234 ?_
  refine r_callV C (d' := 2) [.int p1] (c_X11_startSlot hM (Ω := (S, τ, o)) rfl p1 hG rfl) myX11_startSlot wm8_204 ⟨_, _, _, _, (hM.ok k11), rfl, rfl, rfl, rfl⟩ rfl (kR rfl) (by decide) (kR rfl) rfl dL_law_1235 ?_
  refine r_istore C (lo' := [(6, .int b9), (5, .int 1), (4, .int i), (0, .ref b), (1, .ref (wAd w (7, 11, 6, 0))), (2, .ref (wAd w (11, 12, 0, 0))), (3, .ref (wAd w (14, 13, 0, 0)))]) (by decide) rfl dL_law_1238 ?_
  refine r_aload_n C (k := 5) rfl rfl dL_law_1240 ?_
  refine r_callV C (d' := 0) [] (c_X11_thrown hM (Ω := (S, τ', o)) rfl ht) myX11_thrown wm7_137 ⟨_, _, _, _, (hM.ok k11), rfl, rfl, rfl, rfl⟩ rfl (kR rfl) (by decide) (kR rfl) rfl dL_law_1241 ?_
  refine r_iload C (k := 1) rfl dL_law_1244 ?_
  refine r_icmp_eq C (tgt := 1251) rfl dL_law_1246 (fun _ => ?_) (fun h => absurd rfl h)
  refine r_iload C (k := 1) rfl dL_law_1251 ?_
  refine r_if_ne C (tgt := 1268) rfl dL_law_1253 (fun _ => ?_) (fun h => absurd h (by decide))
  refine r_goto C (tgt := 3008) rfl dL_law_1268 ?_
  refine r_lo [2, 3, 4, 5, 6] (lo' := [(4, .int i), (0, .ref b), (1, .ref (wAd w (7, 11, 6, 0))), (2, .ref (wAd w (11, 12, 0, 0))), (3, .ref (wAd w (14, 13, 0, 0)))]) rfl ?_
  exact kk
theorem la23N {w : WP} (hW : gW w) (hM : gWM w) (hS : gS w) (hZ : gZ w) (hO : wFr w (14, 13, 0, 0)) {X : CX} (C : gC w X cL_law "HedgeMessagesLaw" (some .boolean) 15 9) {b L : Nat} {xs : Nat → Int32} (hX : gSc X b L xs) {S : Nat → Nat → HV} {τ : HV} {o : Nat → Int64} {i : Int32} {p1 : Int32} (h1 : vp_in (i + 1) L ∧ xs (i + 1).toNatClampNeg = p1) (N : Nat) {v : Int32} (hF : F_X10_postedCount N p1 S = some (.inl v)) {τ' : HV} (hG : F_X11_postedCount N p1 τ = some (v, τ')) (ht : F_X11_thrown τ' = 0) {Q1 : State → Prop} {c n : Nat} (hq : qOk X (Q1, c, n)) (kk : gU w X (Q1, c, n) (cA w (S, τ', (vp_updL o 0 v.toInt64))) 3008 [(4, .int i), (0, .ref b), (1, .ref (wAd w (7, 11, 6, 0))), (2, .ref (wAd w (11, 12, 0, 0))), (3, .ref (wAd w (14, 13, 0, 0)))] []) : gU w X (Q1, c, n) (cA w (S, τ, o)) 1271 [(4, .int i), (0, .ref b), (1, .ref (wAd w (7, 11, 6, 0))), (2, .ref (wAd w (11, 12, 0, 0))), (3, .ref (wAd w (14, 13, 0, 0)))] [] := by
  refine r_aload_n C (k := 2) rfl rfl dL_law_1271 ?_
  refine r_aload_n C (k := 1) rfl rfl dL_law_1272 ?_
  refine r_iload C (k := 0) rfl dL_law_1273 ?_
  refine r_iconst C (v := 1) rfl dL_law_1275 ?_
  refine r_iadd C dL_law_1276 ?_
  refine r_sld C hX h1.1 h1.2 dL_law_1277 ?_
  refine r_aload_n C (k := 4) rfl rfl dL_law_1278 ?_
  refine r_callH C (ny := 3) (d' := 8) (mc := 0) (ms := 0) [.ref (wAd w (7, 11, 6, 0)), .int p1, .ref (wAd w (14, 13, 0, 0))] (kL_postedCount hW hS hO (Ω := (S, τ, o)) rfl N p1 hF) cwL_postedCount rfl wm1_0 wm5_182 ⟨by decide, by decide, by decide +kernel⟩ wm5_181 rfl (kR rfl) (by decide) (kR rfl) rfl dL_law_1279 hq ?_
  refine r_istore C (lo' := [(5, .int 0), (4, .int i), (0, .ref b), (1, .ref (wAd w (7, 11, 6, 0))), (2, .ref (wAd w (11, 12, 0, 0))), (3, .ref (wAd w (14, 13, 0, 0)))]) (by decide) rfl dL_law_1282 ?_
  refine r_aload_n C (k := 4) rfl rfl dL_law_1284 ?_
  refine r_aload_n C (k := 2) rfl rfl dL_law_1285 ?_
  refine r_iload C (k := 1) rfl dL_law_1286 ?_
  refine r_iconst C (v := 1) rfl dL_law_1288 ?_
  refine r_iadd C dL_law_1289 ?_
  refine r_sld C hX h1.1 h1.2 dL_law_1290 ?_
  refine r_callV C (d' := 2) [.int p1] (c_X11_postedCount hM (Ω := (S, τ, (vp_updL o 0 v.toInt64))) rfl N p1 hG rfl) myX11_postedCount wm8_208 ⟨_, _, _, _, (hM.ok k11), rfl, rfl, rfl, rfl⟩ rfl (kR rfl) (by decide) (kR rfl) rfl dL_law_1291 ?_
  refine r_istore C (lo' := [(6, .int v), (5, .int 0), (4, .int i), (0, .ref b), (1, .ref (wAd w (7, 11, 6, 0))), (2, .ref (wAd w (11, 12, 0, 0))), (3, .ref (wAd w (14, 13, 0, 0)))]) (by decide) rfl dL_law_1294 ?_
  refine r_aload_n C (k := 5) rfl rfl dL_law_1296 ?_
  refine r_callV C (d' := 0) [] (c_X11_thrown hM (Ω := (S, τ', (vp_updL o 0 v.toInt64))) rfl ht) myX11_thrown wm7_137 ⟨_, _, _, _, (hM.ok k11), rfl, rfl, rfl, rfl⟩ rfl (kR rfl) (by decide) (kR rfl) rfl dL_law_1297 ?_
  refine r_iload C (k := 1) rfl dL_law_1300 ?_
  refine r_icmp_eq C (tgt := 1307) rfl dL_law_1302 (fun _ => ?_) (fun h => absurd rfl h)
  refine r_iload C (k := 1) rfl dL_law_1307 ?_
  refine r_if_ne C (tgt := 1324) rfl dL_law_1309 (fun h => absurd rfl h) (fun _ => ?_)
  refine r_aload_n C (k := 6) rfl rfl dL_law_1312 ?_
  refine r_iconst C (v := 0) rfl dL_law_1313 ?_
  refine r_lald C (o := (vp_updL o 0 v.toInt64)) (hM.1 |> fun _ => hW.2.2.2.1 _ hO) rfl dL_law_1314 ?_
  refine r_iload C (k := 0) rfl dL_law_1315 ?_
  refine r_i2l C (v := v.toInt64) rfl dL_law_1317 ?_
  refine r_lcmp C dL_law_1318 ?_
  refine r_if_eq C (tgt := 1324) rfl dL_law_1319 (fun _ => ?_) (fun h => absurd (lgself _) h)
  refine r_goto C (tgt := 3008) rfl dL_law_1324 ?_
  refine r_lo [2, 3, 4, 5, 6] (lo' := [(4, .int i), (0, .ref b), (1, .ref (wAd w (7, 11, 6, 0))), (2, .ref (wAd w (11, 12, 0, 0))), (3, .ref (wAd w (14, 13, 0, 0)))]) rfl ?_
  exact kk
theorem la23X2 {w : WP} (hW : gW w) (hM : gWM w) (hS : gS w) (hZ : gZ w) (hO : wFr w (14, 13, 0, 0)) {X : CX} (C : gC w X cL_law "HedgeMessagesLaw" (some .boolean) 15 9) {b L : Nat} {xs : Nat → Int32} (hX : gSc X b L xs) {S : Nat → Nat → HV} {τ : HV} {o : Nat → Int64} {i : Int32} {p1 : Int32} (h1 : vp_in (i + 1) L ∧ xs (i + 1).toNatClampNeg = p1) (N : Nat)  (hF : F_X10_postedCount N p1 S = some (.inr 2)) {b9 : Int32} {τ' : HV} (hG : F_X11_postedCount N p1 τ = some (b9, τ')) (ht : F_X11_thrown τ' = 1) {Q1 : State → Prop} {c n : Nat} (hq1 : qOk X (Q1, c + 1, n + 6)) (kk : gU w X (Q1, c + 1, n + 6) (cA w (S, τ', o)) 3008 [(4, .int i), (0, .ref b), (1, .ref (wAd w (7, 11, 6, 0))), (2, .ref (wAd w (11, 12, 0, 0))), (3, .ref (wAd w (14, 13, 0, 0)))] []) : gU w X (Q1, c, n) (cA w (S, τ, o)) 1271 [(4, .int i), (0, .ref b), (1, .ref (wAd w (7, 11, 6, 0))), (2, .ref (wAd w (11, 12, 0, 0))), (3, .ref (wAd w (14, 13, 0, 0)))] [] := by
  have hq : qOk X (Q1, c + 1, n + 6) := hq1
  refine r_aload_n C (k := 2) rfl rfl dL_law_1271 ?_
  refine r_aload_n C (k := 1) rfl rfl dL_law_1272 ?_
  refine r_iload C (k := 0) rfl dL_law_1273 ?_
  refine r_iconst C (v := 1) rfl dL_law_1275 ?_
  refine r_iadd C dL_law_1276 ?_
  refine r_sld C hX h1.1 h1.2 dL_law_1277 ?_
  refine r_aload_n C (k := 4) rfl rfl dL_law_1278 ?_
  refine r_callH C (ny := 3) (d' := 8) (mc := 1) (ms := 6) [.ref (wAd w (7, 11, 6, 0)), .int p1, .ref (wAd w (14, 13, 0, 0))] (xL_postedCount_2 hW hS hZ (Ω := (S, τ, o)) rfl N p1 hF) cwL_postedCount rfl wm1_0 wm5_182 ⟨by decide, by decide, by decide +kernel⟩ wm5_181 rfl (kR rfl) (by decide) (kR rfl) rfl dL_law_1279 hq1 ?_
  refine r_istore C (lo' := [(5, .int 1), (4, .int i), (0, .ref b), (1, .ref (wAd w (7, 11, 6, 0))), (2, .ref (wAd w (11, 12, 0, 0))), (3, .ref (wAd w (14, 13, 0, 0)))]) (by decide) rfl dL_law_1282 ?_
  refine r_aload_n C (k := 4) rfl rfl dL_law_1284 ?_
  refine r_aload_n C (k := 2) rfl rfl dL_law_1285 ?_
  refine r_iload C (k := 1) rfl dL_law_1286 ?_
  refine r_iconst C (v := 1) rfl dL_law_1288 ?_
  refine r_iadd C dL_law_1289 ?_
  refine r_sld C hX h1.1 h1.2 dL_law_1290 ?_
  refine r_callV C (d' := 2) [.int p1] (c_X11_postedCount hM (Ω := (S, τ, o)) rfl N p1 hG rfl) myX11_postedCount wm8_208 ⟨_, _, _, _, (hM.ok k11), rfl, rfl, rfl, rfl⟩ rfl (kR rfl) (by decide) (kR rfl) rfl dL_law_1291 ?_
  refine r_istore C (lo' := [(6, .int b9), (5, .int 1), (4, .int i), (0, .ref b), (1, .ref (wAd w (7, 11, 6, 0))), (2, .ref (wAd w (11, 12, 0, 0))), (3, .ref (wAd w (14, 13, 0, 0)))]) (by decide) rfl dL_law_1294 ?_
  refine r_aload_n C (k := 5) rfl rfl dL_law_1296 ?_
  refine r_callV C (d' := 0) [] (c_X11_thrown hM (Ω := (S, τ', o)) rfl ht) myX11_thrown wm7_137 ⟨_, _, _, _, (hM.ok k11), rfl, rfl, rfl, rfl⟩ rfl (kR rfl) (by decide) (kR rfl) rfl dL_law_1297 ?_
  refine r_iload C (k := 1) rfl dL_law_1300 ?_
  refine r_icmp_eq C (tgt := 1307) rfl dL_law_1302 (fun _ => ?_) (fun h => absurd rfl h)
  refine r_iload C (k := 1) rfl dL_law_1307 ?_
  refine r_if_ne C (tgt := 1324) rfl dL_law_1309 (fun _ => ?_) (fun h => absurd h (by decide))
  refine r_goto C (tgt := 3008) rfl dL_law_1324 ?_
  refine r_lo [2, 3, 4, 5, 6] (lo' := [(4, .int i), (0, .ref b), (1, .ref (wAd w (7, 11, 6, 0))), (2, .ref (wAd w (11, 12, 0, 0))), (3, .ref (wAd w (14, 13, 0, 0)))]) rfl ?_
  exact kk
theorem la24N {w : WP} (hW : gW w) (hM : gWM w) (hS : gS w) (hZ : gZ w) (hO : wFr w (14, 13, 0, 0)) {X : CX} (C : gC w X cL_law "HedgeMessagesLaw" (some .boolean) 15 9) {b L : Nat} {xs : Nat → Int32} (hX : gSc X b L xs) {S : Nat → Nat → HV} {τ : HV} {o : Nat → Int64} {i : Int32} {p1 : Int32} (h1 : vp_in (i + 1) L ∧ xs (i + 1).toNatClampNeg = p1) (N : Nat) {v : Int32} (hF : F_X10_nextStartSlot N p1 S = some (.inl v)) {τ' : HV} (hG : F_X11_nextStartSlot N p1 τ = some (v, τ')) (ht : F_X11_thrown τ' = 0) {Q1 : State → Prop} {c n : Nat} (hq : qOk X (Q1, c, n)) (kk : gU w X (Q1, c, n) (cA w (S, τ', (vp_updL o 0 v.toInt64))) 3008 [(4, .int i), (0, .ref b), (1, .ref (wAd w (7, 11, 6, 0))), (2, .ref (wAd w (11, 12, 0, 0))), (3, .ref (wAd w (14, 13, 0, 0)))] []) : gU w X (Q1, c, n) (cA w (S, τ, o)) 1327 [(4, .int i), (0, .ref b), (1, .ref (wAd w (7, 11, 6, 0))), (2, .ref (wAd w (11, 12, 0, 0))), (3, .ref (wAd w (14, 13, 0, 0)))] [] := by
  refine r_aload_n C (k := 2) rfl rfl dL_law_1327 ?_
  refine r_aload_n C (k := 1) rfl rfl dL_law_1328 ?_
  refine r_iload C (k := 0) rfl dL_law_1329 ?_
  refine r_iconst C (v := 1) rfl dL_law_1331 ?_
  refine r_iadd C dL_law_1332 ?_
  refine r_sld C hX h1.1 h1.2 dL_law_1333 ?_
  refine r_aload_n C (k := 4) rfl rfl dL_law_1334 ?_
  refine r_callH C (ny := 3) (d' := 8) (mc := 0) (ms := 0) [.ref (wAd w (7, 11, 6, 0)), .int p1, .ref (wAd w (14, 13, 0, 0))] (kL_nextStartSlot hW hS hO (Ω := (S, τ, o)) rfl N p1 hF) cwL_nextStartSlot rfl wm1_0 wm5_193 ⟨by decide, by decide, by decide +kernel⟩ wm5_192 rfl (kR rfl) (by decide) (kR rfl) rfl dL_law_1335 hq ?_
  refine r_istore C (lo' := [(5, .int 0), (4, .int i), (0, .ref b), (1, .ref (wAd w (7, 11, 6, 0))), (2, .ref (wAd w (11, 12, 0, 0))), (3, .ref (wAd w (14, 13, 0, 0)))]) (by decide) rfl dL_law_1338 ?_
  refine r_aload_n C (k := 4) rfl rfl dL_law_1340 ?_
  refine r_aload_n C (k := 2) rfl rfl dL_law_1341 ?_
  refine r_iload C (k := 1) rfl dL_law_1342 ?_
  refine r_iconst C (v := 1) rfl dL_law_1344 ?_
  refine r_iadd C dL_law_1345 ?_
  refine r_sld C hX h1.1 h1.2 dL_law_1346 ?_
  refine r_callV C (d' := 7) [.int p1] (c_X11_nextStartSlot hM (Ω := (S, τ, (vp_updL o 0 v.toInt64))) rfl N p1 hG rfl) myX11_nextStartSlot wm8_216 ⟨_, _, _, _, (hM.ok k11), rfl, rfl, rfl, rfl⟩ rfl (kR rfl) (by decide) (kR rfl) rfl dL_law_1347 ?_
  refine r_istore C (lo' := [(6, .int v), (5, .int 0), (4, .int i), (0, .ref b), (1, .ref (wAd w (7, 11, 6, 0))), (2, .ref (wAd w (11, 12, 0, 0))), (3, .ref (wAd w (14, 13, 0, 0)))]) (by decide) rfl dL_law_1350 ?_
  refine r_aload_n C (k := 5) rfl rfl dL_law_1352 ?_
  refine r_callV C (d' := 0) [] (c_X11_thrown hM (Ω := (S, τ', (vp_updL o 0 v.toInt64))) rfl ht) myX11_thrown wm7_137 ⟨_, _, _, _, (hM.ok k11), rfl, rfl, rfl, rfl⟩ rfl (kR rfl) (by decide) (kR rfl) rfl dL_law_1353 ?_
  refine r_iload C (k := 1) rfl dL_law_1356 ?_
  refine r_icmp_eq C (tgt := 1363) rfl dL_law_1358 (fun _ => ?_) (fun h => absurd rfl h)
  refine r_iload C (k := 1) rfl dL_law_1363 ?_
  refine r_if_ne C (tgt := 1380) rfl dL_law_1365 (fun h => absurd rfl h) (fun _ => ?_)
  refine r_aload_n C (k := 6) rfl rfl dL_law_1368 ?_
  refine r_iconst C (v := 0) rfl dL_law_1369 ?_
  refine r_lald C (o := (vp_updL o 0 v.toInt64)) (hM.1 |> fun _ => hW.2.2.2.1 _ hO) rfl dL_law_1370 ?_
  refine r_iload C (k := 0) rfl dL_law_1371 ?_
  refine r_i2l C (v := v.toInt64) rfl dL_law_1373 ?_
  refine r_lcmp C dL_law_1374 ?_
  refine r_if_eq C (tgt := 1380) rfl dL_law_1375 (fun _ => ?_) (fun h => absurd (lgself _) h)
  refine r_goto C (tgt := 3008) rfl dL_law_1380 ?_
  refine r_lo [2, 3, 4, 5, 6] (lo' := [(4, .int i), (0, .ref b), (1, .ref (wAd w (7, 11, 6, 0))), (2, .ref (wAd w (11, 12, 0, 0))), (3, .ref (wAd w (14, 13, 0, 0)))]) rfl ?_
  exact kk
theorem la24X2 {w : WP} (hW : gW w) (hM : gWM w) (hS : gS w) (hZ : gZ w) (hO : wFr w (14, 13, 0, 0)) {X : CX} (C : gC w X cL_law "HedgeMessagesLaw" (some .boolean) 15 9) {b L : Nat} {xs : Nat → Int32} (hX : gSc X b L xs) {S : Nat → Nat → HV} {τ : HV} {o : Nat → Int64} {i : Int32} {p1 : Int32} (h1 : vp_in (i + 1) L ∧ xs (i + 1).toNatClampNeg = p1) (N : Nat)  (hF : F_X10_nextStartSlot N p1 S = some (.inr 2)) {b9 : Int32} {τ' : HV} (hG : F_X11_nextStartSlot N p1 τ = some (b9, τ')) (ht : F_X11_thrown τ' = 1) {Q1 : State → Prop} {c n : Nat} (hq1 : qOk X (Q1, c + 1, n + 6)) (kk : gU w X (Q1, c + 1, n + 6) (cA w (S, τ', o)) 3008 [(4, .int i), (0, .ref b), (1, .ref (wAd w (7, 11, 6, 0))), (2, .ref (wAd w (11, 12, 0, 0))), (3, .ref (wAd w (14, 13, 0, 0)))] []) : gU w X (Q1, c, n) (cA w (S, τ, o)) 1327 [(4, .int i), (0, .ref b), (1, .ref (wAd w (7, 11, 6, 0))), (2, .ref (wAd w (11, 12, 0, 0))), (3, .ref (wAd w (14, 13, 0, 0)))] [] := by
  have hq : qOk X (Q1, c + 1, n + 6) := hq1
  refine r_aload_n C (k := 2) rfl rfl dL_law_1327 ?_
  refine r_aload_n C (k := 1) rfl rfl dL_law_1328 ?_
  refine r_iload C (k := 0) rfl dL_law_1329 ?_
  refine r_iconst C (v := 1) rfl dL_law_1331 ?_
  refine r_iadd C dL_law_1332 ?_
  refine r_sld C hX h1.1 h1.2 dL_law_1333 ?_
  refine r_aload_n C (k := 4) rfl rfl dL_law_1334 ?_
  refine r_callH C (ny := 3) (d' := 8) (mc := 1) (ms := 6) [.ref (wAd w (7, 11, 6, 0)), .int p1, .ref (wAd w (14, 13, 0, 0))] (xL_nextStartSlot_2 hW hS hZ (Ω := (S, τ, o)) rfl N p1 hF) cwL_nextStartSlot rfl wm1_0 wm5_193 ⟨by decide, by decide, by decide +kernel⟩ wm5_192 rfl (kR rfl) (by decide) (kR rfl) rfl dL_law_1335 hq1 ?_
  refine r_istore C (lo' := [(5, .int 1), (4, .int i), (0, .ref b), (1, .ref (wAd w (7, 11, 6, 0))), (2, .ref (wAd w (11, 12, 0, 0))), (3, .ref (wAd w (14, 13, 0, 0)))]) (by decide) rfl dL_law_1338 ?_
  refine r_aload_n C (k := 4) rfl rfl dL_law_1340 ?_
  refine r_aload_n C (k := 2) rfl rfl dL_law_1341 ?_
  refine r_iload C (k := 1) rfl dL_law_1342 ?_
  refine r_iconst C (v := 1) rfl dL_law_1344 ?_
  refine r_iadd C dL_law_1345 ?_
  refine r_sld C hX h1.1 h1.2 dL_law_1346 ?_
  refine r_callV C (d' := 7) [.int p1] (c_X11_nextStartSlot hM (Ω := (S, τ, o)) rfl N p1 hG rfl) myX11_nextStartSlot wm8_216 ⟨_, _, _, _, (hM.ok k11), rfl, rfl, rfl, rfl⟩ rfl (kR rfl) (by decide) (kR rfl) rfl dL_law_1347 ?_
  refine r_istore C (lo' := [(6, .int b9), (5, .int 1), (4, .int i), (0, .ref b), (1, .ref (wAd w (7, 11, 6, 0))), (2, .ref (wAd w (11, 12, 0, 0))), (3, .ref (wAd w (14, 13, 0, 0)))]) (by decide) rfl dL_law_1350 ?_
  refine r_aload_n C (k := 5) rfl rfl dL_law_1352 ?_
  refine r_callV C (d' := 0) [] (c_X11_thrown hM (Ω := (S, τ', o)) rfl ht) myX11_thrown wm7_137 ⟨_, _, _, _, (hM.ok k11), rfl, rfl, rfl, rfl⟩ rfl (kR rfl) (by decide) (kR rfl) rfl dL_law_1353 ?_
  refine r_iload C (k := 1) rfl dL_law_1356 ?_
  refine r_icmp_eq C (tgt := 1363) rfl dL_law_1358 (fun _ => ?_) (fun h => absurd rfl h)
  refine r_iload C (k := 1) rfl dL_law_1363 ?_
  refine r_if_ne C (tgt := 1380) rfl dL_law_1365 (fun _ => ?_) (fun h => absurd h (by decide))
  refine r_goto C (tgt := 3008) rfl dL_law_1380 ?_
  refine r_lo [2, 3, 4, 5, 6] (lo' := [(4, .int i), (0, .ref b), (1, .ref (wAd w (7, 11, 6, 0))), (2, .ref (wAd w (11, 12, 0, 0))), (3, .ref (wAd w (14, 13, 0, 0)))]) rfl ?_
  exact kk
theorem la25N {w : WP} (hW : gW w) (hM : gWM w) (hS : gS w) (hZ : gZ w) (hO : wFr w (14, 13, 0, 0)) {X : CX} (C : gC w X cL_law "HedgeMessagesLaw" (some .boolean) 15 9) {b L : Nat} {xs : Nat → Int32} (hX : gSc X b L xs) {S : Nat → Nat → HV} {τ : HV} {o : Nat → Int64} {i : Int32} (N : Nat) {v : Int32} (hF : F_X10_longestFreeRun N S = some v) {τ' : HV} (hG : F_X11_longestFreeRun N τ = some (v, τ')) {Q1 : State → Prop} {c n : Nat} (hq : qOk X (Q1, c, n)) (kk : gU w X (Q1, c, n) (cA w (S, τ', o)) 3008 [(4, .int i), (0, .ref b), (1, .ref (wAd w (7, 11, 6, 0))), (2, .ref (wAd w (11, 12, 0, 0))), (3, .ref (wAd w (14, 13, 0, 0)))] []) : gU w X (Q1, c, n) (cA w (S, τ, o)) 1383 [(4, .int i), (0, .ref b), (1, .ref (wAd w (7, 11, 6, 0))), (2, .ref (wAd w (11, 12, 0, 0))), (3, .ref (wAd w (14, 13, 0, 0)))] [] := by
  refine r_aload_n C (k := 2) rfl rfl dL_law_1383 ?_
  refine r_callV C (d' := 3) [] (c_X10_longestFreeRun hW (Ω := (S, τ, o)) rfl N  hF) myX10_longestFreeRun wm3_9 ⟨_, _, _, _, (hW.ok k7), rfl, rfl, rfl, rfl⟩ rfl (kR rfl) (by decide) (kR rfl) rfl dL_law_1384 ?_
  refine r_aload_n C (k := 3) rfl rfl dL_law_1387 ?_
  refine r_callV C (d' := 4) [] (c_X11_longestFreeRun hM (Ω := (S, τ, o)) rfl N  hG rfl) myX11_longestFreeRun wm8_220 ⟨_, _, _, _, (hM.ok k11), rfl, rfl, rfl, rfl⟩ rfl (kR rfl) (by decide) (kR rfl) rfl dL_law_1388 ?_
  refine r_icmp_eq C (tgt := 3008) rfl dL_law_1391 (fun _ => ?_) (fun h => absurd rfl h)
  exact kk
theorem la26N {w : WP} (hW : gW w) (hM : gWM w) (hS : gS w) (hZ : gZ w) (hO : wFr w (14, 13, 0, 0)) {X : CX} (C : gC w X cL_law "HedgeMessagesLaw" (some .boolean) 15 9) {b L : Nat} {xs : Nat → Int32} (hX : gSc X b L xs) {S : Nat → Nat → HV} {τ : HV} {o : Nat → Int64} {i : Int32} {p1 : Int32} (h1 : vp_in (i + 1) L ∧ xs (i + 1).toNatClampNeg = p1) (N : Nat) {v : Int32} (hF : F_X10_yardLetterCount N p1 S = some v) {τ' : HV} (hG : F_X11_yardLetterCount N p1 τ = some (v, τ')) {Q1 : State → Prop} {c n : Nat} (hq : qOk X (Q1, c, n)) (kk : gU w X (Q1, c, n) (cA w (S, τ', o)) 3008 [(4, .int i), (0, .ref b), (1, .ref (wAd w (7, 11, 6, 0))), (2, .ref (wAd w (11, 12, 0, 0))), (3, .ref (wAd w (14, 13, 0, 0)))] []) : gU w X (Q1, c, n) (cA w (S, τ, o)) 1396 [(4, .int i), (0, .ref b), (1, .ref (wAd w (7, 11, 6, 0))), (2, .ref (wAd w (11, 12, 0, 0))), (3, .ref (wAd w (14, 13, 0, 0)))] [] := by
  refine r_aload_n C (k := 2) rfl rfl dL_law_1396 ?_
  refine r_aload_n C (k := 1) rfl rfl dL_law_1397 ?_
  refine r_iload C (k := 0) rfl dL_law_1398 ?_
  refine r_iconst C (v := 1) rfl dL_law_1400 ?_
  refine r_iadd C dL_law_1401 ?_
  refine r_sld C hX h1.1 h1.2 dL_law_1402 ?_
  refine r_callV C (d' := 2) [.int p1] (c_X10_yardLetterCount hW (Ω := (S, τ, o)) rfl N p1 hF) myX10_yardLetterCount wm3_25 ⟨_, _, _, _, (hW.ok k7), rfl, rfl, rfl, rfl⟩ rfl (kR rfl) (by decide) (kR rfl) rfl dL_law_1403 ?_
  refine r_aload_n C (k := 3) rfl rfl dL_law_1406 ?_
  refine r_aload_n C (k := 1) rfl rfl dL_law_1407 ?_
  refine r_iload C (k := 0) rfl dL_law_1408 ?_
  refine r_iconst C (v := 1) rfl dL_law_1410 ?_
  refine r_iadd C dL_law_1411 ?_
  refine r_sld C hX h1.1 h1.2 dL_law_1412 ?_
  refine r_callV C (d' := 2) [.int p1] (c_X11_yardLetterCount hM (Ω := (S, τ, o)) rfl N p1 hG rfl) myX11_yardLetterCount wm8_224 ⟨_, _, _, _, (hM.ok k11), rfl, rfl, rfl, rfl⟩ rfl (kR rfl) (by decide) (kR rfl) rfl dL_law_1413 ?_
  refine r_icmp_eq C (tgt := 3008) rfl dL_law_1416 (fun _ => ?_) (fun h => absurd rfl h)
  exact kk
theorem la27N {w : WP} (hW : gW w) (hM : gWM w) (hS : gS w) (hZ : gZ w) (hO : wFr w (14, 13, 0, 0)) {X : CX} (C : gC w X cL_law "HedgeMessagesLaw" (some .boolean) 15 9) {b L : Nat} {xs : Nat → Int32} (hX : gSc X b L xs) {S : Nat → Nat → HV} {τ : HV} {o : Nat → Int64} {i : Int32} {p1 : Int32} (h1 : vp_in (i + 1) L ∧ xs (i + 1).toNatClampNeg = p1) (N : Nat) {v : Int32} (hF : F_X10_plantReason p1 S = some (.inl v)) {τ' : HV} (hG : F_X11_plantReason N p1 τ = some (v, τ')) (ht : F_X11_thrown τ' = 0) {Q1 : State → Prop} {c n : Nat} (hq : qOk X (Q1, c, n)) (kk : gU w X (Q1, c, n) (cA w (S, τ', (vp_updL o 0 v.toInt64))) 3008 [(4, .int i), (0, .ref b), (1, .ref (wAd w (7, 11, 6, 0))), (2, .ref (wAd w (11, 12, 0, 0))), (3, .ref (wAd w (14, 13, 0, 0)))] []) : gU w X (Q1, c, n) (cA w (S, τ, o)) 1421 [(4, .int i), (0, .ref b), (1, .ref (wAd w (7, 11, 6, 0))), (2, .ref (wAd w (11, 12, 0, 0))), (3, .ref (wAd w (14, 13, 0, 0)))] [] := by
  refine r_aload_n C (k := 2) rfl rfl dL_law_1421 ?_
  refine r_aload_n C (k := 1) rfl rfl dL_law_1422 ?_
  refine r_iload C (k := 0) rfl dL_law_1423 ?_
  refine r_iconst C (v := 1) rfl dL_law_1425 ?_
  refine r_iadd C dL_law_1426 ?_
  refine r_sld C hX h1.1 h1.2 dL_law_1427 ?_
  refine r_aload_n C (k := 4) rfl rfl dL_law_1428 ?_
  refine r_callH C (ny := 3) (d' := 8) (mc := 0) (ms := 0) [.ref (wAd w (7, 11, 6, 0)), .int p1, .ref (wAd w (14, 13, 0, 0))] (kL_plantReason hW hS hO (Ω := (S, τ, o)) rfl p1 hF) cwL_plantReason rfl wm1_0 wm5_202 ⟨by decide, by decide, by decide +kernel⟩ wm5_201 rfl (kR rfl) (by decide) (kR rfl) rfl dL_law_1429 hq ?_
  refine r_istore C (lo' := [(5, .int 0), (4, .int i), (0, .ref b), (1, .ref (wAd w (7, 11, 6, 0))), (2, .ref (wAd w (11, 12, 0, 0))), (3, .ref (wAd w (14, 13, 0, 0)))]) (by decide) rfl dL_law_1432 ?_
  refine r_aload_n C (k := 4) rfl rfl dL_law_1434 ?_
  refine r_aload_n C (k := 2) rfl rfl dL_law_1435 ?_
  refine r_iload C (k := 1) rfl dL_law_1436 ?_
  refine r_iconst C (v := 1) rfl dL_law_1438 ?_
  refine r_iadd C dL_law_1439 ?_
  refine r_sld C hX h1.1 h1.2 dL_law_1440 ?_
  refine r_callV C (d' := 4) [.int p1] (c_X11_plantReason hM (Ω := (S, τ, (vp_updL o 0 v.toInt64))) rfl N p1 hG rfl) myX11_plantReason wm8_228 ⟨_, _, _, _, (hM.ok k11), rfl, rfl, rfl, rfl⟩ rfl (kR rfl) (by decide) (kR rfl) rfl dL_law_1441 ?_
  refine r_istore C (lo' := [(6, .int v), (5, .int 0), (4, .int i), (0, .ref b), (1, .ref (wAd w (7, 11, 6, 0))), (2, .ref (wAd w (11, 12, 0, 0))), (3, .ref (wAd w (14, 13, 0, 0)))]) (by decide) rfl dL_law_1444 ?_
  refine r_aload_n C (k := 5) rfl rfl dL_law_1446 ?_
  refine r_callV C (d' := 0) [] (c_X11_thrown hM (Ω := (S, τ', (vp_updL o 0 v.toInt64))) rfl ht) myX11_thrown wm7_137 ⟨_, _, _, _, (hM.ok k11), rfl, rfl, rfl, rfl⟩ rfl (kR rfl) (by decide) (kR rfl) rfl dL_law_1447 ?_
  refine r_iload C (k := 1) rfl dL_law_1450 ?_
  refine r_icmp_eq C (tgt := 1457) rfl dL_law_1452 (fun _ => ?_) (fun h => absurd rfl h)
  refine r_iload C (k := 1) rfl dL_law_1457 ?_
  refine r_if_ne C (tgt := 1474) rfl dL_law_1459 (fun h => absurd rfl h) (fun _ => ?_)
  refine r_aload_n C (k := 6) rfl rfl dL_law_1462 ?_
  refine r_iconst C (v := 0) rfl dL_law_1463 ?_
  refine r_lald C (o := (vp_updL o 0 v.toInt64)) (hM.1 |> fun _ => hW.2.2.2.1 _ hO) rfl dL_law_1464 ?_
  refine r_iload C (k := 0) rfl dL_law_1465 ?_
  refine r_i2l C (v := v.toInt64) rfl dL_law_1467 ?_
  refine r_lcmp C dL_law_1468 ?_
  refine r_if_eq C (tgt := 1474) rfl dL_law_1469 (fun _ => ?_) (fun h => absurd (lgself _) h)
  refine r_goto C (tgt := 3008) rfl dL_law_1474 ?_
  refine r_lo [2, 3, 4, 5, 6] (lo' := [(4, .int i), (0, .ref b), (1, .ref (wAd w (7, 11, 6, 0))), (2, .ref (wAd w (11, 12, 0, 0))), (3, .ref (wAd w (14, 13, 0, 0)))]) rfl ?_
  exact kk
theorem la27X3 {w : WP} (hW : gW w) (hM : gWM w) (hS : gS w) (hZ : gZ w) (hO : wFr w (14, 13, 0, 0)) {X : CX} (C : gC w X cL_law "HedgeMessagesLaw" (some .boolean) 15 9) {b L : Nat} {xs : Nat → Int32} (hX : gSc X b L xs) {S : Nat → Nat → HV} {τ : HV} {o : Nat → Int64} {i : Int32} {p1 : Int32} (h1 : vp_in (i + 1) L ∧ xs (i + 1).toNatClampNeg = p1) (N : Nat)  (hF : F_X10_plantReason p1 S = some (.inr 3)) {b9 : Int32} {τ' : HV} (hG : F_X11_plantReason N p1 τ = some (b9, τ')) (ht : F_X11_thrown τ' = 1) {Q1 : State → Prop} {c n : Nat} (hq1 : qOk X (Q1, c + 1, n + 6)) (kk : gU w X (Q1, c + 1, n + 6) (cA w (S, τ', o)) 3008 [(4, .int i), (0, .ref b), (1, .ref (wAd w (7, 11, 6, 0))), (2, .ref (wAd w (11, 12, 0, 0))), (3, .ref (wAd w (14, 13, 0, 0)))] []) : gU w X (Q1, c, n) (cA w (S, τ, o)) 1421 [(4, .int i), (0, .ref b), (1, .ref (wAd w (7, 11, 6, 0))), (2, .ref (wAd w (11, 12, 0, 0))), (3, .ref (wAd w (14, 13, 0, 0)))] [] := by
  have hq : qOk X (Q1, c + 1, n + 6) := hq1
  refine r_aload_n C (k := 2) rfl rfl dL_law_1421 ?_
  refine r_aload_n C (k := 1) rfl rfl dL_law_1422 ?_
  refine r_iload C (k := 0) rfl dL_law_1423 ?_
  refine r_iconst C (v := 1) rfl dL_law_1425 ?_
  refine r_iadd C dL_law_1426 ?_
  refine r_sld C hX h1.1 h1.2 dL_law_1427 ?_
  refine r_aload_n C (k := 4) rfl rfl dL_law_1428 ?_
  refine r_callH C (ny := 3) (d' := 8) (mc := 1) (ms := 6) [.ref (wAd w (7, 11, 6, 0)), .int p1, .ref (wAd w (14, 13, 0, 0))] (xL_plantReason_3 hW hS hZ (Ω := (S, τ, o)) rfl p1 hF) cwL_plantReason rfl wm1_0 wm5_202 ⟨by decide, by decide, by decide +kernel⟩ wm5_201 rfl (kR rfl) (by decide) (kR rfl) rfl dL_law_1429 hq1 ?_
  refine r_istore C (lo' := [(5, .int 1), (4, .int i), (0, .ref b), (1, .ref (wAd w (7, 11, 6, 0))), (2, .ref (wAd w (11, 12, 0, 0))), (3, .ref (wAd w (14, 13, 0, 0)))]) (by decide) rfl dL_law_1432 ?_
  refine r_aload_n C (k := 4) rfl rfl dL_law_1434 ?_
  refine r_aload_n C (k := 2) rfl rfl dL_law_1435 ?_
  refine r_iload C (k := 1) rfl dL_law_1436 ?_
  refine r_iconst C (v := 1) rfl dL_law_1438 ?_
  refine r_iadd C dL_law_1439 ?_
  refine r_sld C hX h1.1 h1.2 dL_law_1440 ?_
  refine r_callV C (d' := 4) [.int p1] (c_X11_plantReason hM (Ω := (S, τ, o)) rfl N p1 hG rfl) myX11_plantReason wm8_228 ⟨_, _, _, _, (hM.ok k11), rfl, rfl, rfl, rfl⟩ rfl (kR rfl) (by decide) (kR rfl) rfl dL_law_1441 ?_
  refine r_istore C (lo' := [(6, .int b9), (5, .int 1), (4, .int i), (0, .ref b), (1, .ref (wAd w (7, 11, 6, 0))), (2, .ref (wAd w (11, 12, 0, 0))), (3, .ref (wAd w (14, 13, 0, 0)))]) (by decide) rfl dL_law_1444 ?_
  refine r_aload_n C (k := 5) rfl rfl dL_law_1446 ?_
  refine r_callV C (d' := 0) [] (c_X11_thrown hM (Ω := (S, τ', o)) rfl ht) myX11_thrown wm7_137 ⟨_, _, _, _, (hM.ok k11), rfl, rfl, rfl, rfl⟩ rfl (kR rfl) (by decide) (kR rfl) rfl dL_law_1447 ?_
  refine r_iload C (k := 1) rfl dL_law_1450 ?_
  refine r_icmp_eq C (tgt := 1457) rfl dL_law_1452 (fun _ => ?_) (fun h => absurd rfl h)
  refine r_iload C (k := 1) rfl dL_law_1457 ?_
  refine r_if_ne C (tgt := 1474) rfl dL_law_1459 (fun _ => ?_) (fun h => absurd h (by decide))
  refine r_goto C (tgt := 3008) rfl dL_law_1474 ?_
  refine r_lo [2, 3, 4, 5, 6] (lo' := [(4, .int i), (0, .ref b), (1, .ref (wAd w (7, 11, 6, 0))), (2, .ref (wAd w (11, 12, 0, 0))), (3, .ref (wAd w (14, 13, 0, 0)))]) rfl ?_
  exact kk
theorem la28N {w : WP} (hW : gW w) (hM : gWM w) (hS : gS w) (hZ : gZ w) (hO : wFr w (14, 13, 0, 0)) {X : CX} (C : gC w X cL_law "HedgeMessagesLaw" (some .boolean) 15 9) {b L : Nat} {xs : Nat → Int32} (hX : gSc X b L xs) {S : Nat → Nat → HV} {τ : HV} {o : Nat → Int64} {i : Int32} {p1 : Int32} (h1 : vp_in (i + 1) L ∧ xs (i + 1).toNatClampNeg = p1) {v : Int32} (hF : F_X10_removeReason p1 S = some (.inl v)) {τ' : HV} (hG : F_X11_removeReason p1 τ = some (v, τ')) (ht : F_X11_thrown τ' = 0) {Q1 : State → Prop} {c n : Nat} (hq : qOk X (Q1, c, n)) (kk : gU w X (Q1, c, n) (cA w (S, τ', (vp_updL o 0 v.toInt64))) 3008 [(4, .int i), (0, .ref b), (1, .ref (wAd w (7, 11, 6, 0))), (2, .ref (wAd w (11, 12, 0, 0))), (3, .ref (wAd w (14, 13, 0, 0)))] []) : gU w X (Q1, c, n) (cA w (S, τ, o)) 1477 [(4, .int i), (0, .ref b), (1, .ref (wAd w (7, 11, 6, 0))), (2, .ref (wAd w (11, 12, 0, 0))), (3, .ref (wAd w (14, 13, 0, 0)))] [] := by
  refine r_aload_n C (k := 2) rfl rfl dL_law_1477 ?_
  refine r_aload_n C (k := 1) rfl rfl dL_law_1478 ?_
  refine r_iload C (k := 0) rfl dL_law_1479 ?_
  refine r_iconst C (v := 1) rfl dL_law_1481 ?_
  refine r_iadd C dL_law_1482 ?_
  refine r_sld C hX h1.1 h1.2 dL_law_1483 ?_
  refine r_aload_n C (k := 4) rfl rfl dL_law_1484 ?_
  refine r_callH C (ny := 3) (d' := 8) (mc := 0) (ms := 0) [.ref (wAd w (7, 11, 6, 0)), .int p1, .ref (wAd w (14, 13, 0, 0))] (kL_removeReason hW hS hO (Ω := (S, τ, o)) rfl p1 hF) cwL_removeReason rfl wm1_0 wm5_210 ⟨by decide, by decide, by decide +kernel⟩ wm5_209 rfl (kR rfl) (by decide) (kR rfl) rfl dL_law_1485 hq ?_
  refine r_istore C (lo' := [(5, .int 0), (4, .int i), (0, .ref b), (1, .ref (wAd w (7, 11, 6, 0))), (2, .ref (wAd w (11, 12, 0, 0))), (3, .ref (wAd w (14, 13, 0, 0)))]) (by decide) rfl dL_law_1488 ?_
  refine r_aload_n C (k := 4) rfl rfl dL_law_1490 ?_
  refine r_aload_n C (k := 2) rfl rfl dL_law_1491 ?_
  refine r_iload C (k := 1) rfl dL_law_1492 ?_
  refine r_iconst C (v := 1) rfl dL_law_1494 ?_
  refine r_iadd C dL_law_1495 ?_
  refine r_sld C hX h1.1 h1.2 dL_law_1496 ?_
  refine r_callV C (d' := 5) [.int p1] (c_X11_removeReason hM (Ω := (S, τ, (vp_updL o 0 v.toInt64))) rfl p1 hG rfl) myX11_removeReason wm8_232 ⟨_, _, _, _, (hM.ok k11), rfl, rfl, rfl, rfl⟩ rfl (kR rfl) (by decide) (kR rfl) rfl dL_law_1497 ?_
  refine r_istore C (lo' := [(6, .int v), (5, .int 0), (4, .int i), (0, .ref b), (1, .ref (wAd w (7, 11, 6, 0))), (2, .ref (wAd w (11, 12, 0, 0))), (3, .ref (wAd w (14, 13, 0, 0)))]) (by decide) rfl dL_law_1500 ?_
  refine r_aload_n C (k := 5) rfl rfl dL_law_1502 ?_
  refine r_callV C (d' := 0) [] (c_X11_thrown hM (Ω := (S, τ', (vp_updL o 0 v.toInt64))) rfl ht) myX11_thrown wm7_137 ⟨_, _, _, _, (hM.ok k11), rfl, rfl, rfl, rfl⟩ rfl (kR rfl) (by decide) (kR rfl) rfl dL_law_1503 ?_
  refine r_iload C (k := 1) rfl dL_law_1506 ?_
  refine r_icmp_eq C (tgt := 1513) rfl dL_law_1508 (fun _ => ?_) (fun h => absurd rfl h)
  refine r_iload C (k := 1) rfl dL_law_1513 ?_
  refine r_if_ne C (tgt := 1530) rfl dL_law_1515 (fun h => absurd rfl h) (fun _ => ?_)
  refine r_aload_n C (k := 6) rfl rfl dL_law_1518 ?_
  refine r_iconst C (v := 0) rfl dL_law_1519 ?_
  refine r_lald C (o := (vp_updL o 0 v.toInt64)) (hM.1 |> fun _ => hW.2.2.2.1 _ hO) rfl dL_law_1520 ?_
  refine r_iload C (k := 0) rfl dL_law_1521 ?_
  refine r_i2l C (v := v.toInt64) rfl dL_law_1523 ?_
  refine r_lcmp C dL_law_1524 ?_
  refine r_if_eq C (tgt := 1530) rfl dL_law_1525 (fun _ => ?_) (fun h => absurd (lgself _) h)
  refine r_goto C (tgt := 3008) rfl dL_law_1530 ?_
  refine r_lo [2, 3, 4, 5, 6] (lo' := [(4, .int i), (0, .ref b), (1, .ref (wAd w (7, 11, 6, 0))), (2, .ref (wAd w (11, 12, 0, 0))), (3, .ref (wAd w (14, 13, 0, 0)))]) rfl ?_
  exact kk
theorem la28X3 {w : WP} (hW : gW w) (hM : gWM w) (hS : gS w) (hZ : gZ w) (hO : wFr w (14, 13, 0, 0)) {X : CX} (C : gC w X cL_law "HedgeMessagesLaw" (some .boolean) 15 9) {b L : Nat} {xs : Nat → Int32} (hX : gSc X b L xs) {S : Nat → Nat → HV} {τ : HV} {o : Nat → Int64} {i : Int32} {p1 : Int32} (h1 : vp_in (i + 1) L ∧ xs (i + 1).toNatClampNeg = p1)  (hF : F_X10_removeReason p1 S = some (.inr 3)) {b9 : Int32} {τ' : HV} (hG : F_X11_removeReason p1 τ = some (b9, τ')) (ht : F_X11_thrown τ' = 1) {Q1 : State → Prop} {c n : Nat} (hq1 : qOk X (Q1, c + 1, n + 6)) (kk : gU w X (Q1, c + 1, n + 6) (cA w (S, τ', o)) 3008 [(4, .int i), (0, .ref b), (1, .ref (wAd w (7, 11, 6, 0))), (2, .ref (wAd w (11, 12, 0, 0))), (3, .ref (wAd w (14, 13, 0, 0)))] []) : gU w X (Q1, c, n) (cA w (S, τ, o)) 1477 [(4, .int i), (0, .ref b), (1, .ref (wAd w (7, 11, 6, 0))), (2, .ref (wAd w (11, 12, 0, 0))), (3, .ref (wAd w (14, 13, 0, 0)))] [] := by
  have hq : qOk X (Q1, c + 1, n + 6) := hq1
  refine r_aload_n C (k := 2) rfl rfl dL_law_1477 ?_
  refine r_aload_n C (k := 1) rfl rfl dL_law_1478 ?_
  refine r_iload C (k := 0) rfl dL_law_1479 ?_
  refine r_iconst C (v := 1) rfl dL_law_1481 ?_
  refine r_iadd C dL_law_1482 ?_
  refine r_sld C hX h1.1 h1.2 dL_law_1483 ?_
  refine r_aload_n C (k := 4) rfl rfl dL_law_1484 ?_
  refine r_callH C (ny := 3) (d' := 8) (mc := 1) (ms := 6) [.ref (wAd w (7, 11, 6, 0)), .int p1, .ref (wAd w (14, 13, 0, 0))] (xL_removeReason_3 hW hS hZ (Ω := (S, τ, o)) rfl p1 hF) cwL_removeReason rfl wm1_0 wm5_210 ⟨by decide, by decide, by decide +kernel⟩ wm5_209 rfl (kR rfl) (by decide) (kR rfl) rfl dL_law_1485 hq1 ?_
  refine r_istore C (lo' := [(5, .int 1), (4, .int i), (0, .ref b), (1, .ref (wAd w (7, 11, 6, 0))), (2, .ref (wAd w (11, 12, 0, 0))), (3, .ref (wAd w (14, 13, 0, 0)))]) (by decide) rfl dL_law_1488 ?_
  refine r_aload_n C (k := 4) rfl rfl dL_law_1490 ?_
  refine r_aload_n C (k := 2) rfl rfl dL_law_1491 ?_
  refine r_iload C (k := 1) rfl dL_law_1492 ?_
  refine r_iconst C (v := 1) rfl dL_law_1494 ?_
  refine r_iadd C dL_law_1495 ?_
  refine r_sld C hX h1.1 h1.2 dL_law_1496 ?_
  refine r_callV C (d' := 5) [.int p1] (c_X11_removeReason hM (Ω := (S, τ, o)) rfl p1 hG rfl) myX11_removeReason wm8_232 ⟨_, _, _, _, (hM.ok k11), rfl, rfl, rfl, rfl⟩ rfl (kR rfl) (by decide) (kR rfl) rfl dL_law_1497 ?_
  refine r_istore C (lo' := [(6, .int b9), (5, .int 1), (4, .int i), (0, .ref b), (1, .ref (wAd w (7, 11, 6, 0))), (2, .ref (wAd w (11, 12, 0, 0))), (3, .ref (wAd w (14, 13, 0, 0)))]) (by decide) rfl dL_law_1500 ?_
  refine r_aload_n C (k := 5) rfl rfl dL_law_1502 ?_
  refine r_callV C (d' := 0) [] (c_X11_thrown hM (Ω := (S, τ', o)) rfl ht) myX11_thrown wm7_137 ⟨_, _, _, _, (hM.ok k11), rfl, rfl, rfl, rfl⟩ rfl (kR rfl) (by decide) (kR rfl) rfl dL_law_1503 ?_
  refine r_iload C (k := 1) rfl dL_law_1506 ?_
  refine r_icmp_eq C (tgt := 1513) rfl dL_law_1508 (fun _ => ?_) (fun h => absurd rfl h)
  refine r_iload C (k := 1) rfl dL_law_1513 ?_
  refine r_if_ne C (tgt := 1530) rfl dL_law_1515 (fun _ => ?_) (fun h => absurd h (by decide))
  refine r_goto C (tgt := 3008) rfl dL_law_1530 ?_
  refine r_lo [2, 3, 4, 5, 6] (lo' := [(4, .int i), (0, .ref b), (1, .ref (wAd w (7, 11, 6, 0))), (2, .ref (wAd w (11, 12, 0, 0))), (3, .ref (wAd w (14, 13, 0, 0)))]) rfl ?_
  exact kk
theorem la29N {w : WP} (hW : gW w) (hM : gWM w) (hS : gS w) (hZ : gZ w) (hO : wFr w (14, 13, 0, 0)) {X : CX} (C : gC w X cL_law "HedgeMessagesLaw" (some .boolean) 15 9) {b L : Nat} {xs : Nat → Int32} (hX : gSc X b L xs) {S : Nat → Nat → HV} {τ : HV} {o : Nat → Int64} {i : Int32} {p1 : Int32} (h1 : vp_in (i + 1) L ∧ xs (i + 1).toNatClampNeg = p1) {v : Int32} (hF : F_X10_trimReason p1 S = some (.inl v)) {τ' : HV} (hG : F_X11_trimReason p1 τ = some (v, τ')) (ht : F_X11_thrown τ' = 0) {Q1 : State → Prop} {c n : Nat} (hq : qOk X (Q1, c, n)) (kk : gU w X (Q1, c, n) (cA w (S, τ', (vp_updL o 0 v.toInt64))) 3008 [(4, .int i), (0, .ref b), (1, .ref (wAd w (7, 11, 6, 0))), (2, .ref (wAd w (11, 12, 0, 0))), (3, .ref (wAd w (14, 13, 0, 0)))] []) : gU w X (Q1, c, n) (cA w (S, τ, o)) 1533 [(4, .int i), (0, .ref b), (1, .ref (wAd w (7, 11, 6, 0))), (2, .ref (wAd w (11, 12, 0, 0))), (3, .ref (wAd w (14, 13, 0, 0)))] [] := by
  refine r_aload_n C (k := 2) rfl rfl dL_law_1533 ?_
  refine r_aload_n C (k := 1) rfl rfl dL_law_1534 ?_
  refine r_iload C (k := 0) rfl dL_law_1535 ?_
  refine r_iconst C (v := 1) rfl dL_law_1537 ?_
  refine r_iadd C dL_law_1538 ?_
  refine r_sld C hX h1.1 h1.2 dL_law_1539 ?_
  refine r_aload_n C (k := 4) rfl rfl dL_law_1540 ?_
  refine r_callH C (ny := 3) (d' := 8) (mc := 0) (ms := 0) [.ref (wAd w (7, 11, 6, 0)), .int p1, .ref (wAd w (14, 13, 0, 0))] (kL_trimReason hW hS hO (Ω := (S, τ, o)) rfl p1 hF) cwL_trimReason rfl wm1_0 wm5_218 ⟨by decide, by decide, by decide +kernel⟩ wm5_217 rfl (kR rfl) (by decide) (kR rfl) rfl dL_law_1541 hq ?_
  refine r_istore C (lo' := [(5, .int 0), (4, .int i), (0, .ref b), (1, .ref (wAd w (7, 11, 6, 0))), (2, .ref (wAd w (11, 12, 0, 0))), (3, .ref (wAd w (14, 13, 0, 0)))]) (by decide) rfl dL_law_1544 ?_
  refine r_aload_n C (k := 4) rfl rfl dL_law_1546 ?_
  refine r_aload_n C (k := 2) rfl rfl dL_law_1547 ?_
  refine r_iload C (k := 1) rfl dL_law_1548 ?_
  refine r_iconst C (v := 1) rfl dL_law_1550 ?_
  refine r_iadd C dL_law_1551 ?_
  refine r_sld C hX h1.1 h1.2 dL_law_1552 ?_
  refine r_callV C (d' := 5) [.int p1] (c_X11_trimReason hM (Ω := (S, τ, (vp_updL o 0 v.toInt64))) rfl p1 hG rfl) myX11_trimReason wm8_236 ⟨_, _, _, _, (hM.ok k11), rfl, rfl, rfl, rfl⟩ rfl (kR rfl) (by decide) (kR rfl) rfl dL_law_1553 ?_
  refine r_istore C (lo' := [(6, .int v), (5, .int 0), (4, .int i), (0, .ref b), (1, .ref (wAd w (7, 11, 6, 0))), (2, .ref (wAd w (11, 12, 0, 0))), (3, .ref (wAd w (14, 13, 0, 0)))]) (by decide) rfl dL_law_1556 ?_
  refine r_aload_n C (k := 5) rfl rfl dL_law_1558 ?_
  refine r_callV C (d' := 0) [] (c_X11_thrown hM (Ω := (S, τ', (vp_updL o 0 v.toInt64))) rfl ht) myX11_thrown wm7_137 ⟨_, _, _, _, (hM.ok k11), rfl, rfl, rfl, rfl⟩ rfl (kR rfl) (by decide) (kR rfl) rfl dL_law_1559 ?_
  refine r_iload C (k := 1) rfl dL_law_1562 ?_
  refine r_icmp_eq C (tgt := 1569) rfl dL_law_1564 (fun _ => ?_) (fun h => absurd rfl h)
  refine r_iload C (k := 1) rfl dL_law_1569 ?_
  refine r_if_ne C (tgt := 1586) rfl dL_law_1571 (fun h => absurd rfl h) (fun _ => ?_)
  refine r_aload_n C (k := 6) rfl rfl dL_law_1574 ?_
  refine r_iconst C (v := 0) rfl dL_law_1575 ?_
  refine r_lald C (o := (vp_updL o 0 v.toInt64)) (hM.1 |> fun _ => hW.2.2.2.1 _ hO) rfl dL_law_1576 ?_
  refine r_iload C (k := 0) rfl dL_law_1577 ?_
  refine r_i2l C (v := v.toInt64) rfl dL_law_1579 ?_
  refine r_lcmp C dL_law_1580 ?_
  refine r_if_eq C (tgt := 1586) rfl dL_law_1581 (fun _ => ?_) (fun h => absurd (lgself _) h)
  refine r_goto C (tgt := 3008) rfl dL_law_1586 ?_
  refine r_lo [2, 3, 4, 5, 6] (lo' := [(4, .int i), (0, .ref b), (1, .ref (wAd w (7, 11, 6, 0))), (2, .ref (wAd w (11, 12, 0, 0))), (3, .ref (wAd w (14, 13, 0, 0)))]) rfl ?_
  exact kk
theorem la29X3 {w : WP} (hW : gW w) (hM : gWM w) (hS : gS w) (hZ : gZ w) (hO : wFr w (14, 13, 0, 0)) {X : CX} (C : gC w X cL_law "HedgeMessagesLaw" (some .boolean) 15 9) {b L : Nat} {xs : Nat → Int32} (hX : gSc X b L xs) {S : Nat → Nat → HV} {τ : HV} {o : Nat → Int64} {i : Int32} {p1 : Int32} (h1 : vp_in (i + 1) L ∧ xs (i + 1).toNatClampNeg = p1)  (hF : F_X10_trimReason p1 S = some (.inr 3)) {b9 : Int32} {τ' : HV} (hG : F_X11_trimReason p1 τ = some (b9, τ')) (ht : F_X11_thrown τ' = 1) {Q1 : State → Prop} {c n : Nat} (hq1 : qOk X (Q1, c + 1, n + 6)) (kk : gU w X (Q1, c + 1, n + 6) (cA w (S, τ', o)) 3008 [(4, .int i), (0, .ref b), (1, .ref (wAd w (7, 11, 6, 0))), (2, .ref (wAd w (11, 12, 0, 0))), (3, .ref (wAd w (14, 13, 0, 0)))] []) : gU w X (Q1, c, n) (cA w (S, τ, o)) 1533 [(4, .int i), (0, .ref b), (1, .ref (wAd w (7, 11, 6, 0))), (2, .ref (wAd w (11, 12, 0, 0))), (3, .ref (wAd w (14, 13, 0, 0)))] [] := by
  have hq : qOk X (Q1, c + 1, n + 6) := hq1
  refine r_aload_n C (k := 2) rfl rfl dL_law_1533 ?_
  refine r_aload_n C (k := 1) rfl rfl dL_law_1534 ?_
  refine r_iload C (k := 0) rfl dL_law_1535 ?_
  refine r_iconst C (v := 1) rfl dL_law_1537 ?_
  refine r_iadd C dL_law_1538 ?_
  refine r_sld C hX h1.1 h1.2 dL_law_1539 ?_
  refine r_aload_n C (k := 4) rfl rfl dL_law_1540 ?_
  refine r_callH C (ny := 3) (d' := 8) (mc := 1) (ms := 6) [.ref (wAd w (7, 11, 6, 0)), .int p1, .ref (wAd w (14, 13, 0, 0))] (xL_trimReason_3 hW hS hZ (Ω := (S, τ, o)) rfl p1 hF) cwL_trimReason rfl wm1_0 wm5_218 ⟨by decide, by decide, by decide +kernel⟩ wm5_217 rfl (kR rfl) (by decide) (kR rfl) rfl dL_law_1541 hq1 ?_
  refine r_istore C (lo' := [(5, .int 1), (4, .int i), (0, .ref b), (1, .ref (wAd w (7, 11, 6, 0))), (2, .ref (wAd w (11, 12, 0, 0))), (3, .ref (wAd w (14, 13, 0, 0)))]) (by decide) rfl dL_law_1544 ?_
  refine r_aload_n C (k := 4) rfl rfl dL_law_1546 ?_
  refine r_aload_n C (k := 2) rfl rfl dL_law_1547 ?_
  refine r_iload C (k := 1) rfl dL_law_1548 ?_
  refine r_iconst C (v := 1) rfl dL_law_1550 ?_
  refine r_iadd C dL_law_1551 ?_
  refine r_sld C hX h1.1 h1.2 dL_law_1552 ?_
  refine r_callV C (d' := 5) [.int p1] (c_X11_trimReason hM (Ω := (S, τ, o)) rfl p1 hG rfl) myX11_trimReason wm8_236 ⟨_, _, _, _, (hM.ok k11), rfl, rfl, rfl, rfl⟩ rfl (kR rfl) (by decide) (kR rfl) rfl dL_law_1553 ?_
  refine r_istore C (lo' := [(6, .int b9), (5, .int 1), (4, .int i), (0, .ref b), (1, .ref (wAd w (7, 11, 6, 0))), (2, .ref (wAd w (11, 12, 0, 0))), (3, .ref (wAd w (14, 13, 0, 0)))]) (by decide) rfl dL_law_1556 ?_
  refine r_aload_n C (k := 5) rfl rfl dL_law_1558 ?_
  refine r_callV C (d' := 0) [] (c_X11_thrown hM (Ω := (S, τ', o)) rfl ht) myX11_thrown wm7_137 ⟨_, _, _, _, (hM.ok k11), rfl, rfl, rfl, rfl⟩ rfl (kR rfl) (by decide) (kR rfl) rfl dL_law_1559 ?_
  refine r_iload C (k := 1) rfl dL_law_1562 ?_
  refine r_icmp_eq C (tgt := 1569) rfl dL_law_1564 (fun _ => ?_) (fun h => absurd rfl h)
  refine r_iload C (k := 1) rfl dL_law_1569 ?_
  refine r_if_ne C (tgt := 1586) rfl dL_law_1571 (fun _ => ?_) (fun h => absurd h (by decide))
  refine r_goto C (tgt := 3008) rfl dL_law_1586 ?_
  refine r_lo [2, 3, 4, 5, 6] (lo' := [(4, .int i), (0, .ref b), (1, .ref (wAd w (7, 11, 6, 0))), (2, .ref (wAd w (11, 12, 0, 0))), (3, .ref (wAd w (14, 13, 0, 0)))]) rfl ?_
  exact kk
theorem la30N {w : WP} (hW : gW w) (hM : gWM w) (hS : gS w) (hZ : gZ w) (hO : wFr w (14, 13, 0, 0)) {X : CX} (C : gC w X cL_law "HedgeMessagesLaw" (some .boolean) 15 9) {b L : Nat} {xs : Nat → Int32} (hX : gSc X b L xs) {S : Nat → Nat → HV} {τ : HV} {o : Nat → Int64} {i : Int32} {p1 : Int32} (h1 : vp_in (i + 1) L ∧ xs (i + 1).toNatClampNeg = p1) (N : Nat) {v : Int32} (hF : F_X10_writeReason N p1 S = some (.inl v)) {τ' : HV} (hG : F_X11_writeReason N p1 τ = some (v, τ')) (ht : F_X11_thrown τ' = 0) {Q1 : State → Prop} {c n : Nat} (hq : qOk X (Q1, c, n)) (kk : gU w X (Q1, c, n) (cA w (S, τ', (vp_updL o 0 v.toInt64))) 3008 [(4, .int i), (0, .ref b), (1, .ref (wAd w (7, 11, 6, 0))), (2, .ref (wAd w (11, 12, 0, 0))), (3, .ref (wAd w (14, 13, 0, 0)))] []) : gU w X (Q1, c, n) (cA w (S, τ, o)) 1589 [(4, .int i), (0, .ref b), (1, .ref (wAd w (7, 11, 6, 0))), (2, .ref (wAd w (11, 12, 0, 0))), (3, .ref (wAd w (14, 13, 0, 0)))] [] := by
  refine r_aload_n C (k := 2) rfl rfl dL_law_1589 ?_
  refine r_aload_n C (k := 1) rfl rfl dL_law_1590 ?_
  refine r_iload C (k := 0) rfl dL_law_1591 ?_
  refine r_iconst C (v := 1) rfl dL_law_1593 ?_
  refine r_iadd C dL_law_1594 ?_
  refine r_sld C hX h1.1 h1.2 dL_law_1595 ?_
  refine r_aload_n C (k := 4) rfl rfl dL_law_1596 ?_
  refine r_callH C (ny := 3) (d' := 8) (mc := 0) (ms := 0) [.ref (wAd w (7, 11, 6, 0)), .int p1, .ref (wAd w (14, 13, 0, 0))] (kL_writeReason hW hS hO (Ω := (S, τ, o)) rfl N p1 hF) cwL_writeReason rfl wm1_0 wm5_226 ⟨by decide, by decide, by decide +kernel⟩ wm5_225 rfl (kR rfl) (by decide) (kR rfl) rfl dL_law_1597 hq ?_
  refine r_istore C (lo' := [(5, .int 0), (4, .int i), (0, .ref b), (1, .ref (wAd w (7, 11, 6, 0))), (2, .ref (wAd w (11, 12, 0, 0))), (3, .ref (wAd w (14, 13, 0, 0)))]) (by decide) rfl dL_law_1600 ?_
  refine r_aload_n C (k := 4) rfl rfl dL_law_1602 ?_
  refine r_aload_n C (k := 2) rfl rfl dL_law_1603 ?_
  refine r_iload C (k := 1) rfl dL_law_1604 ?_
  refine r_iconst C (v := 1) rfl dL_law_1606 ?_
  refine r_iadd C dL_law_1607 ?_
  refine r_sld C hX h1.1 h1.2 dL_law_1608 ?_
  refine r_callV C (d' := 8) [.int p1] (c_X11_writeReason hM (Ω := (S, τ, (vp_updL o 0 v.toInt64))) rfl N p1 hG rfl) myX11_writeReason wm9_0 ⟨_, _, _, _, (hM.ok k11), rfl, rfl, rfl, rfl⟩ rfl (kR rfl) (by decide) (kR rfl) rfl dL_law_1609 ?_
  refine r_istore C (lo' := [(6, .int v), (5, .int 0), (4, .int i), (0, .ref b), (1, .ref (wAd w (7, 11, 6, 0))), (2, .ref (wAd w (11, 12, 0, 0))), (3, .ref (wAd w (14, 13, 0, 0)))]) (by decide) rfl dL_law_1612 ?_
  refine r_aload_n C (k := 5) rfl rfl dL_law_1614 ?_
  refine r_callV C (d' := 0) [] (c_X11_thrown hM (Ω := (S, τ', (vp_updL o 0 v.toInt64))) rfl ht) myX11_thrown wm7_137 ⟨_, _, _, _, (hM.ok k11), rfl, rfl, rfl, rfl⟩ rfl (kR rfl) (by decide) (kR rfl) rfl dL_law_1615 ?_
  refine r_iload C (k := 1) rfl dL_law_1618 ?_
  refine r_icmp_eq C (tgt := 1625) rfl dL_law_1620 (fun _ => ?_) (fun h => absurd rfl h)
  refine r_iload C (k := 1) rfl dL_law_1625 ?_
  refine r_if_ne C (tgt := 1642) rfl dL_law_1627 (fun h => absurd rfl h) (fun _ => ?_)
  refine r_aload_n C (k := 6) rfl rfl dL_law_1630 ?_
  refine r_iconst C (v := 0) rfl dL_law_1631 ?_
  refine r_lald C (o := (vp_updL o 0 v.toInt64)) (hM.1 |> fun _ => hW.2.2.2.1 _ hO) rfl dL_law_1632 ?_
  refine r_iload C (k := 0) rfl dL_law_1633 ?_
  refine r_i2l C (v := v.toInt64) rfl dL_law_1635 ?_
  refine r_lcmp C dL_law_1636 ?_
  refine r_if_eq C (tgt := 1642) rfl dL_law_1637 (fun _ => ?_) (fun h => absurd (lgself _) h)
  refine r_goto C (tgt := 3008) rfl dL_law_1642 ?_
  refine r_lo [2, 3, 4, 5, 6] (lo' := [(4, .int i), (0, .ref b), (1, .ref (wAd w (7, 11, 6, 0))), (2, .ref (wAd w (11, 12, 0, 0))), (3, .ref (wAd w (14, 13, 0, 0)))]) rfl ?_
  exact kk
theorem la30X2 {w : WP} (hW : gW w) (hM : gWM w) (hS : gS w) (hZ : gZ w) (hO : wFr w (14, 13, 0, 0)) {X : CX} (C : gC w X cL_law "HedgeMessagesLaw" (some .boolean) 15 9) {b L : Nat} {xs : Nat → Int32} (hX : gSc X b L xs) {S : Nat → Nat → HV} {τ : HV} {o : Nat → Int64} {i : Int32} {p1 : Int32} (h1 : vp_in (i + 1) L ∧ xs (i + 1).toNatClampNeg = p1) (N : Nat)  (hF : F_X10_writeReason N p1 S = some (.inr 2)) {b9 : Int32} {τ' : HV} (hG : F_X11_writeReason N p1 τ = some (b9, τ')) (ht : F_X11_thrown τ' = 1) {Q1 : State → Prop} {c n : Nat} (hq1 : qOk X (Q1, c + 1, n + 6)) (kk : gU w X (Q1, c + 1, n + 6) (cA w (S, τ', o)) 3008 [(4, .int i), (0, .ref b), (1, .ref (wAd w (7, 11, 6, 0))), (2, .ref (wAd w (11, 12, 0, 0))), (3, .ref (wAd w (14, 13, 0, 0)))] []) : gU w X (Q1, c, n) (cA w (S, τ, o)) 1589 [(4, .int i), (0, .ref b), (1, .ref (wAd w (7, 11, 6, 0))), (2, .ref (wAd w (11, 12, 0, 0))), (3, .ref (wAd w (14, 13, 0, 0)))] [] := by
  have hq : qOk X (Q1, c + 1, n + 6) := hq1
  refine r_aload_n C (k := 2) rfl rfl dL_law_1589 ?_
  refine r_aload_n C (k := 1) rfl rfl dL_law_1590 ?_
  refine r_iload C (k := 0) rfl dL_law_1591 ?_
  refine r_iconst C (v := 1) rfl dL_law_1593 ?_
  refine r_iadd C dL_law_1594 ?_
  refine r_sld C hX h1.1 h1.2 dL_law_1595 ?_
  refine r_aload_n C (k := 4) rfl rfl dL_law_1596 ?_
  refine r_callH C (ny := 3) (d' := 8) (mc := 1) (ms := 6) [.ref (wAd w (7, 11, 6, 0)), .int p1, .ref (wAd w (14, 13, 0, 0))] (xL_writeReason_2 hW hS hZ (Ω := (S, τ, o)) rfl N p1 hF) cwL_writeReason rfl wm1_0 wm5_226 ⟨by decide, by decide, by decide +kernel⟩ wm5_225 rfl (kR rfl) (by decide) (kR rfl) rfl dL_law_1597 hq1 ?_
  refine r_istore C (lo' := [(5, .int 1), (4, .int i), (0, .ref b), (1, .ref (wAd w (7, 11, 6, 0))), (2, .ref (wAd w (11, 12, 0, 0))), (3, .ref (wAd w (14, 13, 0, 0)))]) (by decide) rfl dL_law_1600 ?_
  refine r_aload_n C (k := 4) rfl rfl dL_law_1602 ?_
  refine r_aload_n C (k := 2) rfl rfl dL_law_1603 ?_
  refine r_iload C (k := 1) rfl dL_law_1604 ?_
  refine r_iconst C (v := 1) rfl dL_law_1606 ?_
  refine r_iadd C dL_law_1607 ?_
  refine r_sld C hX h1.1 h1.2 dL_law_1608 ?_
  refine r_callV C (d' := 8) [.int p1] (c_X11_writeReason hM (Ω := (S, τ, o)) rfl N p1 hG rfl) myX11_writeReason wm9_0 ⟨_, _, _, _, (hM.ok k11), rfl, rfl, rfl, rfl⟩ rfl (kR rfl) (by decide) (kR rfl) rfl dL_law_1609 ?_
  refine r_istore C (lo' := [(6, .int b9), (5, .int 1), (4, .int i), (0, .ref b), (1, .ref (wAd w (7, 11, 6, 0))), (2, .ref (wAd w (11, 12, 0, 0))), (3, .ref (wAd w (14, 13, 0, 0)))]) (by decide) rfl dL_law_1612 ?_
  refine r_aload_n C (k := 5) rfl rfl dL_law_1614 ?_
  refine r_callV C (d' := 0) [] (c_X11_thrown hM (Ω := (S, τ', o)) rfl ht) myX11_thrown wm7_137 ⟨_, _, _, _, (hM.ok k11), rfl, rfl, rfl, rfl⟩ rfl (kR rfl) (by decide) (kR rfl) rfl dL_law_1615 ?_
  refine r_iload C (k := 1) rfl dL_law_1618 ?_
  refine r_icmp_eq C (tgt := 1625) rfl dL_law_1620 (fun _ => ?_) (fun h => absurd rfl h)
  refine r_iload C (k := 1) rfl dL_law_1625 ?_
  refine r_if_ne C (tgt := 1642) rfl dL_law_1627 (fun _ => ?_) (fun h => absurd h (by decide))
  refine r_goto C (tgt := 3008) rfl dL_law_1642 ?_
  refine r_lo [2, 3, 4, 5, 6] (lo' := [(4, .int i), (0, .ref b), (1, .ref (wAd w (7, 11, 6, 0))), (2, .ref (wAd w (11, 12, 0, 0))), (3, .ref (wAd w (14, 13, 0, 0)))]) rfl ?_
  exact kk
theorem la31N {w : WP} (hW : gW w) (hM : gWM w) (hS : gS w) (hZ : gZ w) (hO : wFr w (14, 13, 0, 0)) {X : CX} (C : gC w X cL_law "HedgeMessagesLaw" (some .boolean) 15 9) {b L : Nat} {xs : Nat → Int32} (hX : gSc X b L xs) {S : Nat → Nat → HV} {τ : HV} {o : Nat → Int64} {i : Int32} {p1 : Int32} (h1 : vp_in (i + 1) L ∧ xs (i + 1).toNatClampNeg = p1) {v : Int32} (hF : F_X10_keepReason p1 S = some (.inl v)) {τ' : HV} (hG : F_X11_keepReason p1 τ = some (v, τ')) (ht : F_X11_thrown τ' = 0) {Q1 : State → Prop} {c n : Nat} (hq : qOk X (Q1, c, n)) (kk : gU w X (Q1, c, n) (cA w (S, τ', (vp_updL o 0 v.toInt64))) 3008 [(4, .int i), (0, .ref b), (1, .ref (wAd w (7, 11, 6, 0))), (2, .ref (wAd w (11, 12, 0, 0))), (3, .ref (wAd w (14, 13, 0, 0)))] []) : gU w X (Q1, c, n) (cA w (S, τ, o)) 1645 [(4, .int i), (0, .ref b), (1, .ref (wAd w (7, 11, 6, 0))), (2, .ref (wAd w (11, 12, 0, 0))), (3, .ref (wAd w (14, 13, 0, 0)))] [] := by
  refine r_aload_n C (k := 2) rfl rfl dL_law_1645 ?_
  refine r_aload_n C (k := 1) rfl rfl dL_law_1646 ?_
  refine r_iload C (k := 0) rfl dL_law_1647 ?_
  refine r_iconst C (v := 1) rfl dL_law_1649 ?_
  refine r_iadd C dL_law_1650 ?_
  refine r_sld C hX h1.1 h1.2 dL_law_1651 ?_
  refine r_aload_n C (k := 4) rfl rfl dL_law_1652 ?_
  refine r_callH C (ny := 3) (d' := 8) (mc := 0) (ms := 0) [.ref (wAd w (7, 11, 6, 0)), .int p1, .ref (wAd w (14, 13, 0, 0))] (kL_keepReason hW hS hO (Ω := (S, τ, o)) rfl p1 hF) cwL_keepReason rfl wm1_0 wm5_237 ⟨by decide, by decide, by decide +kernel⟩ wm5_236 rfl (kR rfl) (by decide) (kR rfl) rfl dL_law_1653 hq ?_
  refine r_istore C (lo' := [(5, .int 0), (4, .int i), (0, .ref b), (1, .ref (wAd w (7, 11, 6, 0))), (2, .ref (wAd w (11, 12, 0, 0))), (3, .ref (wAd w (14, 13, 0, 0)))]) (by decide) rfl dL_law_1656 ?_
  refine r_aload_n C (k := 4) rfl rfl dL_law_1658 ?_
  refine r_aload_n C (k := 2) rfl rfl dL_law_1659 ?_
  refine r_iload C (k := 1) rfl dL_law_1660 ?_
  refine r_iconst C (v := 1) rfl dL_law_1662 ?_
  refine r_iadd C dL_law_1663 ?_
  refine r_sld C hX h1.1 h1.2 dL_law_1664 ?_
  refine r_callV C (d' := 5) [.int p1] (c_X11_keepReason hM (Ω := (S, τ, (vp_updL o 0 v.toInt64))) rfl p1 hG rfl) myX11_keepReason wm9_8 ⟨_, _, _, _, (hM.ok k11), rfl, rfl, rfl, rfl⟩ rfl (kR rfl) (by decide) (kR rfl) rfl dL_law_1665 ?_
  refine r_istore C (lo' := [(6, .int v), (5, .int 0), (4, .int i), (0, .ref b), (1, .ref (wAd w (7, 11, 6, 0))), (2, .ref (wAd w (11, 12, 0, 0))), (3, .ref (wAd w (14, 13, 0, 0)))]) (by decide) rfl dL_law_1668 ?_
  refine r_aload_n C (k := 5) rfl rfl dL_law_1670 ?_
  refine r_callV C (d' := 0) [] (c_X11_thrown hM (Ω := (S, τ', (vp_updL o 0 v.toInt64))) rfl ht) myX11_thrown wm7_137 ⟨_, _, _, _, (hM.ok k11), rfl, rfl, rfl, rfl⟩ rfl (kR rfl) (by decide) (kR rfl) rfl dL_law_1671 ?_
  refine r_iload C (k := 1) rfl dL_law_1674 ?_
  refine r_icmp_eq C (tgt := 1681) rfl dL_law_1676 (fun _ => ?_) (fun h => absurd rfl h)
  refine r_iload C (k := 1) rfl dL_law_1681 ?_
  refine r_if_ne C (tgt := 1698) rfl dL_law_1683 (fun h => absurd rfl h) (fun _ => ?_)
  refine r_aload_n C (k := 6) rfl rfl dL_law_1686 ?_
  refine r_iconst C (v := 0) rfl dL_law_1687 ?_
  refine r_lald C (o := (vp_updL o 0 v.toInt64)) (hM.1 |> fun _ => hW.2.2.2.1 _ hO) rfl dL_law_1688 ?_
  refine r_iload C (k := 0) rfl dL_law_1689 ?_
  refine r_i2l C (v := v.toInt64) rfl dL_law_1691 ?_
  refine r_lcmp C dL_law_1692 ?_
  refine r_if_eq C (tgt := 1698) rfl dL_law_1693 (fun _ => ?_) (fun h => absurd (lgself _) h)
  refine r_goto C (tgt := 3008) rfl dL_law_1698 ?_
  refine r_lo [2, 3, 4, 5, 6] (lo' := [(4, .int i), (0, .ref b), (1, .ref (wAd w (7, 11, 6, 0))), (2, .ref (wAd w (11, 12, 0, 0))), (3, .ref (wAd w (14, 13, 0, 0)))]) rfl ?_
  exact kk
theorem la31X3 {w : WP} (hW : gW w) (hM : gWM w) (hS : gS w) (hZ : gZ w) (hO : wFr w (14, 13, 0, 0)) {X : CX} (C : gC w X cL_law "HedgeMessagesLaw" (some .boolean) 15 9) {b L : Nat} {xs : Nat → Int32} (hX : gSc X b L xs) {S : Nat → Nat → HV} {τ : HV} {o : Nat → Int64} {i : Int32} {p1 : Int32} (h1 : vp_in (i + 1) L ∧ xs (i + 1).toNatClampNeg = p1)  (hF : F_X10_keepReason p1 S = some (.inr 3)) {b9 : Int32} {τ' : HV} (hG : F_X11_keepReason p1 τ = some (b9, τ')) (ht : F_X11_thrown τ' = 1) {Q1 : State → Prop} {c n : Nat} (hq1 : qOk X (Q1, c + 1, n + 6)) (kk : gU w X (Q1, c + 1, n + 6) (cA w (S, τ', o)) 3008 [(4, .int i), (0, .ref b), (1, .ref (wAd w (7, 11, 6, 0))), (2, .ref (wAd w (11, 12, 0, 0))), (3, .ref (wAd w (14, 13, 0, 0)))] []) : gU w X (Q1, c, n) (cA w (S, τ, o)) 1645 [(4, .int i), (0, .ref b), (1, .ref (wAd w (7, 11, 6, 0))), (2, .ref (wAd w (11, 12, 0, 0))), (3, .ref (wAd w (14, 13, 0, 0)))] [] := by
  have hq : qOk X (Q1, c + 1, n + 6) := hq1
  refine r_aload_n C (k := 2) rfl rfl dL_law_1645 ?_
  refine r_aload_n C (k := 1) rfl rfl dL_law_1646 ?_
  refine r_iload C (k := 0) rfl dL_law_1647 ?_
  refine r_iconst C (v := 1) rfl dL_law_1649 ?_
  refine r_iadd C dL_law_1650 ?_
  refine r_sld C hX h1.1 h1.2 dL_law_1651 ?_
  refine r_aload_n C (k := 4) rfl rfl dL_law_1652 ?_
  refine r_callH C (ny := 3) (d' := 8) (mc := 1) (ms := 6) [.ref (wAd w (7, 11, 6, 0)), .int p1, .ref (wAd w (14, 13, 0, 0))] (xL_keepReason_3 hW hS hZ (Ω := (S, τ, o)) rfl p1 hF) cwL_keepReason rfl wm1_0 wm5_237 ⟨by decide, by decide, by decide +kernel⟩ wm5_236 rfl (kR rfl) (by decide) (kR rfl) rfl dL_law_1653 hq1 ?_
  refine r_istore C (lo' := [(5, .int 1), (4, .int i), (0, .ref b), (1, .ref (wAd w (7, 11, 6, 0))), (2, .ref (wAd w (11, 12, 0, 0))), (3, .ref (wAd w (14, 13, 0, 0)))]) (by decide) rfl dL_law_1656 ?_
  refine r_aload_n C (k := 4) rfl rfl dL_law_1658 ?_
  refine r_aload_n C (k := 2) rfl rfl dL_law_1659 ?_
  refine r_iload C (k := 1) rfl dL_law_1660 ?_
  refine r_iconst C (v := 1) rfl dL_law_1662 ?_
  refine r_iadd C dL_law_1663 ?_
  refine r_sld C hX h1.1 h1.2 dL_law_1664 ?_
  refine r_callV C (d' := 5) [.int p1] (c_X11_keepReason hM (Ω := (S, τ, o)) rfl p1 hG rfl) myX11_keepReason wm9_8 ⟨_, _, _, _, (hM.ok k11), rfl, rfl, rfl, rfl⟩ rfl (kR rfl) (by decide) (kR rfl) rfl dL_law_1665 ?_
  refine r_istore C (lo' := [(6, .int b9), (5, .int 1), (4, .int i), (0, .ref b), (1, .ref (wAd w (7, 11, 6, 0))), (2, .ref (wAd w (11, 12, 0, 0))), (3, .ref (wAd w (14, 13, 0, 0)))]) (by decide) rfl dL_law_1668 ?_
  refine r_aload_n C (k := 5) rfl rfl dL_law_1670 ?_
  refine r_callV C (d' := 0) [] (c_X11_thrown hM (Ω := (S, τ', o)) rfl ht) myX11_thrown wm7_137 ⟨_, _, _, _, (hM.ok k11), rfl, rfl, rfl, rfl⟩ rfl (kR rfl) (by decide) (kR rfl) rfl dL_law_1671 ?_
  refine r_iload C (k := 1) rfl dL_law_1674 ?_
  refine r_icmp_eq C (tgt := 1681) rfl dL_law_1676 (fun _ => ?_) (fun h => absurd rfl h)
  refine r_iload C (k := 1) rfl dL_law_1681 ?_
  refine r_if_ne C (tgt := 1698) rfl dL_law_1683 (fun _ => ?_) (fun h => absurd h (by decide))
  refine r_goto C (tgt := 3008) rfl dL_law_1698 ?_
  refine r_lo [2, 3, 4, 5, 6] (lo' := [(4, .int i), (0, .ref b), (1, .ref (wAd w (7, 11, 6, 0))), (2, .ref (wAd w (11, 12, 0, 0))), (3, .ref (wAd w (14, 13, 0, 0)))]) rfl ?_
  exact kk
theorem la32N {w : WP} (hW : gW w) (hM : gWM w) (hS : gS w) (hZ : gZ w) (hO : wFr w (14, 13, 0, 0)) {X : CX} (C : gC w X cL_law "HedgeMessagesLaw" (some .boolean) 15 9) {b L : Nat} {xs : Nat → Int32} (hX : gSc X b L xs) {S : Nat → Nat → HV} {τ : HV} {o : Nat → Int64} {i : Int32} {v : Int32} (hF : F_X10_daysUntilInspection S = some v) {τ' : HV} (hG : F_X11_daysUntilInspection τ = some (v, τ')) {Q1 : State → Prop} {c n : Nat} (hq : qOk X (Q1, c, n)) (kk : gU w X (Q1, c, n) (cA w (S, τ', o)) 3008 [(4, .int i), (0, .ref b), (1, .ref (wAd w (7, 11, 6, 0))), (2, .ref (wAd w (11, 12, 0, 0))), (3, .ref (wAd w (14, 13, 0, 0)))] []) : gU w X (Q1, c, n) (cA w (S, τ, o)) 1701 [(4, .int i), (0, .ref b), (1, .ref (wAd w (7, 11, 6, 0))), (2, .ref (wAd w (11, 12, 0, 0))), (3, .ref (wAd w (14, 13, 0, 0)))] [] := by
  refine r_aload_n C (k := 2) rfl rfl dL_law_1701 ?_
  refine r_callV C (d' := 1) [] (c_X10_daysUntilInspection hW (Ω := (S, τ, o)) rfl  hF) myX10_daysUntilInspection wm3_33 ⟨_, _, _, _, (hW.ok k7), rfl, rfl, rfl, rfl⟩ rfl (kR rfl) (by decide) (kR rfl) rfl dL_law_1702 ?_
  refine r_aload_n C (k := 3) rfl rfl dL_law_1705 ?_
  refine r_callV C (d' := 0) [] (c_X11_daysUntilInspection hM (Ω := (S, τ, o)) rfl  hG rfl) myX11_daysUntilInspection wm9_16 ⟨_, _, _, _, (hM.ok k11), rfl, rfl, rfl, rfl⟩ rfl (kR rfl) (by decide) (kR rfl) rfl dL_law_1706 ?_
  refine r_icmp_eq C (tgt := 3008) rfl dL_law_1709 (fun _ => ?_) (fun h => absurd rfl h)
  exact kk
theorem la33N {w : WP} (hW : gW w) (hM : gWM w) (hS : gS w) (hZ : gZ w) (hO : wFr w (14, 13, 0, 0)) {X : CX} (C : gC w X cL_law "HedgeMessagesLaw" (some .boolean) 15 9) {b L : Nat} {xs : Nat → Int32} (hX : gSc X b L xs) {S : Nat → Nat → HV} {τ : HV} {o : Nat → Int64} {i : Int32} {p1 : Int32} (h1 : vp_in (i + 1) L ∧ xs (i + 1).toNatClampNeg = p1) (N : Nat) {v : Int32} {S' : Nat → Nat → HV} (hF : F_X10_daysUntilPruned N p1 S = some (.inl (v, S'))) {τ' : HV} (hG : F_X11_daysUntilPruned N p1 τ = some (v, τ')) (ht : F_X11_thrown τ' = 0) {Q1 : State → Prop} {c n : Nat} (hq : qOk X (Q1, c, n)) (kk : gU w X (Q1, c, n) (cA w (S', τ', (vp_updL o 0 v.toInt64))) 3008 [(4, .int i), (0, .ref b), (1, .ref (wAd w (7, 11, 6, 0))), (2, .ref (wAd w (11, 12, 0, 0))), (3, .ref (wAd w (14, 13, 0, 0)))] []) : gU w X (Q1, c, n) (cA w (S, τ, o)) 1714 [(4, .int i), (0, .ref b), (1, .ref (wAd w (7, 11, 6, 0))), (2, .ref (wAd w (11, 12, 0, 0))), (3, .ref (wAd w (14, 13, 0, 0)))] [] := by
  refine r_aload_n C (k := 2) rfl rfl dL_law_1714 ?_
  refine r_aload_n C (k := 1) rfl rfl dL_law_1715 ?_
  refine r_iload C (k := 0) rfl dL_law_1716 ?_
  refine r_iconst C (v := 1) rfl dL_law_1718 ?_
  refine r_iadd C dL_law_1719 ?_
  refine r_sld C hX h1.1 h1.2 dL_law_1720 ?_
  refine r_aload_n C (k := 4) rfl rfl dL_law_1721 ?_
  refine r_callH C (ny := 3) (d' := 8) (mc := 0) (ms := 0) [.ref (wAd w (7, 11, 6, 0)), .int p1, .ref (wAd w (14, 13, 0, 0))] (kL_daysUntilPruned hW hS hO (Ω := (S, τ, o)) rfl N p1 hF) cwL_daysUntilPruned rfl wm1_0 wm6_5 ⟨by decide, by decide, by decide +kernel⟩ wm6_4 rfl (kR rfl) (by decide) (kR rfl) rfl dL_law_1722 hq ?_
  refine r_istore C (lo' := [(5, .int 0), (4, .int i), (0, .ref b), (1, .ref (wAd w (7, 11, 6, 0))), (2, .ref (wAd w (11, 12, 0, 0))), (3, .ref (wAd w (14, 13, 0, 0)))]) (by decide) rfl dL_law_1725 ?_
  refine r_aload_n C (k := 4) rfl rfl dL_law_1727 ?_
  refine r_aload_n C (k := 2) rfl rfl dL_law_1728 ?_
  refine r_iload C (k := 1) rfl dL_law_1729 ?_
  refine r_iconst C (v := 1) rfl dL_law_1731 ?_
  refine r_iadd C dL_law_1732 ?_
  refine r_sld C hX h1.1 h1.2 dL_law_1733 ?_
  refine r_callV C (d' := 10) [.int p1] (c_X11_daysUntilPruned hM (Ω := (S', τ, (vp_updL o 0 v.toInt64))) rfl N p1 hG rfl) myX11_daysUntilPruned wm9_20 ⟨_, _, _, _, (hM.ok k11), rfl, rfl, rfl, rfl⟩ rfl (kR rfl) (by decide) (kR rfl) rfl dL_law_1734 ?_
  refine r_istore C (lo' := [(6, .int v), (5, .int 0), (4, .int i), (0, .ref b), (1, .ref (wAd w (7, 11, 6, 0))), (2, .ref (wAd w (11, 12, 0, 0))), (3, .ref (wAd w (14, 13, 0, 0)))]) (by decide) rfl dL_law_1737 ?_
  refine r_aload_n C (k := 5) rfl rfl dL_law_1739 ?_
  refine r_callV C (d' := 0) [] (c_X11_thrown hM (Ω := (S', τ', (vp_updL o 0 v.toInt64))) rfl ht) myX11_thrown wm7_137 ⟨_, _, _, _, (hM.ok k11), rfl, rfl, rfl, rfl⟩ rfl (kR rfl) (by decide) (kR rfl) rfl dL_law_1740 ?_
  refine r_iload C (k := 1) rfl dL_law_1743 ?_
  refine r_icmp_eq C (tgt := 1750) rfl dL_law_1745 (fun _ => ?_) (fun h => absurd rfl h)
  refine r_iload C (k := 1) rfl dL_law_1750 ?_
  refine r_if_ne C (tgt := 1767) rfl dL_law_1752 (fun h => absurd rfl h) (fun _ => ?_)
  refine r_aload_n C (k := 6) rfl rfl dL_law_1755 ?_
  refine r_iconst C (v := 0) rfl dL_law_1756 ?_
  refine r_lald C (o := (vp_updL o 0 v.toInt64)) (hM.1 |> fun _ => hW.2.2.2.1 _ hO) rfl dL_law_1757 ?_
  refine r_iload C (k := 0) rfl dL_law_1758 ?_
  refine r_i2l C (v := v.toInt64) rfl dL_law_1760 ?_
  refine r_lcmp C dL_law_1761 ?_
  refine r_if_eq C (tgt := 1767) rfl dL_law_1762 (fun _ => ?_) (fun h => absurd (lgself _) h)
  refine r_goto C (tgt := 3008) rfl dL_law_1767 ?_
  refine r_lo [2, 3, 4, 5, 6] (lo' := [(4, .int i), (0, .ref b), (1, .ref (wAd w (7, 11, 6, 0))), (2, .ref (wAd w (11, 12, 0, 0))), (3, .ref (wAd w (14, 13, 0, 0)))]) rfl ?_
  exact kk
theorem la33X3 {w : WP} (hW : gW w) (hM : gWM w) (hS : gS w) (hZ : gZ w) (hO : wFr w (14, 13, 0, 0)) {X : CX} (C : gC w X cL_law "HedgeMessagesLaw" (some .boolean) 15 9) {b L : Nat} {xs : Nat → Int32} (hX : gSc X b L xs) {S : Nat → Nat → HV} {τ : HV} {o : Nat → Int64} {i : Int32} {p1 : Int32} (h1 : vp_in (i + 1) L ∧ xs (i + 1).toNatClampNeg = p1) (N : Nat) {S' : Nat → Nat → HV} (hF : F_X10_daysUntilPruned N p1 S = some (.inr (3, S'))) {b9 : Int32} {τ' : HV} (hG : F_X11_daysUntilPruned N p1 τ = some (b9, τ')) (ht : F_X11_thrown τ' = 1) {Q1 : State → Prop} {c n : Nat} (hq1 : qOk X (Q1, c + 1, n + 6)) (kk : gU w X (Q1, c + 1, n + 6) (cA w (S', τ', o)) 3008 [(4, .int i), (0, .ref b), (1, .ref (wAd w (7, 11, 6, 0))), (2, .ref (wAd w (11, 12, 0, 0))), (3, .ref (wAd w (14, 13, 0, 0)))] []) : gU w X (Q1, c, n) (cA w (S, τ, o)) 1714 [(4, .int i), (0, .ref b), (1, .ref (wAd w (7, 11, 6, 0))), (2, .ref (wAd w (11, 12, 0, 0))), (3, .ref (wAd w (14, 13, 0, 0)))] [] := by
  have hq : qOk X (Q1, c + 1, n + 6) := hq1
  refine r_aload_n C (k := 2) rfl rfl dL_law_1714 ?_
  refine r_aload_n C (k := 1) rfl rfl dL_law_1715 ?_
  refine r_iload C (k := 0) rfl dL_law_1716 ?_
  refine r_iconst C (v := 1) rfl dL_law_1718 ?_
  refine r_iadd C dL_law_1719 ?_
  refine r_sld C hX h1.1 h1.2 dL_law_1720 ?_
  refine r_aload_n C (k := 4) rfl rfl dL_law_1721 ?_
  refine r_callH C (ny := 3) (d' := 8) (mc := 1) (ms := 6) [.ref (wAd w (7, 11, 6, 0)), .int p1, .ref (wAd w (14, 13, 0, 0))] (xL_daysUntilPruned_3 hW hS hZ (Ω := (S, τ, o)) rfl N p1 hF) cwL_daysUntilPruned rfl wm1_0 wm6_5 ⟨by decide, by decide, by decide +kernel⟩ wm6_4 rfl (kR rfl) (by decide) (kR rfl) rfl dL_law_1722 hq1 ?_
  refine r_istore C (lo' := [(5, .int 1), (4, .int i), (0, .ref b), (1, .ref (wAd w (7, 11, 6, 0))), (2, .ref (wAd w (11, 12, 0, 0))), (3, .ref (wAd w (14, 13, 0, 0)))]) (by decide) rfl dL_law_1725 ?_
  refine r_aload_n C (k := 4) rfl rfl dL_law_1727 ?_
  refine r_aload_n C (k := 2) rfl rfl dL_law_1728 ?_
  refine r_iload C (k := 1) rfl dL_law_1729 ?_
  refine r_iconst C (v := 1) rfl dL_law_1731 ?_
  refine r_iadd C dL_law_1732 ?_
  refine r_sld C hX h1.1 h1.2 dL_law_1733 ?_
  refine r_callV C (d' := 10) [.int p1] (c_X11_daysUntilPruned hM (Ω := (S', τ, o)) rfl N p1 hG rfl) myX11_daysUntilPruned wm9_20 ⟨_, _, _, _, (hM.ok k11), rfl, rfl, rfl, rfl⟩ rfl (kR rfl) (by decide) (kR rfl) rfl dL_law_1734 ?_
  refine r_istore C (lo' := [(6, .int b9), (5, .int 1), (4, .int i), (0, .ref b), (1, .ref (wAd w (7, 11, 6, 0))), (2, .ref (wAd w (11, 12, 0, 0))), (3, .ref (wAd w (14, 13, 0, 0)))]) (by decide) rfl dL_law_1737 ?_
  refine r_aload_n C (k := 5) rfl rfl dL_law_1739 ?_
  refine r_callV C (d' := 0) [] (c_X11_thrown hM (Ω := (S', τ', o)) rfl ht) myX11_thrown wm7_137 ⟨_, _, _, _, (hM.ok k11), rfl, rfl, rfl, rfl⟩ rfl (kR rfl) (by decide) (kR rfl) rfl dL_law_1740 ?_
  refine r_iload C (k := 1) rfl dL_law_1743 ?_
  refine r_icmp_eq C (tgt := 1750) rfl dL_law_1745 (fun _ => ?_) (fun h => absurd rfl h)
  refine r_iload C (k := 1) rfl dL_law_1750 ?_
  refine r_if_ne C (tgt := 1767) rfl dL_law_1752 (fun _ => ?_) (fun h => absurd h (by decide))
  refine r_goto C (tgt := 3008) rfl dL_law_1767 ?_
  refine r_lo [2, 3, 4, 5, 6] (lo' := [(4, .int i), (0, .ref b), (1, .ref (wAd w (7, 11, 6, 0))), (2, .ref (wAd w (11, 12, 0, 0))), (3, .ref (wAd w (14, 13, 0, 0)))]) rfl ?_
  exact kk
theorem la34N {w : WP} (hW : gW w) (hM : gWM w) (hS : gS w) (hZ : gZ w) (hO : wFr w (14, 13, 0, 0)) {X : CX} (C : gC w X cL_law "HedgeMessagesLaw" (some .boolean) 15 9) {b L : Nat} {xs : Nat → Int32} (hX : gSc X b L xs) {S : Nat → Nat → HV} {τ : HV} {o : Nat → Int64} {i : Int32} {p1 : Int32} (h1 : vp_in (i + 1) L ∧ xs (i + 1).toNatClampNeg = p1) {p2 : Int32} (h2 : vp_in (i + 2) L ∧ xs (i + 2).toNatClampNeg = p2) (N : Nat) {v : Int32} {S' : Nat → Nat → HV} (hF : F_X10_deliveredAfter N p1 p2 S = some (.inl (v, S'))) {τ' : HV} (hG : F_X11_deliveredAfter N p1 p2 τ = some (v, τ')) (ht : F_X11_thrown τ' = 0) {Q1 : State → Prop} {c n : Nat} (hq : qOk X (Q1, c, n)) (kk : gU w X (Q1, c, n) (cA w (S', τ', (vp_updL o 0 v.toInt64))) 3008 [(4, .int i), (0, .ref b), (1, .ref (wAd w (7, 11, 6, 0))), (2, .ref (wAd w (11, 12, 0, 0))), (3, .ref (wAd w (14, 13, 0, 0)))] []) : gU w X (Q1, c, n) (cA w (S, τ, o)) 1770 [(4, .int i), (0, .ref b), (1, .ref (wAd w (7, 11, 6, 0))), (2, .ref (wAd w (11, 12, 0, 0))), (3, .ref (wAd w (14, 13, 0, 0)))] [] := by
  refine r_aload_n C (k := 2) rfl rfl dL_law_1770 ?_
  refine r_aload_n C (k := 1) rfl rfl dL_law_1771 ?_
  refine r_iload C (k := 0) rfl dL_law_1772 ?_
  refine r_iconst C (v := 1) rfl dL_law_1774 ?_
  refine r_iadd C dL_law_1775 ?_
  refine r_sld C hX h1.1 h1.2 dL_law_1776 ?_
  refine r_aload_n C (k := 1) rfl rfl dL_law_1777 ?_
  refine r_iload C (k := 0) rfl dL_law_1778 ?_
  refine r_iconst C (v := 2) rfl dL_law_1780 ?_
  refine r_iadd C dL_law_1781 ?_
  refine r_sld C hX h2.1 h2.2 dL_law_1782 ?_
  refine r_aload_n C (k := 4) rfl rfl dL_law_1783 ?_
  refine r_callH C (ny := 4) (d' := 8) (mc := 0) (ms := 0) [.ref (wAd w (7, 11, 6, 0)), .int p1, .int p2, .ref (wAd w (14, 13, 0, 0))] (kL_deliveredAfter hW hS hO (Ω := (S, τ, o)) rfl N p1 p2 hF) cwL_deliveredAfter rfl wm1_0 wm6_12 ⟨by decide, by decide, by decide +kernel⟩ wm6_11 rfl (kR rfl) (by decide) (kR rfl) rfl dL_law_1784 hq ?_
  refine r_istore C (lo' := [(5, .int 0), (4, .int i), (0, .ref b), (1, .ref (wAd w (7, 11, 6, 0))), (2, .ref (wAd w (11, 12, 0, 0))), (3, .ref (wAd w (14, 13, 0, 0)))]) (by decide) rfl dL_law_1787 ?_
  refine r_aload_n C (k := 4) rfl rfl dL_law_1789 ?_
  refine r_aload_n C (k := 2) rfl rfl dL_law_1790 ?_
  refine r_iload C (k := 1) rfl dL_law_1791 ?_
  refine r_iconst C (v := 1) rfl dL_law_1793 ?_
  refine r_iadd C dL_law_1794 ?_
  refine r_sld C hX h1.1 h1.2 dL_law_1795 ?_
  refine r_aload_n C (k := 2) rfl rfl dL_law_1796 ?_
  refine r_iload C (k := 1) rfl dL_law_1797 ?_
  refine r_iconst C (v := 2) rfl dL_law_1799 ?_
  refine r_iadd C dL_law_1800 ?_
  refine r_sld C hX h2.1 h2.2 dL_law_1801 ?_
  refine r_callV C (d' := 11) [.int p1, .int p2] (c_X11_deliveredAfter hM (Ω := (S', τ, (vp_updL o 0 v.toInt64))) rfl N p1 p2 hG rfl) myX11_deliveredAfter wm9_32 ⟨_, _, _, _, (hM.ok k11), rfl, rfl, rfl, rfl⟩ rfl (kR rfl) (by decide) (kR rfl) rfl dL_law_1802 ?_
  refine r_istore C (lo' := [(6, .int v), (5, .int 0), (4, .int i), (0, .ref b), (1, .ref (wAd w (7, 11, 6, 0))), (2, .ref (wAd w (11, 12, 0, 0))), (3, .ref (wAd w (14, 13, 0, 0)))]) (by decide) rfl dL_law_1805 ?_
  refine r_aload_n C (k := 5) rfl rfl dL_law_1807 ?_
  refine r_callV C (d' := 0) [] (c_X11_thrown hM (Ω := (S', τ', (vp_updL o 0 v.toInt64))) rfl ht) myX11_thrown wm7_137 ⟨_, _, _, _, (hM.ok k11), rfl, rfl, rfl, rfl⟩ rfl (kR rfl) (by decide) (kR rfl) rfl dL_law_1808 ?_
  refine r_iload C (k := 1) rfl dL_law_1811 ?_
  refine r_icmp_eq C (tgt := 1818) rfl dL_law_1813 (fun _ => ?_) (fun h => absurd rfl h)
  refine r_iload C (k := 1) rfl dL_law_1818 ?_
  refine r_if_ne C (tgt := 1835) rfl dL_law_1820 (fun h => absurd rfl h) (fun _ => ?_)
  refine r_aload_n C (k := 6) rfl rfl dL_law_1823 ?_
  refine r_iconst C (v := 0) rfl dL_law_1824 ?_
  refine r_lald C (o := (vp_updL o 0 v.toInt64)) (hM.1 |> fun _ => hW.2.2.2.1 _ hO) rfl dL_law_1825 ?_
  refine r_iload C (k := 0) rfl dL_law_1826 ?_
  refine r_i2l C (v := v.toInt64) rfl dL_law_1828 ?_
  refine r_lcmp C dL_law_1829 ?_
  refine r_if_eq C (tgt := 1835) rfl dL_law_1830 (fun _ => ?_) (fun h => absurd (lgself _) h)
  refine r_goto C (tgt := 3008) rfl dL_law_1835 ?_
  refine r_lo [2, 3, 4, 5, 6] (lo' := [(4, .int i), (0, .ref b), (1, .ref (wAd w (7, 11, 6, 0))), (2, .ref (wAd w (11, 12, 0, 0))), (3, .ref (wAd w (14, 13, 0, 0)))]) rfl ?_
  exact kk
theorem la34X2 {w : WP} (hW : gW w) (hM : gWM w) (hS : gS w) (hZ : gZ w) (hO : wFr w (14, 13, 0, 0)) {X : CX} (C : gC w X cL_law "HedgeMessagesLaw" (some .boolean) 15 9) {b L : Nat} {xs : Nat → Int32} (hX : gSc X b L xs) {S : Nat → Nat → HV} {τ : HV} {o : Nat → Int64} {i : Int32} {p1 : Int32} (h1 : vp_in (i + 1) L ∧ xs (i + 1).toNatClampNeg = p1) {p2 : Int32} (h2 : vp_in (i + 2) L ∧ xs (i + 2).toNatClampNeg = p2) (N : Nat) {S' : Nat → Nat → HV} (hF : F_X10_deliveredAfter N p1 p2 S = some (.inr (2, S'))) {b9 : Int32} {τ' : HV} (hG : F_X11_deliveredAfter N p1 p2 τ = some (b9, τ')) (ht : F_X11_thrown τ' = 1) {Q1 : State → Prop} {c n : Nat} (hq1 : qOk X (Q1, c + 1, n + 6)) (kk : gU w X (Q1, c + 1, n + 6) (cA w (S', τ', o)) 3008 [(4, .int i), (0, .ref b), (1, .ref (wAd w (7, 11, 6, 0))), (2, .ref (wAd w (11, 12, 0, 0))), (3, .ref (wAd w (14, 13, 0, 0)))] []) : gU w X (Q1, c, n) (cA w (S, τ, o)) 1770 [(4, .int i), (0, .ref b), (1, .ref (wAd w (7, 11, 6, 0))), (2, .ref (wAd w (11, 12, 0, 0))), (3, .ref (wAd w (14, 13, 0, 0)))] [] := by
  have hq : qOk X (Q1, c + 1, n + 6) := hq1
  refine r_aload_n C (k := 2) rfl rfl dL_law_1770 ?_
  refine r_aload_n C (k := 1) rfl rfl dL_law_1771 ?_
  refine r_iload C (k := 0) rfl dL_law_1772 ?_
  refine r_iconst C (v := 1) rfl dL_law_1774 ?_
  refine r_iadd C dL_law_1775 ?_
  refine r_sld C hX h1.1 h1.2 dL_law_1776 ?_
  refine r_aload_n C (k := 1) rfl rfl dL_law_1777 ?_
  refine r_iload C (k := 0) rfl dL_law_1778 ?_
  refine r_iconst C (v := 2) rfl dL_law_1780 ?_
  refine r_iadd C dL_law_1781 ?_
  refine r_sld C hX h2.1 h2.2 dL_law_1782 ?_
  refine r_aload_n C (k := 4) rfl rfl dL_law_1783 ?_
  refine r_callH C (ny := 4) (d' := 8) (mc := 1) (ms := 6) [.ref (wAd w (7, 11, 6, 0)), .int p1, .int p2, .ref (wAd w (14, 13, 0, 0))] (xL_deliveredAfter_2 hW hS hZ (Ω := (S, τ, o)) rfl N p1 p2 hF) cwL_deliveredAfter rfl wm1_0 wm6_12 ⟨by decide, by decide, by decide +kernel⟩ wm6_11 rfl (kR rfl) (by decide) (kR rfl) rfl dL_law_1784 hq1 ?_
  refine r_istore C (lo' := [(5, .int 1), (4, .int i), (0, .ref b), (1, .ref (wAd w (7, 11, 6, 0))), (2, .ref (wAd w (11, 12, 0, 0))), (3, .ref (wAd w (14, 13, 0, 0)))]) (by decide) rfl dL_law_1787 ?_
  refine r_aload_n C (k := 4) rfl rfl dL_law_1789 ?_
  refine r_aload_n C (k := 2) rfl rfl dL_law_1790 ?_
  refine r_iload C (k := 1) rfl dL_law_1791 ?_
  refine r_iconst C (v := 1) rfl dL_law_1793 ?_
  refine r_iadd C dL_law_1794 ?_
  refine r_sld C hX h1.1 h1.2 dL_law_1795 ?_
  refine r_aload_n C (k := 2) rfl rfl dL_law_1796 ?_
  refine r_iload C (k := 1) rfl dL_law_1797 ?_
  refine r_iconst C (v := 2) rfl dL_law_1799 ?_
  refine r_iadd C dL_law_1800 ?_
  refine r_sld C hX h2.1 h2.2 dL_law_1801 ?_
  refine r_callV C (d' := 11) [.int p1, .int p2] (c_X11_deliveredAfter hM (Ω := (S', τ, o)) rfl N p1 p2 hG rfl) myX11_deliveredAfter wm9_32 ⟨_, _, _, _, (hM.ok k11), rfl, rfl, rfl, rfl⟩ rfl (kR rfl) (by decide) (kR rfl) rfl dL_law_1802 ?_
  refine r_istore C (lo' := [(6, .int b9), (5, .int 1), (4, .int i), (0, .ref b), (1, .ref (wAd w (7, 11, 6, 0))), (2, .ref (wAd w (11, 12, 0, 0))), (3, .ref (wAd w (14, 13, 0, 0)))]) (by decide) rfl dL_law_1805 ?_
  refine r_aload_n C (k := 5) rfl rfl dL_law_1807 ?_
  refine r_callV C (d' := 0) [] (c_X11_thrown hM (Ω := (S', τ', o)) rfl ht) myX11_thrown wm7_137 ⟨_, _, _, _, (hM.ok k11), rfl, rfl, rfl, rfl⟩ rfl (kR rfl) (by decide) (kR rfl) rfl dL_law_1808 ?_
  refine r_iload C (k := 1) rfl dL_law_1811 ?_
  refine r_icmp_eq C (tgt := 1818) rfl dL_law_1813 (fun _ => ?_) (fun h => absurd rfl h)
  refine r_iload C (k := 1) rfl dL_law_1818 ?_
  refine r_if_ne C (tgt := 1835) rfl dL_law_1820 (fun _ => ?_) (fun h => absurd h (by decide))
  refine r_goto C (tgt := 3008) rfl dL_law_1835 ?_
  refine r_lo [2, 3, 4, 5, 6] (lo' := [(4, .int i), (0, .ref b), (1, .ref (wAd w (7, 11, 6, 0))), (2, .ref (wAd w (11, 12, 0, 0))), (3, .ref (wAd w (14, 13, 0, 0)))]) rfl ?_
  exact kk
theorem la35N {w : WP} (hW : gW w) (hM : gWM w) (hS : gS w) (hZ : gZ w) (hO : wFr w (14, 13, 0, 0)) {X : CX} (C : gC w X cL_law "HedgeMessagesLaw" (some .boolean) 15 9) {b L : Nat} {xs : Nat → Int32} (hX : gSc X b L xs) {S : Nat → Nat → HV} {τ : HV} {o : Nat → Int64} {i : Int32} {p1 : Int32} (h1 : vp_in (i + 1) L ∧ xs (i + 1).toNatClampNeg = p1) {p2 : Int32} (h2 : vp_in (i + 2) L ∧ xs (i + 2).toNatClampNeg = p2) (N : Nat) {v : Int32} {S' : Nat → Nat → HV} (hF : F_X10_pendingAfter N p1 p2 S = some (.inl (v, S'))) {τ' : HV} (hG : F_X11_pendingAfter N p1 p2 τ = some (v, τ')) (ht : F_X11_thrown τ' = 0) {Q1 : State → Prop} {c n : Nat} (hq : qOk X (Q1, c, n)) (kk : gU w X (Q1, c, n) (cA w (S', τ', (vp_updL o 0 v.toInt64))) 3008 [(4, .int i), (0, .ref b), (1, .ref (wAd w (7, 11, 6, 0))), (2, .ref (wAd w (11, 12, 0, 0))), (3, .ref (wAd w (14, 13, 0, 0)))] []) : gU w X (Q1, c, n) (cA w (S, τ, o)) 1838 [(4, .int i), (0, .ref b), (1, .ref (wAd w (7, 11, 6, 0))), (2, .ref (wAd w (11, 12, 0, 0))), (3, .ref (wAd w (14, 13, 0, 0)))] [] := by
  refine r_aload_n C (k := 2) rfl rfl dL_law_1838 ?_
  refine r_aload_n C (k := 1) rfl rfl dL_law_1839 ?_
  refine r_iload C (k := 0) rfl dL_law_1840 ?_
  refine r_iconst C (v := 1) rfl dL_law_1842 ?_
  refine r_iadd C dL_law_1843 ?_
  refine r_sld C hX h1.1 h1.2 dL_law_1844 ?_
  refine r_aload_n C (k := 1) rfl rfl dL_law_1845 ?_
  refine r_iload C (k := 0) rfl dL_law_1846 ?_
  refine r_iconst C (v := 2) rfl dL_law_1848 ?_
  refine r_iadd C dL_law_1849 ?_
  refine r_sld C hX h2.1 h2.2 dL_law_1850 ?_
  refine r_aload_n C (k := 4) rfl rfl dL_law_1851 ?_
  refine r_callH C (ny := 4) (d' := 8) (mc := 0) (ms := 0) [.ref (wAd w (7, 11, 6, 0)), .int p1, .int p2, .ref (wAd w (14, 13, 0, 0))] (kL_pendingAfter hW hS hO (Ω := (S, τ, o)) rfl N p1 p2 hF) cwL_pendingAfter rfl wm1_0 wm6_27 ⟨by decide, by decide, by decide +kernel⟩ wm6_26 rfl (kR rfl) (by decide) (kR rfl) rfl dL_law_1852 hq ?_
  refine r_istore C (lo' := [(5, .int 0), (4, .int i), (0, .ref b), (1, .ref (wAd w (7, 11, 6, 0))), (2, .ref (wAd w (11, 12, 0, 0))), (3, .ref (wAd w (14, 13, 0, 0)))]) (by decide) rfl dL_law_1855 ?_
  refine r_aload_n C (k := 4) rfl rfl dL_law_1857 ?_
  refine r_aload_n C (k := 2) rfl rfl dL_law_1858 ?_
  refine r_iload C (k := 1) rfl dL_law_1859 ?_
  refine r_iconst C (v := 1) rfl dL_law_1861 ?_
  refine r_iadd C dL_law_1862 ?_
  refine r_sld C hX h1.1 h1.2 dL_law_1863 ?_
  refine r_aload_n C (k := 2) rfl rfl dL_law_1864 ?_
  refine r_iload C (k := 1) rfl dL_law_1865 ?_
  refine r_iconst C (v := 2) rfl dL_law_1867 ?_
  refine r_iadd C dL_law_1868 ?_
  refine r_sld C hX h2.1 h2.2 dL_law_1869 ?_
  refine r_callV C (d' := 11) [.int p1, .int p2] (c_X11_pendingAfter hM (Ω := (S', τ, (vp_updL o 0 v.toInt64))) rfl N p1 p2 hG rfl) myX11_pendingAfter wm9_40 ⟨_, _, _, _, (hM.ok k11), rfl, rfl, rfl, rfl⟩ rfl (kR rfl) (by decide) (kR rfl) rfl dL_law_1870 ?_
  refine r_istore C (lo' := [(6, .int v), (5, .int 0), (4, .int i), (0, .ref b), (1, .ref (wAd w (7, 11, 6, 0))), (2, .ref (wAd w (11, 12, 0, 0))), (3, .ref (wAd w (14, 13, 0, 0)))]) (by decide) rfl dL_law_1873 ?_
  refine r_aload_n C (k := 5) rfl rfl dL_law_1875 ?_
  refine r_callV C (d' := 0) [] (c_X11_thrown hM (Ω := (S', τ', (vp_updL o 0 v.toInt64))) rfl ht) myX11_thrown wm7_137 ⟨_, _, _, _, (hM.ok k11), rfl, rfl, rfl, rfl⟩ rfl (kR rfl) (by decide) (kR rfl) rfl dL_law_1876 ?_
  refine r_iload C (k := 1) rfl dL_law_1879 ?_
  refine r_icmp_eq C (tgt := 1886) rfl dL_law_1881 (fun _ => ?_) (fun h => absurd rfl h)
  refine r_iload C (k := 1) rfl dL_law_1886 ?_
  refine r_if_ne C (tgt := 1903) rfl dL_law_1888 (fun h => absurd rfl h) (fun _ => ?_)
  refine r_aload_n C (k := 6) rfl rfl dL_law_1891 ?_
  refine r_iconst C (v := 0) rfl dL_law_1892 ?_
  refine r_lald C (o := (vp_updL o 0 v.toInt64)) (hM.1 |> fun _ => hW.2.2.2.1 _ hO) rfl dL_law_1893 ?_
  refine r_iload C (k := 0) rfl dL_law_1894 ?_
  refine r_i2l C (v := v.toInt64) rfl dL_law_1896 ?_
  refine r_lcmp C dL_law_1897 ?_
  refine r_if_eq C (tgt := 1903) rfl dL_law_1898 (fun _ => ?_) (fun h => absurd (lgself _) h)
  refine r_goto C (tgt := 3008) rfl dL_law_1903 ?_
  refine r_lo [2, 3, 4, 5, 6] (lo' := [(4, .int i), (0, .ref b), (1, .ref (wAd w (7, 11, 6, 0))), (2, .ref (wAd w (11, 12, 0, 0))), (3, .ref (wAd w (14, 13, 0, 0)))]) rfl ?_
  exact kk
theorem la35X2 {w : WP} (hW : gW w) (hM : gWM w) (hS : gS w) (hZ : gZ w) (hO : wFr w (14, 13, 0, 0)) {X : CX} (C : gC w X cL_law "HedgeMessagesLaw" (some .boolean) 15 9) {b L : Nat} {xs : Nat → Int32} (hX : gSc X b L xs) {S : Nat → Nat → HV} {τ : HV} {o : Nat → Int64} {i : Int32} {p1 : Int32} (h1 : vp_in (i + 1) L ∧ xs (i + 1).toNatClampNeg = p1) {p2 : Int32} (h2 : vp_in (i + 2) L ∧ xs (i + 2).toNatClampNeg = p2) (N : Nat) {S' : Nat → Nat → HV} (hF : F_X10_pendingAfter N p1 p2 S = some (.inr (2, S'))) {b9 : Int32} {τ' : HV} (hG : F_X11_pendingAfter N p1 p2 τ = some (b9, τ')) (ht : F_X11_thrown τ' = 1) {Q1 : State → Prop} {c n : Nat} (hq1 : qOk X (Q1, c + 1, n + 6)) (kk : gU w X (Q1, c + 1, n + 6) (cA w (S', τ', o)) 3008 [(4, .int i), (0, .ref b), (1, .ref (wAd w (7, 11, 6, 0))), (2, .ref (wAd w (11, 12, 0, 0))), (3, .ref (wAd w (14, 13, 0, 0)))] []) : gU w X (Q1, c, n) (cA w (S, τ, o)) 1838 [(4, .int i), (0, .ref b), (1, .ref (wAd w (7, 11, 6, 0))), (2, .ref (wAd w (11, 12, 0, 0))), (3, .ref (wAd w (14, 13, 0, 0)))] [] := by
  have hq : qOk X (Q1, c + 1, n + 6) := hq1
  refine r_aload_n C (k := 2) rfl rfl dL_law_1838 ?_
  refine r_aload_n C (k := 1) rfl rfl dL_law_1839 ?_
  refine r_iload C (k := 0) rfl dL_law_1840 ?_
  refine r_iconst C (v := 1) rfl dL_law_1842 ?_
  refine r_iadd C dL_law_1843 ?_
  refine r_sld C hX h1.1 h1.2 dL_law_1844 ?_
  refine r_aload_n C (k := 1) rfl rfl dL_law_1845 ?_
  refine r_iload C (k := 0) rfl dL_law_1846 ?_
  refine r_iconst C (v := 2) rfl dL_law_1848 ?_
  refine r_iadd C dL_law_1849 ?_
  refine r_sld C hX h2.1 h2.2 dL_law_1850 ?_
  refine r_aload_n C (k := 4) rfl rfl dL_law_1851 ?_
  refine r_callH C (ny := 4) (d' := 8) (mc := 1) (ms := 6) [.ref (wAd w (7, 11, 6, 0)), .int p1, .int p2, .ref (wAd w (14, 13, 0, 0))] (xL_pendingAfter_2 hW hS hZ (Ω := (S, τ, o)) rfl N p1 p2 hF) cwL_pendingAfter rfl wm1_0 wm6_27 ⟨by decide, by decide, by decide +kernel⟩ wm6_26 rfl (kR rfl) (by decide) (kR rfl) rfl dL_law_1852 hq1 ?_
  refine r_istore C (lo' := [(5, .int 1), (4, .int i), (0, .ref b), (1, .ref (wAd w (7, 11, 6, 0))), (2, .ref (wAd w (11, 12, 0, 0))), (3, .ref (wAd w (14, 13, 0, 0)))]) (by decide) rfl dL_law_1855 ?_
  refine r_aload_n C (k := 4) rfl rfl dL_law_1857 ?_
  refine r_aload_n C (k := 2) rfl rfl dL_law_1858 ?_
  refine r_iload C (k := 1) rfl dL_law_1859 ?_
  refine r_iconst C (v := 1) rfl dL_law_1861 ?_
  refine r_iadd C dL_law_1862 ?_
  refine r_sld C hX h1.1 h1.2 dL_law_1863 ?_
  refine r_aload_n C (k := 2) rfl rfl dL_law_1864 ?_
  refine r_iload C (k := 1) rfl dL_law_1865 ?_
  refine r_iconst C (v := 2) rfl dL_law_1867 ?_
  refine r_iadd C dL_law_1868 ?_
  refine r_sld C hX h2.1 h2.2 dL_law_1869 ?_
  refine r_callV C (d' := 11) [.int p1, .int p2] (c_X11_pendingAfter hM (Ω := (S', τ, o)) rfl N p1 p2 hG rfl) myX11_pendingAfter wm9_40 ⟨_, _, _, _, (hM.ok k11), rfl, rfl, rfl, rfl⟩ rfl (kR rfl) (by decide) (kR rfl) rfl dL_law_1870 ?_
  refine r_istore C (lo' := [(6, .int b9), (5, .int 1), (4, .int i), (0, .ref b), (1, .ref (wAd w (7, 11, 6, 0))), (2, .ref (wAd w (11, 12, 0, 0))), (3, .ref (wAd w (14, 13, 0, 0)))]) (by decide) rfl dL_law_1873 ?_
  refine r_aload_n C (k := 5) rfl rfl dL_law_1875 ?_
  refine r_callV C (d' := 0) [] (c_X11_thrown hM (Ω := (S', τ', o)) rfl ht) myX11_thrown wm7_137 ⟨_, _, _, _, (hM.ok k11), rfl, rfl, rfl, rfl⟩ rfl (kR rfl) (by decide) (kR rfl) rfl dL_law_1876 ?_
  refine r_iload C (k := 1) rfl dL_law_1879 ?_
  refine r_icmp_eq C (tgt := 1886) rfl dL_law_1881 (fun _ => ?_) (fun h => absurd rfl h)
  refine r_iload C (k := 1) rfl dL_law_1886 ?_
  refine r_if_ne C (tgt := 1903) rfl dL_law_1888 (fun _ => ?_) (fun h => absurd h (by decide))
  refine r_goto C (tgt := 3008) rfl dL_law_1903 ?_
  refine r_lo [2, 3, 4, 5, 6] (lo' := [(4, .int i), (0, .ref b), (1, .ref (wAd w (7, 11, 6, 0))), (2, .ref (wAd w (11, 12, 0, 0))), (3, .ref (wAd w (14, 13, 0, 0)))]) rfl ?_
  exact kk
theorem la36N {w : WP} (hW : gW w) (hM : gWM w) (hS : gS w) (hZ : gZ w) (hO : wFr w (14, 13, 0, 0)) {X : CX} (C : gC w X cL_law "HedgeMessagesLaw" (some .boolean) 15 9) {b L : Nat} {xs : Nat → Int32} (hX : gSc X b L xs) {S : Nat → Nat → HV} {τ : HV} {o : Nat → Int64} {i : Int32} (N : Nat) {v : Int32} (hF : F_X10_bestNestSlot N S = some v) {τ' : HV} (hG : F_X11_bestNestSlot N τ = some (v, τ')) {Q1 : State → Prop} {c n : Nat} (hq : qOk X (Q1, c, n)) (kk : gU w X (Q1, c, n) (cA w (S, τ', o)) 3008 [(4, .int i), (0, .ref b), (1, .ref (wAd w (7, 11, 6, 0))), (2, .ref (wAd w (11, 12, 0, 0))), (3, .ref (wAd w (14, 13, 0, 0)))] []) : gU w X (Q1, c, n) (cA w (S, τ, o)) 1906 [(4, .int i), (0, .ref b), (1, .ref (wAd w (7, 11, 6, 0))), (2, .ref (wAd w (11, 12, 0, 0))), (3, .ref (wAd w (14, 13, 0, 0)))] [] := by
  refine r_aload_n C (k := 2) rfl rfl dL_law_1906 ?_
  refine r_callV C (d' := 5) [] (c_X10_bestNestSlot hW (Ω := (S, τ, o)) rfl N  hF) myX10_bestNestSlot wm3_41 ⟨_, _, _, _, (hW.ok k7), rfl, rfl, rfl, rfl⟩ rfl (kR rfl) (by decide) (kR rfl) rfl dL_law_1907 ?_
  refine r_aload_n C (k := 3) rfl rfl dL_law_1910 ?_
  refine r_callV C (d' := 6) [] (c_X11_bestNestSlot hM (Ω := (S, τ, o)) rfl N  hG rfl) myX11_bestNestSlot wm9_44 ⟨_, _, _, _, (hM.ok k11), rfl, rfl, rfl, rfl⟩ rfl (kR rfl) (by decide) (kR rfl) rfl dL_law_1911 ?_
  refine r_icmp_eq C (tgt := 3008) rfl dL_law_1914 (fun _ => ?_) (fun h => absurd rfl h)
  exact kk
theorem la37N {w : WP} (hW : gW w) (hM : gWM w) (hS : gS w) (hZ : gZ w) (hO : wFr w (14, 13, 0, 0)) {X : CX} (C : gC w X cL_law "HedgeMessagesLaw" (some .boolean) 15 9) {b L : Nat} {xs : Nat → Int32} (hX : gSc X b L xs) {S : Nat → Nat → HV} {τ : HV} {o : Nat → Int64} {i : Int32} {p1 : Int32} (h1 : vp_in (i + 1) L ∧ xs (i + 1).toNatClampNeg = p1) {p2 : Int32} (h2 : vp_in (i + 2) L ∧ xs (i + 2).toNatClampNeg = p2) (N : Nat) {v : Int32} {S' : Nat → Nat → HV} (hF : F_X10_leastWorkLimit N p1 p2 S = some (.inl (v, S'))) {τ' : HV} (hG : F_X11_leastWorkLimit N p1 p2 τ = some (v, τ')) (ht : F_X11_thrown τ' = 0) {Q1 : State → Prop} {c n : Nat} (hq : qOk X (Q1, c, n)) (kk : gU w X (Q1, c, n) (cA w (S', τ', (vp_updL o 0 v.toInt64))) 3008 [(4, .int i), (0, .ref b), (1, .ref (wAd w (7, 11, 6, 0))), (2, .ref (wAd w (11, 12, 0, 0))), (3, .ref (wAd w (14, 13, 0, 0)))] []) : gU w X (Q1, c, n) (cA w (S, τ, o)) 1919 [(4, .int i), (0, .ref b), (1, .ref (wAd w (7, 11, 6, 0))), (2, .ref (wAd w (11, 12, 0, 0))), (3, .ref (wAd w (14, 13, 0, 0)))] [] := by
  refine r_aload_n C (k := 2) rfl rfl dL_law_1919 ?_
  refine r_aload_n C (k := 1) rfl rfl dL_law_1920 ?_
  refine r_iload C (k := 0) rfl dL_law_1921 ?_
  refine r_iconst C (v := 1) rfl dL_law_1923 ?_
  refine r_iadd C dL_law_1924 ?_
  refine r_sld C hX h1.1 h1.2 dL_law_1925 ?_
  refine r_aload_n C (k := 1) rfl rfl dL_law_1926 ?_
  refine r_iload C (k := 0) rfl dL_law_1927 ?_
  refine r_iconst C (v := 2) rfl dL_law_1929 ?_
  refine r_iadd C dL_law_1930 ?_
  refine r_sld C hX h2.1 h2.2 dL_law_1931 ?_
  refine r_aload_n C (k := 4) rfl rfl dL_law_1932 ?_
  refine r_callH C (ny := 4) (d' := 8) (mc := 0) (ms := 0) [.ref (wAd w (7, 11, 6, 0)), .int p1, .int p2, .ref (wAd w (14, 13, 0, 0))] (kL_leastWorkLimit hW hS hO (Ω := (S, τ, o)) rfl N p1 p2 hF) cwL_leastWorkLimit rfl wm1_0 wm6_34 ⟨by decide, by decide, by decide +kernel⟩ wm6_33 rfl (kR rfl) (by decide) (kR rfl) rfl dL_law_1933 hq ?_
  refine r_istore C (lo' := [(5, .int 0), (4, .int i), (0, .ref b), (1, .ref (wAd w (7, 11, 6, 0))), (2, .ref (wAd w (11, 12, 0, 0))), (3, .ref (wAd w (14, 13, 0, 0)))]) (by decide) rfl dL_law_1936 ?_
  refine r_aload_n C (k := 4) rfl rfl dL_law_1938 ?_
  refine r_aload_n C (k := 2) rfl rfl dL_law_1939 ?_
  refine r_iload C (k := 1) rfl dL_law_1940 ?_
  refine r_iconst C (v := 1) rfl dL_law_1942 ?_
  refine r_iadd C dL_law_1943 ?_
  refine r_sld C hX h1.1 h1.2 dL_law_1944 ?_
  refine r_aload_n C (k := 2) rfl rfl dL_law_1945 ?_
  refine r_iload C (k := 1) rfl dL_law_1946 ?_
  refine r_iconst C (v := 2) rfl dL_law_1948 ?_
  refine r_iadd C dL_law_1949 ?_
  refine r_sld C hX h2.1 h2.2 dL_law_1950 ?_
  refine r_callV C (d' := 11) [.int p1, .int p2] (c_X11_leastWorkLimit hM (Ω := (S', τ, (vp_updL o 0 v.toInt64))) rfl N p1 p2 hG rfl) myX11_leastWorkLimit wm9_52 ⟨_, _, _, _, (hM.ok k11), rfl, rfl, rfl, rfl⟩ rfl (kR rfl) (by decide) (kR rfl) rfl dL_law_1951 ?_
  refine r_istore C (lo' := [(6, .int v), (5, .int 0), (4, .int i), (0, .ref b), (1, .ref (wAd w (7, 11, 6, 0))), (2, .ref (wAd w (11, 12, 0, 0))), (3, .ref (wAd w (14, 13, 0, 0)))]) (by decide) rfl dL_law_1954 ?_
  refine r_aload_n C (k := 5) rfl rfl dL_law_1956 ?_
  refine r_callV C (d' := 0) [] (c_X11_thrown hM (Ω := (S', τ', (vp_updL o 0 v.toInt64))) rfl ht) myX11_thrown wm7_137 ⟨_, _, _, _, (hM.ok k11), rfl, rfl, rfl, rfl⟩ rfl (kR rfl) (by decide) (kR rfl) rfl dL_law_1957 ?_
  refine r_iload C (k := 1) rfl dL_law_1960 ?_
  refine r_icmp_eq C (tgt := 1967) rfl dL_law_1962 (fun _ => ?_) (fun h => absurd rfl h)
  refine r_iload C (k := 1) rfl dL_law_1967 ?_
  refine r_if_ne C (tgt := 1984) rfl dL_law_1969 (fun h => absurd rfl h) (fun _ => ?_)
  refine r_aload_n C (k := 6) rfl rfl dL_law_1972 ?_
  refine r_iconst C (v := 0) rfl dL_law_1973 ?_
  refine r_lald C (o := (vp_updL o 0 v.toInt64)) (hM.1 |> fun _ => hW.2.2.2.1 _ hO) rfl dL_law_1974 ?_
  refine r_iload C (k := 0) rfl dL_law_1975 ?_
  refine r_i2l C (v := v.toInt64) rfl dL_law_1977 ?_
  refine r_lcmp C dL_law_1978 ?_
  refine r_if_eq C (tgt := 1984) rfl dL_law_1979 (fun _ => ?_) (fun h => absurd (lgself _) h)
  refine r_goto C (tgt := 3008) rfl dL_law_1984 ?_
  refine r_lo [2, 3, 4, 5, 6] (lo' := [(4, .int i), (0, .ref b), (1, .ref (wAd w (7, 11, 6, 0))), (2, .ref (wAd w (11, 12, 0, 0))), (3, .ref (wAd w (14, 13, 0, 0)))]) rfl ?_
  exact kk
theorem la37X2 {w : WP} (hW : gW w) (hM : gWM w) (hS : gS w) (hZ : gZ w) (hO : wFr w (14, 13, 0, 0)) {X : CX} (C : gC w X cL_law "HedgeMessagesLaw" (some .boolean) 15 9) {b L : Nat} {xs : Nat → Int32} (hX : gSc X b L xs) {S : Nat → Nat → HV} {τ : HV} {o : Nat → Int64} {i : Int32} {p1 : Int32} (h1 : vp_in (i + 1) L ∧ xs (i + 1).toNatClampNeg = p1) {p2 : Int32} (h2 : vp_in (i + 2) L ∧ xs (i + 2).toNatClampNeg = p2) (N : Nat) {S' : Nat → Nat → HV} (hF : F_X10_leastWorkLimit N p1 p2 S = some (.inr (2, S'))) {b9 : Int32} {τ' : HV} (hG : F_X11_leastWorkLimit N p1 p2 τ = some (b9, τ')) (ht : F_X11_thrown τ' = 1) {Q1 : State → Prop} {c n : Nat} (hq1 : qOk X (Q1, c + 1, n + 6)) (kk : gU w X (Q1, c + 1, n + 6) (cA w (S', τ', o)) 3008 [(4, .int i), (0, .ref b), (1, .ref (wAd w (7, 11, 6, 0))), (2, .ref (wAd w (11, 12, 0, 0))), (3, .ref (wAd w (14, 13, 0, 0)))] []) : gU w X (Q1, c, n) (cA w (S, τ, o)) 1919 [(4, .int i), (0, .ref b), (1, .ref (wAd w (7, 11, 6, 0))), (2, .ref (wAd w (11, 12, 0, 0))), (3, .ref (wAd w (14, 13, 0, 0)))] [] := by
  have hq : qOk X (Q1, c + 1, n + 6) := hq1
  refine r_aload_n C (k := 2) rfl rfl dL_law_1919 ?_
  refine r_aload_n C (k := 1) rfl rfl dL_law_1920 ?_
  refine r_iload C (k := 0) rfl dL_law_1921 ?_
  refine r_iconst C (v := 1) rfl dL_law_1923 ?_
  refine r_iadd C dL_law_1924 ?_
  refine r_sld C hX h1.1 h1.2 dL_law_1925 ?_
  refine r_aload_n C (k := 1) rfl rfl dL_law_1926 ?_
  refine r_iload C (k := 0) rfl dL_law_1927 ?_
  refine r_iconst C (v := 2) rfl dL_law_1929 ?_
  refine r_iadd C dL_law_1930 ?_
  refine r_sld C hX h2.1 h2.2 dL_law_1931 ?_
  refine r_aload_n C (k := 4) rfl rfl dL_law_1932 ?_
  refine r_callH C (ny := 4) (d' := 8) (mc := 1) (ms := 6) [.ref (wAd w (7, 11, 6, 0)), .int p1, .int p2, .ref (wAd w (14, 13, 0, 0))] (xL_leastWorkLimit_2 hW hS hZ (Ω := (S, τ, o)) rfl N p1 p2 hF) cwL_leastWorkLimit rfl wm1_0 wm6_34 ⟨by decide, by decide, by decide +kernel⟩ wm6_33 rfl (kR rfl) (by decide) (kR rfl) rfl dL_law_1933 hq1 ?_
  refine r_istore C (lo' := [(5, .int 1), (4, .int i), (0, .ref b), (1, .ref (wAd w (7, 11, 6, 0))), (2, .ref (wAd w (11, 12, 0, 0))), (3, .ref (wAd w (14, 13, 0, 0)))]) (by decide) rfl dL_law_1936 ?_
  refine r_aload_n C (k := 4) rfl rfl dL_law_1938 ?_
  refine r_aload_n C (k := 2) rfl rfl dL_law_1939 ?_
  refine r_iload C (k := 1) rfl dL_law_1940 ?_
  refine r_iconst C (v := 1) rfl dL_law_1942 ?_
  refine r_iadd C dL_law_1943 ?_
  refine r_sld C hX h1.1 h1.2 dL_law_1944 ?_
  refine r_aload_n C (k := 2) rfl rfl dL_law_1945 ?_
  refine r_iload C (k := 1) rfl dL_law_1946 ?_
  refine r_iconst C (v := 2) rfl dL_law_1948 ?_
  refine r_iadd C dL_law_1949 ?_
  refine r_sld C hX h2.1 h2.2 dL_law_1950 ?_
  refine r_callV C (d' := 11) [.int p1, .int p2] (c_X11_leastWorkLimit hM (Ω := (S', τ, o)) rfl N p1 p2 hG rfl) myX11_leastWorkLimit wm9_52 ⟨_, _, _, _, (hM.ok k11), rfl, rfl, rfl, rfl⟩ rfl (kR rfl) (by decide) (kR rfl) rfl dL_law_1951 ?_
  refine r_istore C (lo' := [(6, .int b9), (5, .int 1), (4, .int i), (0, .ref b), (1, .ref (wAd w (7, 11, 6, 0))), (2, .ref (wAd w (11, 12, 0, 0))), (3, .ref (wAd w (14, 13, 0, 0)))]) (by decide) rfl dL_law_1954 ?_
  refine r_aload_n C (k := 5) rfl rfl dL_law_1956 ?_
  refine r_callV C (d' := 0) [] (c_X11_thrown hM (Ω := (S', τ', o)) rfl ht) myX11_thrown wm7_137 ⟨_, _, _, _, (hM.ok k11), rfl, rfl, rfl, rfl⟩ rfl (kR rfl) (by decide) (kR rfl) rfl dL_law_1957 ?_
  refine r_iload C (k := 1) rfl dL_law_1960 ?_
  refine r_icmp_eq C (tgt := 1967) rfl dL_law_1962 (fun _ => ?_) (fun h => absurd rfl h)
  refine r_iload C (k := 1) rfl dL_law_1967 ?_
  refine r_if_ne C (tgt := 1984) rfl dL_law_1969 (fun _ => ?_) (fun h => absurd h (by decide))
  refine r_goto C (tgt := 3008) rfl dL_law_1984 ?_
  refine r_lo [2, 3, 4, 5, 6] (lo' := [(4, .int i), (0, .ref b), (1, .ref (wAd w (7, 11, 6, 0))), (2, .ref (wAd w (11, 12, 0, 0))), (3, .ref (wAd w (14, 13, 0, 0)))]) rfl ?_
  exact kk
theorem la38N {w : WP} (hW : gW w) (hM : gWM w) (hS : gS w) (hZ : gZ w) (hO : wFr w (14, 13, 0, 0)) {X : CX} (C : gC w X cL_law "HedgeMessagesLaw" (some .boolean) 15 9) {b L : Nat} {xs : Nat → Int32} (hX : gSc X b L xs) {S : Nat → Nat → HV} {τ : HV} {o : Nat → Int64} {i : Int32} {p1 : Int32} (h1 : vp_in (i + 1) L ∧ xs (i + 1).toNatClampNeg = p1) {v : Int32} (hF : F_X10_messagesQueued p1 S = some (.inl v)) {τ' : HV} (hG : F_X11_messagesQueued p1 τ = some (v, τ')) (ht : F_X11_thrown τ' = 0) {Q1 : State → Prop} {c n : Nat} (hq : qOk X (Q1, c, n)) (kk : gU w X (Q1, c, n) (cA w (S, τ', (vp_updL o 0 v.toInt64))) 3008 [(4, .int i), (0, .ref b), (1, .ref (wAd w (7, 11, 6, 0))), (2, .ref (wAd w (11, 12, 0, 0))), (3, .ref (wAd w (14, 13, 0, 0)))] []) : gU w X (Q1, c, n) (cA w (S, τ, o)) 1987 [(4, .int i), (0, .ref b), (1, .ref (wAd w (7, 11, 6, 0))), (2, .ref (wAd w (11, 12, 0, 0))), (3, .ref (wAd w (14, 13, 0, 0)))] [] := by
  refine r_aload_n C (k := 2) rfl rfl dL_law_1987 ?_
  refine r_aload_n C (k := 1) rfl rfl dL_law_1988 ?_
  refine r_iload C (k := 0) rfl dL_law_1989 ?_
  refine r_iconst C (v := 1) rfl dL_law_1991 ?_
  refine r_iadd C dL_law_1992 ?_
  refine r_sld C hX h1.1 h1.2 dL_law_1993 ?_
  refine r_aload_n C (k := 4) rfl rfl dL_law_1994 ?_
  refine r_callH C (ny := 3) (d' := 8) (mc := 0) (ms := 0) [.ref (wAd w (7, 11, 6, 0)), .int p1, .ref (wAd w (14, 13, 0, 0))] (kL_messagesQueued hW hS hO (Ω := (S, τ, o)) rfl p1 hF) cwL_messagesQueued rfl wm1_0 wm6_50 ⟨by decide, by decide, by decide +kernel⟩ wm6_49 rfl (kR rfl) (by decide) (kR rfl) rfl dL_law_1995 hq ?_
  refine r_istore C (lo' := [(5, .int 0), (4, .int i), (0, .ref b), (1, .ref (wAd w (7, 11, 6, 0))), (2, .ref (wAd w (11, 12, 0, 0))), (3, .ref (wAd w (14, 13, 0, 0)))]) (by decide) rfl dL_law_1998 ?_
  refine r_aload_n C (k := 4) rfl rfl dL_law_2000 ?_
  refine r_aload_n C (k := 2) rfl rfl dL_law_2001 ?_
  refine r_iload C (k := 1) rfl dL_law_2002 ?_
  refine r_iconst C (v := 1) rfl dL_law_2004 ?_
  refine r_iadd C dL_law_2005 ?_
  refine r_sld C hX h1.1 h1.2 dL_law_2006 ?_
  refine r_callV C (d' := 3) [.int p1] (c_X11_messagesQueued hM (Ω := (S, τ, (vp_updL o 0 v.toInt64))) rfl p1 hG rfl) myX11_messagesQueued wm9_60 ⟨_, _, _, _, (hM.ok k11), rfl, rfl, rfl, rfl⟩ rfl (kR rfl) (by decide) (kR rfl) rfl dL_law_2007 ?_
  refine r_istore C (lo' := [(6, .int v), (5, .int 0), (4, .int i), (0, .ref b), (1, .ref (wAd w (7, 11, 6, 0))), (2, .ref (wAd w (11, 12, 0, 0))), (3, .ref (wAd w (14, 13, 0, 0)))]) (by decide) rfl dL_law_2010 ?_
  refine r_aload_n C (k := 5) rfl rfl dL_law_2012 ?_
  refine r_callV C (d' := 0) [] (c_X11_thrown hM (Ω := (S, τ', (vp_updL o 0 v.toInt64))) rfl ht) myX11_thrown wm7_137 ⟨_, _, _, _, (hM.ok k11), rfl, rfl, rfl, rfl⟩ rfl (kR rfl) (by decide) (kR rfl) rfl dL_law_2013 ?_
  refine r_iload C (k := 1) rfl dL_law_2016 ?_
  refine r_icmp_eq C (tgt := 2023) rfl dL_law_2018 (fun _ => ?_) (fun h => absurd rfl h)
  refine r_iload C (k := 1) rfl dL_law_2023 ?_
  refine r_if_ne C (tgt := 2040) rfl dL_law_2025 (fun h => absurd rfl h) (fun _ => ?_)
  refine r_aload_n C (k := 6) rfl rfl dL_law_2028 ?_
  refine r_iconst C (v := 0) rfl dL_law_2029 ?_
  refine r_lald C (o := (vp_updL o 0 v.toInt64)) (hM.1 |> fun _ => hW.2.2.2.1 _ hO) rfl dL_law_2030 ?_
  refine r_iload C (k := 0) rfl dL_law_2031 ?_
  refine r_i2l C (v := v.toInt64) rfl dL_law_2033 ?_
  refine r_lcmp C dL_law_2034 ?_
  refine r_if_eq C (tgt := 2040) rfl dL_law_2035 (fun _ => ?_) (fun h => absurd (lgself _) h)
  refine r_goto C (tgt := 3008) rfl dL_law_2040 ?_
  refine r_lo [2, 3, 4, 5, 6] (lo' := [(4, .int i), (0, .ref b), (1, .ref (wAd w (7, 11, 6, 0))), (2, .ref (wAd w (11, 12, 0, 0))), (3, .ref (wAd w (14, 13, 0, 0)))]) rfl ?_
  exact kk
theorem la38X2 {w : WP} (hW : gW w) (hM : gWM w) (hS : gS w) (hZ : gZ w) (hO : wFr w (14, 13, 0, 0)) {X : CX} (C : gC w X cL_law "HedgeMessagesLaw" (some .boolean) 15 9) {b L : Nat} {xs : Nat → Int32} (hX : gSc X b L xs) {S : Nat → Nat → HV} {τ : HV} {o : Nat → Int64} {i : Int32} {p1 : Int32} (h1 : vp_in (i + 1) L ∧ xs (i + 1).toNatClampNeg = p1)  (hF : F_X10_messagesQueued p1 S = some (.inr 2)) {b9 : Int32} {τ' : HV} (hG : F_X11_messagesQueued p1 τ = some (b9, τ')) (ht : F_X11_thrown τ' = 1) {Q1 : State → Prop} {c n : Nat} (hq1 : qOk X (Q1, c + 1, n + 6)) (kk : gU w X (Q1, c + 1, n + 6) (cA w (S, τ', o)) 3008 [(4, .int i), (0, .ref b), (1, .ref (wAd w (7, 11, 6, 0))), (2, .ref (wAd w (11, 12, 0, 0))), (3, .ref (wAd w (14, 13, 0, 0)))] []) : gU w X (Q1, c, n) (cA w (S, τ, o)) 1987 [(4, .int i), (0, .ref b), (1, .ref (wAd w (7, 11, 6, 0))), (2, .ref (wAd w (11, 12, 0, 0))), (3, .ref (wAd w (14, 13, 0, 0)))] [] := by
  have hq : qOk X (Q1, c + 1, n + 6) := hq1
  refine r_aload_n C (k := 2) rfl rfl dL_law_1987 ?_
  refine r_aload_n C (k := 1) rfl rfl dL_law_1988 ?_
  refine r_iload C (k := 0) rfl dL_law_1989 ?_
  refine r_iconst C (v := 1) rfl dL_law_1991 ?_
  refine r_iadd C dL_law_1992 ?_
  refine r_sld C hX h1.1 h1.2 dL_law_1993 ?_
  refine r_aload_n C (k := 4) rfl rfl dL_law_1994 ?_
  refine r_callH C (ny := 3) (d' := 8) (mc := 1) (ms := 6) [.ref (wAd w (7, 11, 6, 0)), .int p1, .ref (wAd w (14, 13, 0, 0))] (xL_messagesQueued_2 hW hS hZ (Ω := (S, τ, o)) rfl p1 hF) cwL_messagesQueued rfl wm1_0 wm6_50 ⟨by decide, by decide, by decide +kernel⟩ wm6_49 rfl (kR rfl) (by decide) (kR rfl) rfl dL_law_1995 hq1 ?_
  refine r_istore C (lo' := [(5, .int 1), (4, .int i), (0, .ref b), (1, .ref (wAd w (7, 11, 6, 0))), (2, .ref (wAd w (11, 12, 0, 0))), (3, .ref (wAd w (14, 13, 0, 0)))]) (by decide) rfl dL_law_1998 ?_
  refine r_aload_n C (k := 4) rfl rfl dL_law_2000 ?_
  refine r_aload_n C (k := 2) rfl rfl dL_law_2001 ?_
  refine r_iload C (k := 1) rfl dL_law_2002 ?_
  refine r_iconst C (v := 1) rfl dL_law_2004 ?_
  refine r_iadd C dL_law_2005 ?_
  refine r_sld C hX h1.1 h1.2 dL_law_2006 ?_
  refine r_callV C (d' := 3) [.int p1] (c_X11_messagesQueued hM (Ω := (S, τ, o)) rfl p1 hG rfl) myX11_messagesQueued wm9_60 ⟨_, _, _, _, (hM.ok k11), rfl, rfl, rfl, rfl⟩ rfl (kR rfl) (by decide) (kR rfl) rfl dL_law_2007 ?_
  refine r_istore C (lo' := [(6, .int b9), (5, .int 1), (4, .int i), (0, .ref b), (1, .ref (wAd w (7, 11, 6, 0))), (2, .ref (wAd w (11, 12, 0, 0))), (3, .ref (wAd w (14, 13, 0, 0)))]) (by decide) rfl dL_law_2010 ?_
  refine r_aload_n C (k := 5) rfl rfl dL_law_2012 ?_
  refine r_callV C (d' := 0) [] (c_X11_thrown hM (Ω := (S, τ', o)) rfl ht) myX11_thrown wm7_137 ⟨_, _, _, _, (hM.ok k11), rfl, rfl, rfl, rfl⟩ rfl (kR rfl) (by decide) (kR rfl) rfl dL_law_2013 ?_
  refine r_iload C (k := 1) rfl dL_law_2016 ?_
  refine r_icmp_eq C (tgt := 2023) rfl dL_law_2018 (fun _ => ?_) (fun h => absurd rfl h)
  refine r_iload C (k := 1) rfl dL_law_2023 ?_
  refine r_if_ne C (tgt := 2040) rfl dL_law_2025 (fun _ => ?_) (fun h => absurd h (by decide))
  refine r_goto C (tgt := 3008) rfl dL_law_2040 ?_
  refine r_lo [2, 3, 4, 5, 6] (lo' := [(4, .int i), (0, .ref b), (1, .ref (wAd w (7, 11, 6, 0))), (2, .ref (wAd w (11, 12, 0, 0))), (3, .ref (wAd w (14, 13, 0, 0)))]) rfl ?_
  exact kk
theorem la39N {w : WP} (hW : gW w) (hM : gWM w) (hS : gS w) (hZ : gZ w) (hO : wFr w (14, 13, 0, 0)) {X : CX} (C : gC w X cL_law "HedgeMessagesLaw" (some .boolean) 15 9) {b L : Nat} {xs : Nat → Int32} (hX : gSc X b L xs) {S : Nat → Nat → HV} {τ : HV} {o : Nat → Int64} {i : Int32} {p1 : Int32} (h1 : vp_in (i + 1) L ∧ xs (i + 1).toNatClampNeg = p1) {v : Int32} (hF : F_X10_messagesDelivered p1 S = some (.inl v)) {τ' : HV} (hG : F_X11_messagesDelivered p1 τ = some (v, τ')) (ht : F_X11_thrown τ' = 0) {Q1 : State → Prop} {c n : Nat} (hq : qOk X (Q1, c, n)) (kk : gU w X (Q1, c, n) (cA w (S, τ', (vp_updL o 0 v.toInt64))) 3008 [(4, .int i), (0, .ref b), (1, .ref (wAd w (7, 11, 6, 0))), (2, .ref (wAd w (11, 12, 0, 0))), (3, .ref (wAd w (14, 13, 0, 0)))] []) : gU w X (Q1, c, n) (cA w (S, τ, o)) 2043 [(4, .int i), (0, .ref b), (1, .ref (wAd w (7, 11, 6, 0))), (2, .ref (wAd w (11, 12, 0, 0))), (3, .ref (wAd w (14, 13, 0, 0)))] [] := by
  refine r_aload_n C (k := 2) rfl rfl dL_law_2043 ?_
  refine r_aload_n C (k := 1) rfl rfl dL_law_2044 ?_
  refine r_iload C (k := 0) rfl dL_law_2045 ?_
  refine r_iconst C (v := 1) rfl dL_law_2047 ?_
  refine r_iadd C dL_law_2048 ?_
  refine r_sld C hX h1.1 h1.2 dL_law_2049 ?_
  refine r_aload_n C (k := 4) rfl rfl dL_law_2050 ?_
  refine r_callH C (ny := 3) (d' := 8) (mc := 0) (ms := 0) [.ref (wAd w (7, 11, 6, 0)), .int p1, .ref (wAd w (14, 13, 0, 0))] (kL_messagesDelivered hW hS hO (Ω := (S, τ, o)) rfl p1 hF) cwL_messagesDelivered rfl wm1_0 wm6_57 ⟨by decide, by decide, by decide +kernel⟩ wm6_56 rfl (kR rfl) (by decide) (kR rfl) rfl dL_law_2051 hq ?_
  refine r_istore C (lo' := [(5, .int 0), (4, .int i), (0, .ref b), (1, .ref (wAd w (7, 11, 6, 0))), (2, .ref (wAd w (11, 12, 0, 0))), (3, .ref (wAd w (14, 13, 0, 0)))]) (by decide) rfl dL_law_2054 ?_
  refine r_aload_n C (k := 4) rfl rfl dL_law_2056 ?_
  refine r_aload_n C (k := 2) rfl rfl dL_law_2057 ?_
  refine r_iload C (k := 1) rfl dL_law_2058 ?_
  refine r_iconst C (v := 1) rfl dL_law_2060 ?_
  refine r_iadd C dL_law_2061 ?_
  refine r_sld C hX h1.1 h1.2 dL_law_2062 ?_
  refine r_callV C (d' := 3) [.int p1] (c_X11_messagesDelivered hM (Ω := (S, τ, (vp_updL o 0 v.toInt64))) rfl p1 hG rfl) myX11_messagesDelivered wm9_68 ⟨_, _, _, _, (hM.ok k11), rfl, rfl, rfl, rfl⟩ rfl (kR rfl) (by decide) (kR rfl) rfl dL_law_2063 ?_
  refine r_istore C (lo' := [(6, .int v), (5, .int 0), (4, .int i), (0, .ref b), (1, .ref (wAd w (7, 11, 6, 0))), (2, .ref (wAd w (11, 12, 0, 0))), (3, .ref (wAd w (14, 13, 0, 0)))]) (by decide) rfl dL_law_2066 ?_
  refine r_aload_n C (k := 5) rfl rfl dL_law_2068 ?_
  refine r_callV C (d' := 0) [] (c_X11_thrown hM (Ω := (S, τ', (vp_updL o 0 v.toInt64))) rfl ht) myX11_thrown wm7_137 ⟨_, _, _, _, (hM.ok k11), rfl, rfl, rfl, rfl⟩ rfl (kR rfl) (by decide) (kR rfl) rfl dL_law_2069 ?_
  refine r_iload C (k := 1) rfl dL_law_2072 ?_
  refine r_icmp_eq C (tgt := 2079) rfl dL_law_2074 (fun _ => ?_) (fun h => absurd rfl h)
  refine r_iload C (k := 1) rfl dL_law_2079 ?_
  refine r_if_ne C (tgt := 2096) rfl dL_law_2081 (fun h => absurd rfl h) (fun _ => ?_)
  refine r_aload_n C (k := 6) rfl rfl dL_law_2084 ?_
  refine r_iconst C (v := 0) rfl dL_law_2085 ?_
  refine r_lald C (o := (vp_updL o 0 v.toInt64)) (hM.1 |> fun _ => hW.2.2.2.1 _ hO) rfl dL_law_2086 ?_
  refine r_iload C (k := 0) rfl dL_law_2087 ?_
  refine r_i2l C (v := v.toInt64) rfl dL_law_2089 ?_
  refine r_lcmp C dL_law_2090 ?_
  refine r_if_eq C (tgt := 2096) rfl dL_law_2091 (fun _ => ?_) (fun h => absurd (lgself _) h)
  refine r_goto C (tgt := 3008) rfl dL_law_2096 ?_
  refine r_lo [2, 3, 4, 5, 6] (lo' := [(4, .int i), (0, .ref b), (1, .ref (wAd w (7, 11, 6, 0))), (2, .ref (wAd w (11, 12, 0, 0))), (3, .ref (wAd w (14, 13, 0, 0)))]) rfl ?_
  exact kk
theorem la39X2 {w : WP} (hW : gW w) (hM : gWM w) (hS : gS w) (hZ : gZ w) (hO : wFr w (14, 13, 0, 0)) {X : CX} (C : gC w X cL_law "HedgeMessagesLaw" (some .boolean) 15 9) {b L : Nat} {xs : Nat → Int32} (hX : gSc X b L xs) {S : Nat → Nat → HV} {τ : HV} {o : Nat → Int64} {i : Int32} {p1 : Int32} (h1 : vp_in (i + 1) L ∧ xs (i + 1).toNatClampNeg = p1)  (hF : F_X10_messagesDelivered p1 S = some (.inr 2)) {b9 : Int32} {τ' : HV} (hG : F_X11_messagesDelivered p1 τ = some (b9, τ')) (ht : F_X11_thrown τ' = 1) {Q1 : State → Prop} {c n : Nat} (hq1 : qOk X (Q1, c + 1, n + 6)) (kk : gU w X (Q1, c + 1, n + 6) (cA w (S, τ', o)) 3008 [(4, .int i), (0, .ref b), (1, .ref (wAd w (7, 11, 6, 0))), (2, .ref (wAd w (11, 12, 0, 0))), (3, .ref (wAd w (14, 13, 0, 0)))] []) : gU w X (Q1, c, n) (cA w (S, τ, o)) 2043 [(4, .int i), (0, .ref b), (1, .ref (wAd w (7, 11, 6, 0))), (2, .ref (wAd w (11, 12, 0, 0))), (3, .ref (wAd w (14, 13, 0, 0)))] [] := by
  have hq : qOk X (Q1, c + 1, n + 6) := hq1
  refine r_aload_n C (k := 2) rfl rfl dL_law_2043 ?_
  refine r_aload_n C (k := 1) rfl rfl dL_law_2044 ?_
  refine r_iload C (k := 0) rfl dL_law_2045 ?_
  refine r_iconst C (v := 1) rfl dL_law_2047 ?_
  refine r_iadd C dL_law_2048 ?_
  refine r_sld C hX h1.1 h1.2 dL_law_2049 ?_
  refine r_aload_n C (k := 4) rfl rfl dL_law_2050 ?_
  refine r_callH C (ny := 3) (d' := 8) (mc := 1) (ms := 6) [.ref (wAd w (7, 11, 6, 0)), .int p1, .ref (wAd w (14, 13, 0, 0))] (xL_messagesDelivered_2 hW hS hZ (Ω := (S, τ, o)) rfl p1 hF) cwL_messagesDelivered rfl wm1_0 wm6_57 ⟨by decide, by decide, by decide +kernel⟩ wm6_56 rfl (kR rfl) (by decide) (kR rfl) rfl dL_law_2051 hq1 ?_
  refine r_istore C (lo' := [(5, .int 1), (4, .int i), (0, .ref b), (1, .ref (wAd w (7, 11, 6, 0))), (2, .ref (wAd w (11, 12, 0, 0))), (3, .ref (wAd w (14, 13, 0, 0)))]) (by decide) rfl dL_law_2054 ?_
  refine r_aload_n C (k := 4) rfl rfl dL_law_2056 ?_
  refine r_aload_n C (k := 2) rfl rfl dL_law_2057 ?_
  refine r_iload C (k := 1) rfl dL_law_2058 ?_
  refine r_iconst C (v := 1) rfl dL_law_2060 ?_
  refine r_iadd C dL_law_2061 ?_
  refine r_sld C hX h1.1 h1.2 dL_law_2062 ?_
  refine r_callV C (d' := 3) [.int p1] (c_X11_messagesDelivered hM (Ω := (S, τ, o)) rfl p1 hG rfl) myX11_messagesDelivered wm9_68 ⟨_, _, _, _, (hM.ok k11), rfl, rfl, rfl, rfl⟩ rfl (kR rfl) (by decide) (kR rfl) rfl dL_law_2063 ?_
  refine r_istore C (lo' := [(6, .int b9), (5, .int 1), (4, .int i), (0, .ref b), (1, .ref (wAd w (7, 11, 6, 0))), (2, .ref (wAd w (11, 12, 0, 0))), (3, .ref (wAd w (14, 13, 0, 0)))]) (by decide) rfl dL_law_2066 ?_
  refine r_aload_n C (k := 5) rfl rfl dL_law_2068 ?_
  refine r_callV C (d' := 0) [] (c_X11_thrown hM (Ω := (S, τ', o)) rfl ht) myX11_thrown wm7_137 ⟨_, _, _, _, (hM.ok k11), rfl, rfl, rfl, rfl⟩ rfl (kR rfl) (by decide) (kR rfl) rfl dL_law_2069 ?_
  refine r_iload C (k := 1) rfl dL_law_2072 ?_
  refine r_icmp_eq C (tgt := 2079) rfl dL_law_2074 (fun _ => ?_) (fun h => absurd rfl h)
  refine r_iload C (k := 1) rfl dL_law_2079 ?_
  refine r_if_ne C (tgt := 2096) rfl dL_law_2081 (fun _ => ?_) (fun h => absurd h (by decide))
  refine r_goto C (tgt := 3008) rfl dL_law_2096 ?_
  refine r_lo [2, 3, 4, 5, 6] (lo' := [(4, .int i), (0, .ref b), (1, .ref (wAd w (7, 11, 6, 0))), (2, .ref (wAd w (11, 12, 0, 0))), (3, .ref (wAd w (14, 13, 0, 0)))]) rfl ?_
  exact kk
theorem la40N {w : WP} (hW : gW w) (hM : gWM w) (hS : gS w) (hZ : gZ w) (hO : wFr w (14, 13, 0, 0)) {X : CX} (C : gC w X cL_law "HedgeMessagesLaw" (some .boolean) 15 9) {b L : Nat} {xs : Nat → Int32} (hX : gSc X b L xs) {S : Nat → Nat → HV} {τ : HV} {o : Nat → Int64} {i : Int32} {p1 : Int32} (h1 : vp_in (i + 1) L ∧ xs (i + 1).toNatClampNeg = p1) {v : Int32} (hF : F_X10_messagesFailed p1 S = some (.inl v)) {τ' : HV} (hG : F_X11_messagesFailed p1 τ = some (v, τ')) (ht : F_X11_thrown τ' = 0) {Q1 : State → Prop} {c n : Nat} (hq : qOk X (Q1, c, n)) (kk : gU w X (Q1, c, n) (cA w (S, τ', (vp_updL o 0 v.toInt64))) 3008 [(4, .int i), (0, .ref b), (1, .ref (wAd w (7, 11, 6, 0))), (2, .ref (wAd w (11, 12, 0, 0))), (3, .ref (wAd w (14, 13, 0, 0)))] []) : gU w X (Q1, c, n) (cA w (S, τ, o)) 2099 [(4, .int i), (0, .ref b), (1, .ref (wAd w (7, 11, 6, 0))), (2, .ref (wAd w (11, 12, 0, 0))), (3, .ref (wAd w (14, 13, 0, 0)))] [] := by
  refine r_aload_n C (k := 2) rfl rfl dL_law_2099 ?_
  refine r_aload_n C (k := 1) rfl rfl dL_law_2100 ?_
  refine r_iload C (k := 0) rfl dL_law_2101 ?_
  refine r_iconst C (v := 1) rfl dL_law_2103 ?_
  refine r_iadd C dL_law_2104 ?_
  refine r_sld C hX h1.1 h1.2 dL_law_2105 ?_
  refine r_aload_n C (k := 4) rfl rfl dL_law_2106 ?_
  refine r_callH C (ny := 3) (d' := 8) (mc := 0) (ms := 0) [.ref (wAd w (7, 11, 6, 0)), .int p1, .ref (wAd w (14, 13, 0, 0))] (kL_messagesFailed hW hS hO (Ω := (S, τ, o)) rfl p1 hF) cwL_messagesFailed rfl wm1_0 wm6_64 ⟨by decide, by decide, by decide +kernel⟩ wm6_63 rfl (kR rfl) (by decide) (kR rfl) rfl dL_law_2107 hq ?_
  refine r_istore C (lo' := [(5, .int 0), (4, .int i), (0, .ref b), (1, .ref (wAd w (7, 11, 6, 0))), (2, .ref (wAd w (11, 12, 0, 0))), (3, .ref (wAd w (14, 13, 0, 0)))]) (by decide) rfl dL_law_2110 ?_
  refine r_aload_n C (k := 4) rfl rfl dL_law_2112 ?_
  refine r_aload_n C (k := 2) rfl rfl dL_law_2113 ?_
  refine r_iload C (k := 1) rfl dL_law_2114 ?_
  refine r_iconst C (v := 1) rfl dL_law_2116 ?_
  refine r_iadd C dL_law_2117 ?_
  refine r_sld C hX h1.1 h1.2 dL_law_2118 ?_
  refine r_callV C (d' := 3) [.int p1] (c_X11_messagesFailed hM (Ω := (S, τ, (vp_updL o 0 v.toInt64))) rfl p1 hG rfl) myX11_messagesFailed wm9_72 ⟨_, _, _, _, (hM.ok k11), rfl, rfl, rfl, rfl⟩ rfl (kR rfl) (by decide) (kR rfl) rfl dL_law_2119 ?_
  refine r_istore C (lo' := [(6, .int v), (5, .int 0), (4, .int i), (0, .ref b), (1, .ref (wAd w (7, 11, 6, 0))), (2, .ref (wAd w (11, 12, 0, 0))), (3, .ref (wAd w (14, 13, 0, 0)))]) (by decide) rfl dL_law_2122 ?_
  refine r_aload_n C (k := 5) rfl rfl dL_law_2124 ?_
  refine r_callV C (d' := 0) [] (c_X11_thrown hM (Ω := (S, τ', (vp_updL o 0 v.toInt64))) rfl ht) myX11_thrown wm7_137 ⟨_, _, _, _, (hM.ok k11), rfl, rfl, rfl, rfl⟩ rfl (kR rfl) (by decide) (kR rfl) rfl dL_law_2125 ?_
  refine r_iload C (k := 1) rfl dL_law_2128 ?_
  refine r_icmp_eq C (tgt := 2135) rfl dL_law_2130 (fun _ => ?_) (fun h => absurd rfl h)
  refine r_iload C (k := 1) rfl dL_law_2135 ?_
  refine r_if_ne C (tgt := 2152) rfl dL_law_2137 (fun h => absurd rfl h) (fun _ => ?_)
  refine r_aload_n C (k := 6) rfl rfl dL_law_2140 ?_
  refine r_iconst C (v := 0) rfl dL_law_2141 ?_
  refine r_lald C (o := (vp_updL o 0 v.toInt64)) (hM.1 |> fun _ => hW.2.2.2.1 _ hO) rfl dL_law_2142 ?_
  refine r_iload C (k := 0) rfl dL_law_2143 ?_
  refine r_i2l C (v := v.toInt64) rfl dL_law_2145 ?_
  refine r_lcmp C dL_law_2146 ?_
  refine r_if_eq C (tgt := 2152) rfl dL_law_2147 (fun _ => ?_) (fun h => absurd (lgself _) h)
  refine r_goto C (tgt := 3008) rfl dL_law_2152 ?_
  refine r_lo [2, 3, 4, 5, 6] (lo' := [(4, .int i), (0, .ref b), (1, .ref (wAd w (7, 11, 6, 0))), (2, .ref (wAd w (11, 12, 0, 0))), (3, .ref (wAd w (14, 13, 0, 0)))]) rfl ?_
  exact kk
theorem la40X2 {w : WP} (hW : gW w) (hM : gWM w) (hS : gS w) (hZ : gZ w) (hO : wFr w (14, 13, 0, 0)) {X : CX} (C : gC w X cL_law "HedgeMessagesLaw" (some .boolean) 15 9) {b L : Nat} {xs : Nat → Int32} (hX : gSc X b L xs) {S : Nat → Nat → HV} {τ : HV} {o : Nat → Int64} {i : Int32} {p1 : Int32} (h1 : vp_in (i + 1) L ∧ xs (i + 1).toNatClampNeg = p1)  (hF : F_X10_messagesFailed p1 S = some (.inr 2)) {b9 : Int32} {τ' : HV} (hG : F_X11_messagesFailed p1 τ = some (b9, τ')) (ht : F_X11_thrown τ' = 1) {Q1 : State → Prop} {c n : Nat} (hq1 : qOk X (Q1, c + 1, n + 6)) (kk : gU w X (Q1, c + 1, n + 6) (cA w (S, τ', o)) 3008 [(4, .int i), (0, .ref b), (1, .ref (wAd w (7, 11, 6, 0))), (2, .ref (wAd w (11, 12, 0, 0))), (3, .ref (wAd w (14, 13, 0, 0)))] []) : gU w X (Q1, c, n) (cA w (S, τ, o)) 2099 [(4, .int i), (0, .ref b), (1, .ref (wAd w (7, 11, 6, 0))), (2, .ref (wAd w (11, 12, 0, 0))), (3, .ref (wAd w (14, 13, 0, 0)))] [] := by
  have hq : qOk X (Q1, c + 1, n + 6) := hq1
  refine r_aload_n C (k := 2) rfl rfl dL_law_2099 ?_
  refine r_aload_n C (k := 1) rfl rfl dL_law_2100 ?_
  refine r_iload C (k := 0) rfl dL_law_2101 ?_
  refine r_iconst C (v := 1) rfl dL_law_2103 ?_
  refine r_iadd C dL_law_2104 ?_
  refine r_sld C hX h1.1 h1.2 dL_law_2105 ?_
  refine r_aload_n C (k := 4) rfl rfl dL_law_2106 ?_
  refine r_callH C (ny := 3) (d' := 8) (mc := 1) (ms := 6) [.ref (wAd w (7, 11, 6, 0)), .int p1, .ref (wAd w (14, 13, 0, 0))] (xL_messagesFailed_2 hW hS hZ (Ω := (S, τ, o)) rfl p1 hF) cwL_messagesFailed rfl wm1_0 wm6_64 ⟨by decide, by decide, by decide +kernel⟩ wm6_63 rfl (kR rfl) (by decide) (kR rfl) rfl dL_law_2107 hq1 ?_
  refine r_istore C (lo' := [(5, .int 1), (4, .int i), (0, .ref b), (1, .ref (wAd w (7, 11, 6, 0))), (2, .ref (wAd w (11, 12, 0, 0))), (3, .ref (wAd w (14, 13, 0, 0)))]) (by decide) rfl dL_law_2110 ?_
  refine r_aload_n C (k := 4) rfl rfl dL_law_2112 ?_
  refine r_aload_n C (k := 2) rfl rfl dL_law_2113 ?_
  refine r_iload C (k := 1) rfl dL_law_2114 ?_
  refine r_iconst C (v := 1) rfl dL_law_2116 ?_
  refine r_iadd C dL_law_2117 ?_
  refine r_sld C hX h1.1 h1.2 dL_law_2118 ?_
  refine r_callV C (d' := 3) [.int p1] (c_X11_messagesFailed hM (Ω := (S, τ, o)) rfl p1 hG rfl) myX11_messagesFailed wm9_72 ⟨_, _, _, _, (hM.ok k11), rfl, rfl, rfl, rfl⟩ rfl (kR rfl) (by decide) (kR rfl) rfl dL_law_2119 ?_
  refine r_istore C (lo' := [(6, .int b9), (5, .int 1), (4, .int i), (0, .ref b), (1, .ref (wAd w (7, 11, 6, 0))), (2, .ref (wAd w (11, 12, 0, 0))), (3, .ref (wAd w (14, 13, 0, 0)))]) (by decide) rfl dL_law_2122 ?_
  refine r_aload_n C (k := 5) rfl rfl dL_law_2124 ?_
  refine r_callV C (d' := 0) [] (c_X11_thrown hM (Ω := (S, τ', o)) rfl ht) myX11_thrown wm7_137 ⟨_, _, _, _, (hM.ok k11), rfl, rfl, rfl, rfl⟩ rfl (kR rfl) (by decide) (kR rfl) rfl dL_law_2125 ?_
  refine r_iload C (k := 1) rfl dL_law_2128 ?_
  refine r_icmp_eq C (tgt := 2135) rfl dL_law_2130 (fun _ => ?_) (fun h => absurd rfl h)
  refine r_iload C (k := 1) rfl dL_law_2135 ?_
  refine r_if_ne C (tgt := 2152) rfl dL_law_2137 (fun _ => ?_) (fun h => absurd h (by decide))
  refine r_goto C (tgt := 3008) rfl dL_law_2152 ?_
  refine r_lo [2, 3, 4, 5, 6] (lo' := [(4, .int i), (0, .ref b), (1, .ref (wAd w (7, 11, 6, 0))), (2, .ref (wAd w (11, 12, 0, 0))), (3, .ref (wAd w (14, 13, 0, 0)))]) rfl ?_
  exact kk
theorem la41N {w : WP} (hW : gW w) (hM : gWM w) (hS : gS w) (hZ : gZ w) (hO : wFr w (14, 13, 0, 0)) {X : CX} (C : gC w X cL_law "HedgeMessagesLaw" (some .boolean) 15 9) {b L : Nat} {xs : Nat → Int32} (hX : gSc X b L xs) {S : Nat → Nat → HV} {τ : HV} {o : Nat → Int64} {i : Int32} {p1 : Int32} (h1 : vp_in (i + 1) L ∧ xs (i + 1).toNatClampNeg = p1) {v : Int32} (hF : F_X10_messagesDropped p1 S = some (.inl v)) {τ' : HV} (hG : F_X11_messagesDropped p1 τ = some (v, τ')) (ht : F_X11_thrown τ' = 0) {Q1 : State → Prop} {c n : Nat} (hq : qOk X (Q1, c, n)) (kk : gU w X (Q1, c, n) (cA w (S, τ', (vp_updL o 0 v.toInt64))) 3008 [(4, .int i), (0, .ref b), (1, .ref (wAd w (7, 11, 6, 0))), (2, .ref (wAd w (11, 12, 0, 0))), (3, .ref (wAd w (14, 13, 0, 0)))] []) : gU w X (Q1, c, n) (cA w (S, τ, o)) 2155 [(4, .int i), (0, .ref b), (1, .ref (wAd w (7, 11, 6, 0))), (2, .ref (wAd w (11, 12, 0, 0))), (3, .ref (wAd w (14, 13, 0, 0)))] [] := by
  refine r_aload_n C (k := 2) rfl rfl dL_law_2155 ?_
  refine r_aload_n C (k := 1) rfl rfl dL_law_2156 ?_
  refine r_iload C (k := 0) rfl dL_law_2157 ?_
  refine r_iconst C (v := 1) rfl dL_law_2159 ?_
  refine r_iadd C dL_law_2160 ?_
  refine r_sld C hX h1.1 h1.2 dL_law_2161 ?_
  refine r_aload_n C (k := 4) rfl rfl dL_law_2162 ?_
  refine r_callH C (ny := 3) (d' := 8) (mc := 0) (ms := 0) [.ref (wAd w (7, 11, 6, 0)), .int p1, .ref (wAd w (14, 13, 0, 0))] (kL_messagesDropped hW hS hO (Ω := (S, τ, o)) rfl p1 hF) cwL_messagesDropped rfl wm1_0 wm6_71 ⟨by decide, by decide, by decide +kernel⟩ wm6_70 rfl (kR rfl) (by decide) (kR rfl) rfl dL_law_2163 hq ?_
  refine r_istore C (lo' := [(5, .int 0), (4, .int i), (0, .ref b), (1, .ref (wAd w (7, 11, 6, 0))), (2, .ref (wAd w (11, 12, 0, 0))), (3, .ref (wAd w (14, 13, 0, 0)))]) (by decide) rfl dL_law_2166 ?_
  refine r_aload_n C (k := 4) rfl rfl dL_law_2168 ?_
  refine r_aload_n C (k := 2) rfl rfl dL_law_2169 ?_
  refine r_iload C (k := 1) rfl dL_law_2170 ?_
  refine r_iconst C (v := 1) rfl dL_law_2172 ?_
  refine r_iadd C dL_law_2173 ?_
  refine r_sld C hX h1.1 h1.2 dL_law_2174 ?_
  refine r_callV C (d' := 3) [.int p1] (c_X11_messagesDropped hM (Ω := (S, τ, (vp_updL o 0 v.toInt64))) rfl p1 hG rfl) myX11_messagesDropped wm9_76 ⟨_, _, _, _, (hM.ok k11), rfl, rfl, rfl, rfl⟩ rfl (kR rfl) (by decide) (kR rfl) rfl dL_law_2175 ?_
  refine r_istore C (lo' := [(6, .int v), (5, .int 0), (4, .int i), (0, .ref b), (1, .ref (wAd w (7, 11, 6, 0))), (2, .ref (wAd w (11, 12, 0, 0))), (3, .ref (wAd w (14, 13, 0, 0)))]) (by decide) rfl dL_law_2178 ?_
  refine r_aload_n C (k := 5) rfl rfl dL_law_2180 ?_
  refine r_callV C (d' := 0) [] (c_X11_thrown hM (Ω := (S, τ', (vp_updL o 0 v.toInt64))) rfl ht) myX11_thrown wm7_137 ⟨_, _, _, _, (hM.ok k11), rfl, rfl, rfl, rfl⟩ rfl (kR rfl) (by decide) (kR rfl) rfl dL_law_2181 ?_
  refine r_iload C (k := 1) rfl dL_law_2184 ?_
  refine r_icmp_eq C (tgt := 2191) rfl dL_law_2186 (fun _ => ?_) (fun h => absurd rfl h)
  refine r_iload C (k := 1) rfl dL_law_2191 ?_
  refine r_if_ne C (tgt := 2208) rfl dL_law_2193 (fun h => absurd rfl h) (fun _ => ?_)
  refine r_aload_n C (k := 6) rfl rfl dL_law_2196 ?_
  refine r_iconst C (v := 0) rfl dL_law_2197 ?_
  refine r_lald C (o := (vp_updL o 0 v.toInt64)) (hM.1 |> fun _ => hW.2.2.2.1 _ hO) rfl dL_law_2198 ?_
  refine r_iload C (k := 0) rfl dL_law_2199 ?_
  refine r_i2l C (v := v.toInt64) rfl dL_law_2201 ?_
  refine r_lcmp C dL_law_2202 ?_
  refine r_if_eq C (tgt := 2208) rfl dL_law_2203 (fun _ => ?_) (fun h => absurd (lgself _) h)
  refine r_goto C (tgt := 3008) rfl dL_law_2208 ?_
  refine r_lo [2, 3, 4, 5, 6] (lo' := [(4, .int i), (0, .ref b), (1, .ref (wAd w (7, 11, 6, 0))), (2, .ref (wAd w (11, 12, 0, 0))), (3, .ref (wAd w (14, 13, 0, 0)))]) rfl ?_
  exact kk
theorem la41X2 {w : WP} (hW : gW w) (hM : gWM w) (hS : gS w) (hZ : gZ w) (hO : wFr w (14, 13, 0, 0)) {X : CX} (C : gC w X cL_law "HedgeMessagesLaw" (some .boolean) 15 9) {b L : Nat} {xs : Nat → Int32} (hX : gSc X b L xs) {S : Nat → Nat → HV} {τ : HV} {o : Nat → Int64} {i : Int32} {p1 : Int32} (h1 : vp_in (i + 1) L ∧ xs (i + 1).toNatClampNeg = p1)  (hF : F_X10_messagesDropped p1 S = some (.inr 2)) {b9 : Int32} {τ' : HV} (hG : F_X11_messagesDropped p1 τ = some (b9, τ')) (ht : F_X11_thrown τ' = 1) {Q1 : State → Prop} {c n : Nat} (hq1 : qOk X (Q1, c + 1, n + 6)) (kk : gU w X (Q1, c + 1, n + 6) (cA w (S, τ', o)) 3008 [(4, .int i), (0, .ref b), (1, .ref (wAd w (7, 11, 6, 0))), (2, .ref (wAd w (11, 12, 0, 0))), (3, .ref (wAd w (14, 13, 0, 0)))] []) : gU w X (Q1, c, n) (cA w (S, τ, o)) 2155 [(4, .int i), (0, .ref b), (1, .ref (wAd w (7, 11, 6, 0))), (2, .ref (wAd w (11, 12, 0, 0))), (3, .ref (wAd w (14, 13, 0, 0)))] [] := by
  have hq : qOk X (Q1, c + 1, n + 6) := hq1
  refine r_aload_n C (k := 2) rfl rfl dL_law_2155 ?_
  refine r_aload_n C (k := 1) rfl rfl dL_law_2156 ?_
  refine r_iload C (k := 0) rfl dL_law_2157 ?_
  refine r_iconst C (v := 1) rfl dL_law_2159 ?_
  refine r_iadd C dL_law_2160 ?_
  refine r_sld C hX h1.1 h1.2 dL_law_2161 ?_
  refine r_aload_n C (k := 4) rfl rfl dL_law_2162 ?_
  refine r_callH C (ny := 3) (d' := 8) (mc := 1) (ms := 6) [.ref (wAd w (7, 11, 6, 0)), .int p1, .ref (wAd w (14, 13, 0, 0))] (xL_messagesDropped_2 hW hS hZ (Ω := (S, τ, o)) rfl p1 hF) cwL_messagesDropped rfl wm1_0 wm6_71 ⟨by decide, by decide, by decide +kernel⟩ wm6_70 rfl (kR rfl) (by decide) (kR rfl) rfl dL_law_2163 hq1 ?_
  refine r_istore C (lo' := [(5, .int 1), (4, .int i), (0, .ref b), (1, .ref (wAd w (7, 11, 6, 0))), (2, .ref (wAd w (11, 12, 0, 0))), (3, .ref (wAd w (14, 13, 0, 0)))]) (by decide) rfl dL_law_2166 ?_
  refine r_aload_n C (k := 4) rfl rfl dL_law_2168 ?_
  refine r_aload_n C (k := 2) rfl rfl dL_law_2169 ?_
  refine r_iload C (k := 1) rfl dL_law_2170 ?_
  refine r_iconst C (v := 1) rfl dL_law_2172 ?_
  refine r_iadd C dL_law_2173 ?_
  refine r_sld C hX h1.1 h1.2 dL_law_2174 ?_
  refine r_callV C (d' := 3) [.int p1] (c_X11_messagesDropped hM (Ω := (S, τ, o)) rfl p1 hG rfl) myX11_messagesDropped wm9_76 ⟨_, _, _, _, (hM.ok k11), rfl, rfl, rfl, rfl⟩ rfl (kR rfl) (by decide) (kR rfl) rfl dL_law_2175 ?_
  refine r_istore C (lo' := [(6, .int b9), (5, .int 1), (4, .int i), (0, .ref b), (1, .ref (wAd w (7, 11, 6, 0))), (2, .ref (wAd w (11, 12, 0, 0))), (3, .ref (wAd w (14, 13, 0, 0)))]) (by decide) rfl dL_law_2178 ?_
  refine r_aload_n C (k := 5) rfl rfl dL_law_2180 ?_
  refine r_callV C (d' := 0) [] (c_X11_thrown hM (Ω := (S, τ', o)) rfl ht) myX11_thrown wm7_137 ⟨_, _, _, _, (hM.ok k11), rfl, rfl, rfl, rfl⟩ rfl (kR rfl) (by decide) (kR rfl) rfl dL_law_2181 ?_
  refine r_iload C (k := 1) rfl dL_law_2184 ?_
  refine r_icmp_eq C (tgt := 2191) rfl dL_law_2186 (fun _ => ?_) (fun h => absurd rfl h)
  refine r_iload C (k := 1) rfl dL_law_2191 ?_
  refine r_if_ne C (tgt := 2208) rfl dL_law_2193 (fun _ => ?_) (fun h => absurd h (by decide))
  refine r_goto C (tgt := 3008) rfl dL_law_2208 ?_
  refine r_lo [2, 3, 4, 5, 6] (lo' := [(4, .int i), (0, .ref b), (1, .ref (wAd w (7, 11, 6, 0))), (2, .ref (wAd w (11, 12, 0, 0))), (3, .ref (wAd w (14, 13, 0, 0)))]) rfl ?_
  exact kk
