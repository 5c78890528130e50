theorem dL_law__1259 : decode cL_law_ 1259 = .ok (.iaload, 1) := by decide +kernel
theorem dL_law__1260 : decode cL_law_ 1260 = .ok (.aload_n 3, 1) := by decide +kernel
theorem dL_law__1261 : decode cL_law_ 1261 = .ok (.invokestatic 184, 3) := by decide +kernel
theorem dL_law__1264 : decode cL_law_ 1264 = .ok (.istore 5, 2) := by decide +kernel
theorem dL_law__1266 : decode cL_law_ 1266 = .ok (.aload_n 2, 1) := by decide +kernel
theorem dL_law__1267 : decode cL_law_ 1267 = .ok (.aload_n 0, 1) := by decide +kernel
theorem dL_law__1268 : decode cL_law_ 1268 = .ok (.iload 4, 2) := by decide +kernel
theorem dL_law__1270 : decode cL_law_ 1270 = .ok (.iconst 1, 1) := by decide +kernel
theorem dL_law__1271 : decode cL_law_ 1271 = .ok (.iadd, 1) := by decide +kernel
theorem dL_law__1272 : decode cL_law_ 1272 = .ok (.iaload, 1) := by decide +kernel
theorem dL_law__1273 : decode cL_law_ 1273 = .ok (.invokevirtual 186, 3) := by decide +kernel
theorem dL_law__1276 : decode cL_law_ 1276 = .ok (.istore 6, 2) := by decide +kernel
theorem dL_law__1278 : decode cL_law_ 1278 = .ok (.aload_n 2, 1) := by decide +kernel
theorem dL_law__1279 : decode cL_law_ 1279 = .ok (.invokevirtual 111, 3) := by decide +kernel
theorem dL_law__1282 : decode cL_law_ 1282 = .ok (.iload 5, 2) := by decide +kernel
theorem dL_law__1284 : decode cL_law_ 1284 = .ok (.if_icmp .eq 5, 3) := by decide +kernel
theorem dL_law__1287 : decode cL_law_ 1287 = .ok (.iconst 0, 1) := by decide +kernel
theorem dL_law__1288 : decode cL_law_ 1288 = .ok (.ireturn, 1) := by decide +kernel
theorem dL_law__1289 : decode cL_law_ 1289 = .ok (.iload 5, 2) := by decide +kernel
theorem dL_law__1291 : decode cL_law_ 1291 = .ok (.ifCond .ne 15, 3) := by decide +kernel
theorem dL_law__1294 : decode cL_law_ 1294 = .ok (.aload_n 3, 1) := by decide +kernel
theorem dL_law__1295 : decode cL_law_ 1295 = .ok (.iconst 0, 1) := by decide +kernel
theorem dL_law__1296 : decode cL_law_ 1296 = .ok (.laload, 1) := by decide +kernel
theorem dL_law__1297 : decode cL_law_ 1297 = .ok (.iload 6, 2) := by decide +kernel
theorem dL_law__1299 : decode cL_law_ 1299 = .ok (.i2l, 1) := by decide +kernel
theorem dL_law__1300 : decode cL_law_ 1300 = .ok (.lcmp, 1) := by decide +kernel
theorem dL_law__1301 : decode cL_law_ 1301 = .ok (.ifCond .eq 5, 3) := by decide +kernel
theorem dL_law__1304 : decode cL_law_ 1304 = .ok (.iconst 0, 1) := by decide +kernel
theorem dL_law__1305 : decode cL_law_ 1305 = .ok (.ireturn, 1) := by decide +kernel
theorem dL_law__1306 : decode cL_law_ 1306 = .ok (.goto 926, 3) := by decide +kernel
theorem dL_law__1309 : decode cL_law_ 1309 = .ok (.aload_n 1, 1) := by decide +kernel
theorem dL_law__1310 : decode cL_law_ 1310 = .ok (.aload_n 0, 1) := by decide +kernel
theorem dL_law__1311 : decode cL_law_ 1311 = .ok (.iload 4, 2) := by decide +kernel
theorem dL_law__1313 : decode cL_law_ 1313 = .ok (.iconst 1, 1) := by decide +kernel
theorem dL_law__1314 : decode cL_law_ 1314 = .ok (.iadd, 1) := by decide +kernel
theorem dL_law__1315 : decode cL_law_ 1315 = .ok (.iaload, 1) := by decide +kernel
theorem dL_law__1316 : decode cL_law_ 1316 = .ok (.aload_n 3, 1) := by decide +kernel
theorem dL_law__1317 : decode cL_law_ 1317 = .ok (.invokestatic 187, 3) := by decide +kernel
theorem dL_law__1320 : decode cL_law_ 1320 = .ok (.istore 5, 2) := by decide +kernel
theorem dL_law__1322 : decode cL_law_ 1322 = .ok (.aload_n 2, 1) := by decide +kernel
theorem dL_law__1323 : decode cL_law_ 1323 = .ok (.aload_n 0, 1) := by decide +kernel
theorem dL_law__1324 : decode cL_law_ 1324 = .ok (.iload 4, 2) := by decide +kernel
theorem dL_law__1326 : decode cL_law_ 1326 = .ok (.iconst 1, 1) := by decide +kernel
theorem dL_law__1327 : decode cL_law_ 1327 = .ok (.iadd, 1) := by decide +kernel
theorem dL_law__1328 : decode cL_law_ 1328 = .ok (.iaload, 1) := by decide +kernel
theorem dL_law__1329 : decode cL_law_ 1329 = .ok (.invokevirtual 189, 3) := by decide +kernel
theorem dL_law__1332 : decode cL_law_ 1332 = .ok (.istore 6, 2) := by decide +kernel
theorem dL_law__1334 : decode cL_law_ 1334 = .ok (.aload_n 2, 1) := by decide +kernel
theorem dL_law__1335 : decode cL_law_ 1335 = .ok (.invokevirtual 111, 3) := by decide +kernel
theorem dL_law__1338 : decode cL_law_ 1338 = .ok (.iload 5, 2) := by decide +kernel
theorem dL_law__1340 : decode cL_law_ 1340 = .ok (.if_icmp .eq 5, 3) := by decide +kernel
theorem dL_law__1343 : decode cL_law_ 1343 = .ok (.iconst 0, 1) := by decide +kernel
theorem dL_law__1344 : decode cL_law_ 1344 = .ok (.ireturn, 1) := by decide +kernel
theorem dL_law__1345 : decode cL_law_ 1345 = .ok (.iload 5, 2) := by decide +kernel
theorem dL_law__1347 : decode cL_law_ 1347 = .ok (.ifCond .ne 15, 3) := by decide +kernel
theorem dL_law__1350 : decode cL_law_ 1350 = .ok (.aload_n 3, 1) := by decide +kernel
theorem dL_law__1351 : decode cL_law_ 1351 = .ok (.iconst 0, 1) := by decide +kernel
theorem dL_law__1352 : decode cL_law_ 1352 = .ok (.laload, 1) := by decide +kernel
theorem dL_law__1353 : decode cL_law_ 1353 = .ok (.iload 6, 2) := by decide +kernel
theorem dL_law__1355 : decode cL_law_ 1355 = .ok (.i2l, 1) := by decide +kernel
theorem dL_law__1356 : decode cL_law_ 1356 = .ok (.lcmp, 1) := by decide +kernel
theorem dL_law__1357 : decode cL_law_ 1357 = .ok (.ifCond .eq 5, 3) := by decide +kernel
theorem dL_law__1360 : decode cL_law_ 1360 = .ok (.iconst 0, 1) := by decide +kernel
theorem dL_law__1361 : decode cL_law_ 1361 = .ok (.ireturn, 1) := by decide +kernel
theorem dL_law__1362 : decode cL_law_ 1362 = .ok (.goto 870, 3) := by decide +kernel
theorem dL_law__1365 : decode cL_law_ 1365 = .ok (.aload_n 1, 1) := by decide +kernel
theorem dL_law__1366 : decode cL_law_ 1366 = .ok (.aload_n 0, 1) := by decide +kernel
theorem dL_law__1367 : decode cL_law_ 1367 = .ok (.iload 4, 2) := by decide +kernel
theorem dL_law__1369 : decode cL_law_ 1369 = .ok (.iconst 1, 1) := by decide +kernel
theorem dL_law__1370 : decode cL_law_ 1370 = .ok (.iadd, 1) := by decide +kernel
theorem dL_law__1371 : decode cL_law_ 1371 = .ok (.iaload, 1) := by decide +kernel
theorem dL_law__1372 : decode cL_law_ 1372 = .ok (.aload_n 0, 1) := by decide +kernel
theorem dL_law__1373 : decode cL_law_ 1373 = .ok (.iload 4, 2) := by decide +kernel
theorem dL_law__1375 : decode cL_law_ 1375 = .ok (.iconst 2, 1) := by decide +kernel
theorem dL_law__1376 : decode cL_law_ 1376 = .ok (.iadd, 1) := by decide +kernel
theorem dL_law__1377 : decode cL_law_ 1377 = .ok (.iaload, 1) := by decide +kernel
theorem dL_law__1378 : decode cL_law_ 1378 = .ok (.aload_n 3, 1) := by decide +kernel
theorem dL_law__1379 : decode cL_law_ 1379 = .ok (.invokestatic 190, 3) := by decide +kernel
theorem dL_law__1382 : decode cL_law_ 1382 = .ok (.istore 5, 2) := by decide +kernel
theorem dL_law__1384 : decode cL_law_ 1384 = .ok (.aload_n 2, 1) := by decide +kernel
theorem dL_law__1385 : decode cL_law_ 1385 = .ok (.aload_n 0, 1) := by decide +kernel
theorem dL_law__1386 : decode cL_law_ 1386 = .ok (.iload 4, 2) := by decide +kernel
theorem dL_law__1388 : decode cL_law_ 1388 = .ok (.iconst 1, 1) := by decide +kernel
theorem dL_law__1389 : decode cL_law_ 1389 = .ok (.iadd, 1) := by decide +kernel
theorem dL_law__1390 : decode cL_law_ 1390 = .ok (.iaload, 1) := by decide +kernel
theorem dL_law__1391 : decode cL_law_ 1391 = .ok (.aload_n 0, 1) := by decide +kernel
theorem dL_law__1392 : decode cL_law_ 1392 = .ok (.iload 4, 2) := by decide +kernel
theorem dL_law__1394 : decode cL_law_ 1394 = .ok (.iconst 2, 1) := by decide +kernel
theorem dL_law__1395 : decode cL_law_ 1395 = .ok (.iadd, 1) := by decide +kernel
theorem dL_law__1396 : decode cL_law_ 1396 = .ok (.iaload, 1) := by decide +kernel
theorem dL_law__1397 : decode cL_law_ 1397 = .ok (.invokevirtual 192, 3) := by decide +kernel
theorem dL_law__1400 : decode cL_law_ 1400 = .ok (.istore 6, 2) := by decide +kernel
theorem dL_law__1402 : decode cL_law_ 1402 = .ok (.aload_n 2, 1) := by decide +kernel
theorem dL_law__1403 : decode cL_law_ 1403 = .ok (.invokevirtual 111, 3) := by decide +kernel
theorem dL_law__1406 : decode cL_law_ 1406 = .ok (.iload 5, 2) := by decide +kernel
theorem dL_law__1408 : decode cL_law_ 1408 = .ok (.if_icmp .eq 5, 3) := by decide +kernel
theorem dL_law__1411 : decode cL_law_ 1411 = .ok (.iconst 0, 1) := by decide +kernel
theorem dL_law__1412 : decode cL_law_ 1412 = .ok (.ireturn, 1) := by decide +kernel
theorem dL_law__1413 : decode cL_law_ 1413 = .ok (.iload 5, 2) := by decide +kernel
theorem dL_law__1415 : decode cL_law_ 1415 = .ok (.ifCond .ne 15, 3) := by decide +kernel
theorem dL_law__1418 : decode cL_law_ 1418 = .ok (.aload_n 3, 1) := by decide +kernel
theorem dL_law__1419 : decode cL_law_ 1419 = .ok (.iconst 0, 1) := by decide +kernel
theorem dL_law__1420 : decode cL_law_ 1420 = .ok (.laload, 1) := by decide +kernel
theorem dL_law__1421 : decode cL_law_ 1421 = .ok (.iload 6, 2) := by decide +kernel
theorem dL_law__1423 : decode cL_law_ 1423 = .ok (.i2l, 1) := by decide +kernel
theorem dL_law__1424 : decode cL_law_ 1424 = .ok (.lcmp, 1) := by decide +kernel
theorem dL_law__1425 : decode cL_law_ 1425 = .ok (.ifCond .eq 5, 3) := by decide +kernel
theorem dL_law__1428 : decode cL_law_ 1428 = .ok (.iconst 0, 1) := by decide +kernel
theorem dL_law__1429 : decode cL_law_ 1429 = .ok (.ireturn, 1) := by decide +kernel
theorem dL_law__1430 : decode cL_law_ 1430 = .ok (.goto 802, 3) := by decide +kernel
theorem dL_law__1433 : decode cL_law_ 1433 = .ok (.aload_n 1, 1) := by decide +kernel
theorem dL_law__1434 : decode cL_law_ 1434 = .ok (.aload_n 0, 1) := by decide +kernel
theorem dL_law__1435 : decode cL_law_ 1435 = .ok (.iload 4, 2) := by decide +kernel
theorem dL_law__1437 : decode cL_law_ 1437 = .ok (.iconst 1, 1) := by decide +kernel
theorem dL_law__1438 : decode cL_law_ 1438 = .ok (.iadd, 1) := by decide +kernel
theorem dL_law__1439 : decode cL_law_ 1439 = .ok (.iaload, 1) := by decide +kernel
theorem dL_law__1440 : decode cL_law_ 1440 = .ok (.aload_n 0, 1) := by decide +kernel
theorem dL_law__1441 : decode cL_law_ 1441 = .ok (.iload 4, 2) := by decide +kernel
theorem dL_law__1443 : decode cL_law_ 1443 = .ok (.iconst 2, 1) := by decide +kernel
theorem dL_law__1444 : decode cL_law_ 1444 = .ok (.iadd, 1) := by decide +kernel
theorem dL_law__1445 : decode cL_law_ 1445 = .ok (.iaload, 1) := by decide +kernel
theorem dL_law__1446 : decode cL_law_ 1446 = .ok (.aload_n 3, 1) := by decide +kernel
theorem dL_law__1447 : decode cL_law_ 1447 = .ok (.invokestatic 193, 3) := by decide +kernel
theorem dL_law__1450 : decode cL_law_ 1450 = .ok (.istore 5, 2) := by decide +kernel
theorem dL_law__1452 : decode cL_law_ 1452 = .ok (.aload_n 2, 1) := by decide +kernel
theorem dL_law__1453 : decode cL_law_ 1453 = .ok (.aload_n 0, 1) := by decide +kernel
theorem dL_law__1454 : decode cL_law_ 1454 = .ok (.iload 4, 2) := by decide +kernel
theorem dL_law__1456 : decode cL_law_ 1456 = .ok (.iconst 1, 1) := by decide +kernel
theorem dL_law__1457 : decode cL_law_ 1457 = .ok (.iadd, 1) := by decide +kernel
theorem dL_law__1458 : decode cL_law_ 1458 = .ok (.iaload, 1) := by decide +kernel
theorem dL_law__1459 : decode cL_law_ 1459 = .ok (.aload_n 0, 1) := by decide +kernel
theorem dL_law__1460 : decode cL_law_ 1460 = .ok (.iload 4, 2) := by decide +kernel
theorem dL_law__1462 : decode cL_law_ 1462 = .ok (.iconst 2, 1) := by decide +kernel
theorem dL_law__1463 : decode cL_law_ 1463 = .ok (.iadd, 1) := by decide +kernel
theorem dL_law__1464 : decode cL_law_ 1464 = .ok (.iaload, 1) := by decide +kernel
theorem dL_law__1465 : decode cL_law_ 1465 = .ok (.invokevirtual 195, 3) := by decide +kernel
theorem dL_law__1468 : decode cL_law_ 1468 = .ok (.istore 6, 2) := by decide +kernel
theorem dL_law__1470 : decode cL_law_ 1470 = .ok (.aload_n 2, 1) := by decide +kernel
theorem dL_law__1471 : decode cL_law_ 1471 = .ok (.invokevirtual 111, 3) := by decide +kernel
theorem dL_law__1474 : decode cL_law_ 1474 = .ok (.iload 5, 2) := by decide +kernel
theorem dL_law__1476 : decode cL_law_ 1476 = .ok (.if_icmp .eq 5, 3) := by decide +kernel
theorem dL_law__1479 : decode cL_law_ 1479 = .ok (.iconst 0, 1) := by decide +kernel
theorem dL_law__1480 : decode cL_law_ 1480 = .ok (.ireturn, 1) := by decide +kernel
theorem dL_law__1481 : decode cL_law_ 1481 = .ok (.iload 5, 2) := by decide +kernel
theorem dL_law__1483 : decode cL_law_ 1483 = .ok (.ifCond .ne 15, 3) := by decide +kernel
theorem dL_law__1486 : decode cL_law_ 1486 = .ok (.aload_n 3, 1) := by decide +kernel
theorem dL_law__1487 : decode cL_law_ 1487 = .ok (.iconst 0, 1) := by decide +kernel
theorem dL_law__1488 : decode cL_law_ 1488 = .ok (.laload, 1) := by decide +kernel
theorem dL_law__1489 : decode cL_law_ 1489 = .ok (.iload 6, 2) := by decide +kernel
theorem dL_law__1491 : decode cL_law_ 1491 = .ok (.i2l, 1) := by decide +kernel
theorem dL_law__1492 : decode cL_law_ 1492 = .ok (.lcmp, 1) := by decide +kernel
theorem dL_law__1493 : decode cL_law_ 1493 = .ok (.ifCond .eq 5, 3) := by decide +kernel
theorem dL_law__1496 : decode cL_law_ 1496 = .ok (.iconst 0, 1) := by decide +kernel
theorem dL_law__1497 : decode cL_law_ 1497 = .ok (.ireturn, 1) := by decide +kernel
theorem dL_law__1498 : decode cL_law_ 1498 = .ok (.goto 734, 3) := by decide +kernel
theorem dL_law__1501 : decode cL_law_ 1501 = .ok (.aload_n 1, 1) := by decide +kernel
theorem dL_law__1502 : decode cL_law_ 1502 = .ok (.invokevirtual 196, 3) := by decide +kernel
theorem dL_law__1505 : decode cL_law_ 1505 = .ok (.aload_n 2, 1) := by decide +kernel
theorem dL_law__1506 : decode cL_law_ 1506 = .ok (.invokevirtual 199, 3) := by decide +kernel
theorem dL_law__1509 : decode cL_law_ 1509 = .ok (.if_icmp .eq 723, 3) := by decide +kernel
theorem dL_law__1512 : decode cL_law_ 1512 = .ok (.iconst 0, 1) := by decide +kernel
theorem dL_law__1513 : decode cL_law_ 1513 = .ok (.ireturn, 1) := by decide +kernel
theorem dL_law__1514 : decode cL_law_ 1514 = .ok (.aload_n 1, 1) := by decide +kernel
theorem dL_law__1515 : decode cL_law_ 1515 = .ok (.invokevirtual 200, 3) := by decide +kernel
theorem dL_law__1518 : decode cL_law_ 1518 = .ok (.aload_n 2, 1) := by decide +kernel
theorem dL_law__1519 : decode cL_law_ 1519 = .ok (.invokevirtual 203, 3) := by decide +kernel
theorem dL_law__1522 : decode cL_law_ 1522 = .ok (.if_icmp .eq 710, 3) := by decide +kernel
theorem dL_law__1525 : decode cL_law_ 1525 = .ok (.iconst 0, 1) := by decide +kernel
theorem dL_law__1526 : decode cL_law_ 1526 = .ok (.ireturn, 1) := by decide +kernel
theorem dL_law__1527 : decode cL_law_ 1527 = .ok (.aload_n 1, 1) := by decide +kernel
theorem dL_law__1528 : decode cL_law_ 1528 = .ok (.aload_n 0, 1) := by decide +kernel
theorem dL_law__1529 : decode cL_law_ 1529 = .ok (.iload 4, 2) := by decide +kernel
theorem dL_law__1531 : decode cL_law_ 1531 = .ok (.iconst 1, 1) := by decide +kernel
theorem dL_law__1532 : decode cL_law_ 1532 = .ok (.iadd, 1) := by decide +kernel
theorem dL_law__1533 : decode cL_law_ 1533 = .ok (.iaload, 1) := by decide +kernel
theorem dL_law__1534 : decode cL_law_ 1534 = .ok (.aload_n 0, 1) := by decide +kernel
theorem dL_law__1535 : decode cL_law_ 1535 = .ok (.iload 4, 2) := by decide +kernel
theorem dL_law__1537 : decode cL_law_ 1537 = .ok (.iconst 2, 1) := by decide +kernel
theorem dL_law__1538 : decode cL_law_ 1538 = .ok (.iadd, 1) := by decide +kernel
theorem dL_law__1539 : decode cL_law_ 1539 = .ok (.iaload, 1) := by decide +kernel
theorem dL_law__1540 : decode cL_law_ 1540 = .ok (.aload_n 0, 1) := by decide +kernel
theorem dL_law__1541 : decode cL_law_ 1541 = .ok (.iload 4, 2) := by decide +kernel
theorem dL_law__1543 : decode cL_law_ 1543 = .ok (.iconst 3, 1) := by decide +kernel
theorem dL_law__1544 : decode cL_law_ 1544 = .ok (.iadd, 1) := by decide +kernel
theorem dL_law__1545 : decode cL_law_ 1545 = .ok (.iaload, 1) := by decide +kernel
theorem dL_law__1546 : decode cL_law_ 1546 = .ok (.aload_n 3, 1) := by decide +kernel
theorem dL_law__1547 : decode cL_law_ 1547 = .ok (.invokestatic 204, 3) := by decide +kernel
theorem dL_law__1550 : decode cL_law_ 1550 = .ok (.istore 5, 2) := by decide +kernel
theorem dL_law__1552 : decode cL_law_ 1552 = .ok (.aload_n 2, 1) := by decide +kernel
theorem dL_law__1553 : decode cL_law_ 1553 = .ok (.aload_n 0, 1) := by decide +kernel
theorem dL_law__1554 : decode cL_law_ 1554 = .ok (.iload 4, 2) := by decide +kernel
theorem dL_law__1556 : decode cL_law_ 1556 = .ok (.iconst 1, 1) := by decide +kernel
theorem dL_law__1557 : decode cL_law_ 1557 = .ok (.iadd, 1) := by decide +kernel
theorem dL_law__1558 : decode cL_law_ 1558 = .ok (.iaload, 1) := by decide +kernel
theorem dL_law__1559 : decode cL_law_ 1559 = .ok (.aload_n 0, 1) := by decide +kernel
theorem dL_law__1560 : decode cL_law_ 1560 = .ok (.iload 4, 2) := by decide +kernel
theorem dL_law__1562 : decode cL_law_ 1562 = .ok (.iconst 2, 1) := by decide +kernel
theorem dL_law__1563 : decode cL_law_ 1563 = .ok (.iadd, 1) := by decide +kernel
theorem dL_law__1564 : decode cL_law_ 1564 = .ok (.iaload, 1) := by decide +kernel
theorem dL_law__1565 : decode cL_law_ 1565 = .ok (.aload_n 0, 1) := by decide +kernel
theorem dL_law__1566 : decode cL_law_ 1566 = .ok (.iload 4, 2) := by decide +kernel
theorem dL_law__1568 : decode cL_law_ 1568 = .ok (.iconst 3, 1) := by decide +kernel
theorem dL_law__1569 : decode cL_law_ 1569 = .ok (.iadd, 1) := by decide +kernel
theorem dL_law__1570 : decode cL_law_ 1570 = .ok (.iaload, 1) := by decide +kernel
theorem dL_law__1571 : decode cL_law_ 1571 = .ok (.invokevirtual 206, 3) := by decide +kernel
theorem dL_law__1574 : decode cL_law_ 1574 = .ok (.istore 6, 2) := by decide +kernel
theorem dL_law__1576 : decode cL_law_ 1576 = .ok (.aload_n 2, 1) := by decide +kernel
theorem dL_law__1577 : decode cL_law_ 1577 = .ok (.invokevirtual 111, 3) := by decide +kernel
theorem dL_law__1580 : decode cL_law_ 1580 = .ok (.iload 5, 2) := by decide +kernel
theorem dL_law__1582 : decode cL_law_ 1582 = .ok (.if_icmp .eq 5, 3) := by decide +kernel
theorem dL_law__1585 : decode cL_law_ 1585 = .ok (.iconst 0, 1) := by decide +kernel
theorem dL_law__1586 : decode cL_law_ 1586 = .ok (.ireturn, 1) := by decide +kernel
theorem dL_law__1587 : decode cL_law_ 1587 = .ok (.iload 5, 2) := by decide +kernel
theorem dL_law__1589 : decode cL_law_ 1589 = .ok (.ifCond .ne 15, 3) := by decide +kernel
theorem dL_law__1592 : decode cL_law_ 1592 = .ok (.aload_n 3, 1) := by decide +kernel
theorem dL_law__1593 : decode cL_law_ 1593 = .ok (.iconst 0, 1) := by decide +kernel
theorem dL_law__1594 : decode cL_law_ 1594 = .ok (.laload, 1) := by decide +kernel
theorem dL_law__1595 : decode cL_law_ 1595 = .ok (.iload 6, 2) := by decide +kernel
theorem dL_law__1597 : decode cL_law_ 1597 = .ok (.i2l, 1) := by decide +kernel
theorem dL_law__1598 : decode cL_law_ 1598 = .ok (.lcmp, 1) := by decide +kernel
theorem dL_law__1599 : decode cL_law_ 1599 = .ok (.ifCond .eq 5, 3) := by decide +kernel
theorem dL_law__1602 : decode cL_law_ 1602 = .ok (.iconst 0, 1) := by decide +kernel
theorem dL_law__1603 : decode cL_law_ 1603 = .ok (.ireturn, 1) := by decide +kernel
theorem dL_law__1604 : decode cL_law_ 1604 = .ok (.goto 628, 3) := by decide +kernel
theorem dL_law__1607 : decode cL_law_ 1607 = .ok (.aload_n 1, 1) := by decide +kernel
theorem dL_law__1608 : decode cL_law_ 1608 = .ok (.aload_n 0, 1) := by decide +kernel
theorem dL_law__1609 : decode cL_law_ 1609 = .ok (.iload 4, 2) := by decide +kernel
theorem dL_law__1611 : decode cL_law_ 1611 = .ok (.iconst 1, 1) := by decide +kernel
theorem dL_law__1612 : decode cL_law_ 1612 = .ok (.iadd, 1) := by decide +kernel
theorem dL_law__1613 : decode cL_law_ 1613 = .ok (.iaload, 1) := by decide +kernel
theorem dL_law__1614 : decode cL_law_ 1614 = .ok (.aload_n 0, 1) := by decide +kernel
theorem dL_law__1615 : decode cL_law_ 1615 = .ok (.iload 4, 2) := by decide +kernel
theorem dL_law__1617 : decode cL_law_ 1617 = .ok (.iconst 2, 1) := by decide +kernel
theorem dL_law__1618 : decode cL_law_ 1618 = .ok (.iadd, 1) := by decide +kernel
theorem dL_law__1619 : decode cL_law_ 1619 = .ok (.iaload, 1) := by decide +kernel
theorem dL_law__1620 : decode cL_law_ 1620 = .ok (.aload_n 0, 1) := by decide +kernel
theorem dL_law__1621 : decode cL_law_ 1621 = .ok (.iload 4, 2) := by decide +kernel
theorem dL_law__1623 : decode cL_law_ 1623 = .ok (.iconst 3, 1) := by decide +kernel
theorem dL_law__1624 : decode cL_law_ 1624 = .ok (.iadd, 1) := by decide +kernel
theorem dL_law__1625 : decode cL_law_ 1625 = .ok (.iaload, 1) := by decide +kernel
theorem dL_law__1626 : decode cL_law_ 1626 = .ok (.aload_n 0, 1) := by decide +kernel
theorem dL_law__1627 : decode cL_law_ 1627 = .ok (.iload 4, 2) := by decide +kernel
theorem dL_law__1629 : decode cL_law_ 1629 = .ok (.iconst 4, 1) := by decide +kernel
theorem dL_law__1630 : decode cL_law_ 1630 = .ok (.iadd, 1) := by decide +kernel
theorem dL_law__1631 : decode cL_law_ 1631 = .ok (.iaload, 1) := by decide +kernel
theorem dL_law__1632 : decode cL_law_ 1632 = .ok (.aload_n 3, 1) := by decide +kernel
theorem dL_law__1633 : decode cL_law_ 1633 = .ok (.invokestatic 207, 3) := by decide +kernel
theorem dL_law__1636 : decode cL_law_ 1636 = .ok (.istore 5, 2) := by decide +kernel
theorem dL_law__1638 : decode cL_law_ 1638 = .ok (.aload_n 2, 1) := by decide +kernel
theorem dL_law__1639 : decode cL_law_ 1639 = .ok (.aload_n 0, 1) := by decide +kernel
theorem dL_law__1640 : decode cL_law_ 1640 = .ok (.iload 4, 2) := by decide +kernel
theorem dL_law__1642 : decode cL_law_ 1642 = .ok (.iconst 1, 1) := by decide +kernel
theorem dL_law__1643 : decode cL_law_ 1643 = .ok (.iadd, 1) := by decide +kernel
theorem dL_law__1644 : decode cL_law_ 1644 = .ok (.iaload, 1) := by decide +kernel
theorem dL_law__1645 : decode cL_law_ 1645 = .ok (.aload_n 0, 1) := by decide +kernel
theorem dL_law__1646 : decode cL_law_ 1646 = .ok (.iload 4, 2) := by decide +kernel
theorem dL_law__1648 : decode cL_law_ 1648 = .ok (.iconst 2, 1) := by decide +kernel
theorem dL_law__1649 : decode cL_law_ 1649 = .ok (.iadd, 1) := by decide +kernel
theorem dL_law__1650 : decode cL_law_ 1650 = .ok (.iaload, 1) := by decide +kernel
theorem dL_law__1651 : decode cL_law_ 1651 = .ok (.aload_n 0, 1) := by decide +kernel
theorem dL_law__1652 : decode cL_law_ 1652 = .ok (.iload 4, 2) := by decide +kernel
theorem dL_law__1654 : decode cL_law_ 1654 = .ok (.iconst 3, 1) := by decide +kernel
theorem dL_law__1655 : decode cL_law_ 1655 = .ok (.iadd, 1) := by decide +kernel
theorem dL_law__1656 : decode cL_law_ 1656 = .ok (.iaload, 1) := by decide +kernel
theorem dL_law__1657 : decode cL_law_ 1657 = .ok (.aload_n 0, 1) := by decide +kernel
theorem dL_law__1658 : decode cL_law_ 1658 = .ok (.iload 4, 2) := by decide +kernel
theorem dL_law__1660 : decode cL_law_ 1660 = .ok (.iconst 4, 1) := by decide +kernel
theorem dL_law__1661 : decode cL_law_ 1661 = .ok (.iadd, 1) := by decide +kernel
theorem dL_law__1662 : decode cL_law_ 1662 = .ok (.iaload, 1) := by decide +kernel
theorem dL_law__1663 : decode cL_law_ 1663 = .ok (.invokevirtual 210, 3) := by decide +kernel
theorem dL_law__1666 : decode cL_law_ 1666 = .ok (.lstore 6, 2) := by decide +kernel
theorem dL_law__1668 : decode cL_law_ 1668 = .ok (.aload_n 2, 1) := by decide +kernel
theorem dL_law__1669 : decode cL_law_ 1669 = .ok (.invokevirtual 111, 3) := by decide +kernel
theorem dL_law__1672 : decode cL_law_ 1672 = .ok (.iload 5, 2) := by decide +kernel
theorem dL_law__1674 : decode cL_law_ 1674 = .ok (.if_icmp .eq 5, 3) := by decide +kernel
theorem dL_law__1677 : decode cL_law_ 1677 = .ok (.iconst 0, 1) := by decide +kernel
theorem dL_law__1678 : decode cL_law_ 1678 = .ok (.ireturn, 1) := by decide +kernel
theorem dL_law__1679 : decode cL_law_ 1679 = .ok (.iload 5, 2) := by decide +kernel
theorem dL_law__1681 : decode cL_law_ 1681 = .ok (.ifCond .ne 14, 3) := by decide +kernel
theorem dL_law__1684 : decode cL_law_ 1684 = .ok (.aload_n 3, 1) := by decide +kernel
theorem dL_law__1685 : decode cL_law_ 1685 = .ok (.iconst 0, 1) := by decide +kernel
theorem dL_law__1686 : decode cL_law_ 1686 = .ok (.laload, 1) := by decide +kernel
theorem dL_law__1687 : decode cL_law_ 1687 = .ok (.lload 6, 2) := by decide +kernel
theorem dL_law__1689 : decode cL_law_ 1689 = .ok (.lcmp, 1) := by decide +kernel
theorem dL_law__1690 : decode cL_law_ 1690 = .ok (.ifCond .eq 5, 3) := by decide +kernel
theorem dL_law__1693 : decode cL_law_ 1693 = .ok (.iconst 0, 1) := by decide +kernel
theorem dL_law__1694 : decode cL_law_ 1694 = .ok (.ireturn, 1) := by decide +kernel
theorem dL_law__1695 : decode cL_law_ 1695 = .ok (.goto 537, 3) := by decide +kernel
theorem dL_law__1698 : decode cL_law_ 1698 = .ok (.aload_n 1, 1) := by decide +kernel
theorem dL_law__1699 : decode cL_law_ 1699 = .ok (.aload_n 0, 1) := by decide +kernel
theorem dL_law__1700 : decode cL_law_ 1700 = .ok (.iload 4, 2) := by decide +kernel
theorem dL_law__1702 : decode cL_law_ 1702 = .ok (.iconst 1, 1) := by decide +kernel
theorem dL_law__1703 : decode cL_law_ 1703 = .ok (.iadd, 1) := by decide +kernel
theorem dL_law__1704 : decode cL_law_ 1704 = .ok (.iaload, 1) := by decide +kernel
theorem dL_law__1705 : decode cL_law_ 1705 = .ok (.aload_n 0, 1) := by decide +kernel
theorem dL_law__1706 : decode cL_law_ 1706 = .ok (.iload 4, 2) := by decide +kernel
theorem dL_law__1708 : decode cL_law_ 1708 = .ok (.iconst 2, 1) := by decide +kernel
theorem dL_law__1709 : decode cL_law_ 1709 = .ok (.iadd, 1) := by decide +kernel
theorem dL_law__1710 : decode cL_law_ 1710 = .ok (.iaload, 1) := by decide +kernel
theorem dL_law__1711 : decode cL_law_ 1711 = .ok (.aload_n 0, 1) := by decide +kernel
theorem dL_law__1712 : decode cL_law_ 1712 = .ok (.iload 4, 2) := by decide +kernel
theorem dL_law__1714 : decode cL_law_ 1714 = .ok (.iconst 3, 1) := by decide +kernel
theorem dL_law__1715 : decode cL_law_ 1715 = .ok (.iadd, 1) := by decide +kernel
theorem dL_law__1716 : decode cL_law_ 1716 = .ok (.iaload, 1) := by decide +kernel
theorem dL_law__1717 : decode cL_law_ 1717 = .ok (.aload_n 3, 1) := by decide +kernel
theorem dL_law__1718 : decode cL_law_ 1718 = .ok (.invokestatic 211, 3) := by decide +kernel
theorem dL_law__1721 : decode cL_law_ 1721 = .ok (.istore 5, 2) := by decide +kernel
theorem dL_law__1723 : decode cL_law_ 1723 = .ok (.aload_n 2, 1) := by decide +kernel
theorem dL_law__1724 : decode cL_law_ 1724 = .ok (.aload_n 0, 1) := by decide +kernel
theorem dL_law__1725 : decode cL_law_ 1725 = .ok (.iload 4, 2) := by decide +kernel
theorem dL_law__1727 : decode cL_law_ 1727 = .ok (.iconst 1, 1) := by decide +kernel
theorem dL_law__1728 : decode cL_law_ 1728 = .ok (.iadd, 1) := by decide +kernel
theorem dL_law__1729 : decode cL_law_ 1729 = .ok (.iaload, 1) := by decide +kernel
theorem dL_law__1730 : decode cL_law_ 1730 = .ok (.aload_n 0, 1) := by decide +kernel
theorem dL_law__1731 : decode cL_law_ 1731 = .ok (.iload 4, 2) := by decide +kernel
theorem dL_law__1733 : decode cL_law_ 1733 = .ok (.iconst 2, 1) := by decide +kernel
theorem dL_law__1734 : decode cL_law_ 1734 = .ok (.iadd, 1) := by decide +kernel
theorem dL_law__1735 : decode cL_law_ 1735 = .ok (.iaload, 1) := by decide +kernel
theorem dL_law__1736 : decode cL_law_ 1736 = .ok (.aload_n 0, 1) := by decide +kernel
theorem dL_law__1737 : decode cL_law_ 1737 = .ok (.iload 4, 2) := by decide +kernel
theorem dL_law__1739 : decode cL_law_ 1739 = .ok (.iconst 3, 1) := by decide +kernel
theorem dL_law__1740 : decode cL_law_ 1740 = .ok (.iadd, 1) := by decide +kernel
theorem dL_law__1741 : decode cL_law_ 1741 = .ok (.iaload, 1) := by decide +kernel
theorem dL_law__1742 : decode cL_law_ 1742 = .ok (.invokevirtual 213, 3) := by decide +kernel
theorem dL_law__1745 : decode cL_law_ 1745 = .ok (.istore 6, 2) := by decide +kernel
theorem dL_law__1747 : decode cL_law_ 1747 = .ok (.aload_n 2, 1) := by decide +kernel
theorem dL_law__1748 : decode cL_law_ 1748 = .ok (.invokevirtual 111, 3) := by decide +kernel
theorem dL_law__1751 : decode cL_law_ 1751 = .ok (.iload 5, 2) := by decide +kernel
theorem dL_law__1753 : decode cL_law_ 1753 = .ok (.if_icmp .eq 5, 3) := by decide +kernel
theorem dL_law__1756 : decode cL_law_ 1756 = .ok (.iconst 0, 1) := by decide +kernel
theorem dL_law__1757 : decode cL_law_ 1757 = .ok (.ireturn, 1) := by decide +kernel
theorem dL_law__1758 : decode cL_law_ 1758 = .ok (.iload 5, 2) := by decide +kernel
theorem dL_law__1760 : decode cL_law_ 1760 = .ok (.ifCond .ne 15, 3) := by decide +kernel
theorem dL_law__1763 : decode cL_law_ 1763 = .ok (.aload_n 3, 1) := by decide +kernel
theorem dL_law__1764 : decode cL_law_ 1764 = .ok (.iconst 0, 1) := by decide +kernel
theorem dL_law__1765 : decode cL_law_ 1765 = .ok (.laload, 1) := by decide +kernel
theorem dL_law__1766 : decode cL_law_ 1766 = .ok (.iload 6, 2) := by decide +kernel
theorem dL_law__1768 : decode cL_law_ 1768 = .ok (.i2l, 1) := by decide +kernel
theorem dL_law__1769 : decode cL_law_ 1769 = .ok (.lcmp, 1) := by decide +kernel
theorem dL_law__1770 : decode cL_law_ 1770 = .ok (.ifCond .eq 5, 3) := by decide +kernel
theorem dL_law__1773 : decode cL_law_ 1773 = .ok (.iconst 0, 1) := by decide +kernel
theorem dL_law__1774 : decode cL_law_ 1774 = .ok (.ireturn, 1) := by decide +kernel
theorem dL_law__1775 : decode cL_law_ 1775 = .ok (.goto 457, 3) := by decide +kernel
theorem dL_law__1778 : decode cL_law_ 1778 = .ok (.aload_n 1, 1) := by decide +kernel
theorem dL_law__1779 : decode cL_law_ 1779 = .ok (.aload_n 0, 1) := by decide +kernel
theorem dL_law__1780 : decode cL_law_ 1780 = .ok (.iload 4, 2) := by decide +kernel
theorem dL_law__1782 : decode cL_law_ 1782 = .ok (.iconst 1, 1) := by decide +kernel
theorem dL_law__1783 : decode cL_law_ 1783 = .ok (.iadd, 1) := by decide +kernel
theorem dL_law__1784 : decode cL_law_ 1784 = .ok (.iaload, 1) := by decide +kernel
theorem dL_law__1785 : decode cL_law_ 1785 = .ok (.aload_n 3, 1) := by decide +kernel
theorem dL_law__1786 : decode cL_law_ 1786 = .ok (.invokestatic 214, 3) := by decide +kernel
theorem dL_law__1789 : decode cL_law_ 1789 = .ok (.istore 5, 2) := by decide +kernel
theorem dL_law__1791 : decode cL_law_ 1791 = .ok (.aload_n 2, 1) := by decide +kernel
theorem dL_law__1792 : decode cL_law_ 1792 = .ok (.aload_n 0, 1) := by decide +kernel
theorem dL_law__1793 : decode cL_law_ 1793 = .ok (.iload 4, 2) := by decide +kernel
theorem dL_law__1795 : decode cL_law_ 1795 = .ok (.iconst 1, 1) := by decide +kernel
theorem dL_law__1796 : decode cL_law_ 1796 = .ok (.iadd, 1) := by decide +kernel
theorem dL_law__1797 : decode cL_law_ 1797 = .ok (.iaload, 1) := by decide +kernel
theorem dL_law__1798 : decode cL_law_ 1798 = .ok (.invokevirtual 216, 3) := by decide +kernel
theorem dL_law__1801 : decode cL_law_ 1801 = .ok (.istore 6, 2) := by decide +kernel
theorem dL_law__1803 : decode cL_law_ 1803 = .ok (.aload_n 2, 1) := by decide +kernel
theorem dL_law__1804 : decode cL_law_ 1804 = .ok (.invokevirtual 111, 3) := by decide +kernel
theorem dL_law__1807 : decode cL_law_ 1807 = .ok (.iload 5, 2) := by decide +kernel
theorem dL_law__1809 : decode cL_law_ 1809 = .ok (.if_icmp .eq 5, 3) := by decide +kernel
theorem dL_law__1812 : decode cL_law_ 1812 = .ok (.iconst 0, 1) := by decide +kernel
theorem dL_law__1813 : decode cL_law_ 1813 = .ok (.ireturn, 1) := by decide +kernel
theorem dL_law__1814 : decode cL_law_ 1814 = .ok (.iload 5, 2) := by decide +kernel
theorem dL_law__1816 : decode cL_law_ 1816 = .ok (.ifCond .ne 15, 3) := by decide +kernel
theorem dL_law__1819 : decode cL_law_ 1819 = .ok (.aload_n 3, 1) := by decide +kernel
theorem dL_law__1820 : decode cL_law_ 1820 = .ok (.iconst 0, 1) := by decide +kernel
theorem dL_law__1821 : decode cL_law_ 1821 = .ok (.laload, 1) := by decide +kernel
theorem dL_law__1822 : decode cL_law_ 1822 = .ok (.iload 6, 2) := by decide +kernel
theorem dL_law__1824 : decode cL_law_ 1824 = .ok (.i2l, 1) := by decide +kernel
theorem dL_law__1825 : decode cL_law_ 1825 = .ok (.lcmp, 1) := by decide +kernel
theorem dL_law__1826 : decode cL_law_ 1826 = .ok (.ifCond .eq 5, 3) := by decide +kernel
theorem dL_law__1829 : decode cL_law_ 1829 = .ok (.iconst 0, 1) := by decide +kernel
theorem dL_law__1830 : decode cL_law_ 1830 = .ok (.ireturn, 1) := by decide +kernel
theorem dL_law__1831 : decode cL_law_ 1831 = .ok (.goto 401, 3) := by decide +kernel
theorem dL_law__1834 : decode cL_law_ 1834 = .ok (.aload_n 1, 1) := by decide +kernel
theorem dL_law__1835 : decode cL_law_ 1835 = .ok (.aload_n 0, 1) := by decide +kernel
theorem dL_law__1836 : decode cL_law_ 1836 = .ok (.iload 4, 2) := by decide +kernel
theorem dL_law__1838 : decode cL_law_ 1838 = .ok (.iconst 1, 1) := by decide +kernel
theorem dL_law__1839 : decode cL_law_ 1839 = .ok (.iadd, 1) := by decide +kernel
theorem dL_law__1840 : decode cL_law_ 1840 = .ok (.iaload, 1) := by decide +kernel
theorem dL_law__1841 : decode cL_law_ 1841 = .ok (.aload_n 3, 1) := by decide +kernel
theorem dL_law__1842 : decode cL_law_ 1842 = .ok (.invokestatic 217, 3) := by decide +kernel
theorem dL_law__1845 : decode cL_law_ 1845 = .ok (.istore 5, 2) := by decide +kernel
theorem dL_law__1847 : decode cL_law_ 1847 = .ok (.aload_n 2, 1) := by decide +kernel
theorem dL_law__1848 : decode cL_law_ 1848 = .ok (.aload_n 0, 1) := by decide +kernel
theorem dL_law__1849 : decode cL_law_ 1849 = .ok (.iload 4, 2) := by decide +kernel
theorem dL_law__1851 : decode cL_law_ 1851 = .ok (.iconst 1, 1) := by decide +kernel
theorem dL_law__1852 : decode cL_law_ 1852 = .ok (.iadd, 1) := by decide +kernel
theorem dL_law__1853 : decode cL_law_ 1853 = .ok (.iaload, 1) := by decide +kernel
theorem dL_law__1854 : decode cL_law_ 1854 = .ok (.invokevirtual 219, 3) := by decide +kernel
theorem dL_law__1857 : decode cL_law_ 1857 = .ok (.istore 6, 2) := by decide +kernel
theorem dL_law__1859 : decode cL_law_ 1859 = .ok (.aload_n 2, 1) := by decide +kernel
theorem dL_law__1860 : decode cL_law_ 1860 = .ok (.invokevirtual 111, 3) := by decide +kernel
theorem dL_law__1863 : decode cL_law_ 1863 = .ok (.iload 5, 2) := by decide +kernel
theorem dL_law__1865 : decode cL_law_ 1865 = .ok (.if_icmp .eq 5, 3) := by decide +kernel
theorem dL_law__1868 : decode cL_law_ 1868 = .ok (.iconst 0, 1) := by decide +kernel
theorem dL_law__1869 : decode cL_law_ 1869 = .ok (.ireturn, 1) := by decide +kernel
theorem dL_law__1870 : decode cL_law_ 1870 = .ok (.iload 5, 2) := by decide +kernel
theorem dL_law__1872 : decode cL_law_ 1872 = .ok (.ifCond .ne 15, 3) := by decide +kernel
theorem dL_law__1875 : decode cL_law_ 1875 = .ok (.aload_n 3, 1) := by decide +kernel
theorem dL_law__1876 : decode cL_law_ 1876 = .ok (.iconst 0, 1) := by decide +kernel
theorem dL_law__1877 : decode cL_law_ 1877 = .ok (.laload, 1) := by decide +kernel
theorem dL_law__1878 : decode cL_law_ 1878 = .ok (.iload 6, 2) := by decide +kernel
theorem dL_law__1880 : decode cL_law_ 1880 = .ok (.i2l, 1) := by decide +kernel
theorem dL_law__1881 : decode cL_law_ 1881 = .ok (.lcmp, 1) := by decide +kernel
theorem dL_law__1882 : decode cL_law_ 1882 = .ok (.ifCond .eq 5, 3) := by decide +kernel
theorem dL_law__1885 : decode cL_law_ 1885 = .ok (.iconst 0, 1) := by decide +kernel
theorem dL_law__1886 : decode cL_law_ 1886 = .ok (.ireturn, 1) := by decide +kernel
theorem dL_law__1887 : decode cL_law_ 1887 = .ok (.goto 345, 3) := by decide +kernel
theorem dL_law__1890 : decode cL_law_ 1890 = .ok (.aload_n 1, 1) := by decide +kernel
theorem dL_law__1891 : decode cL_law_ 1891 = .ok (.aload_n 0, 1) := by decide +kernel
theorem dL_law__1892 : decode cL_law_ 1892 = .ok (.iload 4, 2) := by decide +kernel
theorem dL_law__1894 : decode cL_law_ 1894 = .ok (.iconst 1, 1) := by decide +kernel
theorem dL_law__1895 : decode cL_law_ 1895 = .ok (.iadd, 1) := by decide +kernel
theorem dL_law__1896 : decode cL_law_ 1896 = .ok (.iaload, 1) := by decide +kernel
theorem dL_law__1897 : decode cL_law_ 1897 = .ok (.aload_n 3, 1) := by decide +kernel
theorem dL_law__1898 : decode cL_law_ 1898 = .ok (.invokestatic 220, 3) := by decide +kernel
theorem dL_law__1901 : decode cL_law_ 1901 = .ok (.istore 5, 2) := by decide +kernel
theorem dL_law__1903 : decode cL_law_ 1903 = .ok (.aload_n 2, 1) := by decide +kernel
theorem dL_law__1904 : decode cL_law_ 1904 = .ok (.aload_n 0, 1) := by decide +kernel
theorem dL_law__1905 : decode cL_law_ 1905 = .ok (.iload 4, 2) := by decide +kernel
theorem dL_law__1907 : decode cL_law_ 1907 = .ok (.iconst 1, 1) := by decide +kernel
theorem dL_law__1908 : decode cL_law_ 1908 = .ok (.iadd, 1) := by decide +kernel
theorem dL_law__1909 : decode cL_law_ 1909 = .ok (.iaload, 1) := by decide +kernel
theorem dL_law__1910 : decode cL_law_ 1910 = .ok (.invokevirtual 222, 3) := by decide +kernel
theorem dL_law__1913 : decode cL_law_ 1913 = .ok (.istore 6, 2) := by decide +kernel
theorem dL_law__1915 : decode cL_law_ 1915 = .ok (.aload_n 2, 1) := by decide +kernel
theorem dL_law__1916 : decode cL_law_ 1916 = .ok (.invokevirtual 111, 3) := by decide +kernel
theorem dL_law__1919 : decode cL_law_ 1919 = .ok (.iload 5, 2) := by decide +kernel
theorem dL_law__1921 : decode cL_law_ 1921 = .ok (.if_icmp .eq 5, 3) := by decide +kernel
theorem dL_law__1924 : decode cL_law_ 1924 = .ok (.iconst 0, 1) := by decide +kernel
theorem dL_law__1925 : decode cL_law_ 1925 = .ok (.ireturn, 1) := by decide +kernel
theorem dL_law__1926 : decode cL_law_ 1926 = .ok (.iload 5, 2) := by decide +kernel
theorem dL_law__1928 : decode cL_law_ 1928 = .ok (.ifCond .ne 15, 3) := by decide +kernel
theorem dL_law__1931 : decode cL_law_ 1931 = .ok (.aload_n 3, 1) := by decide +kernel
theorem dL_law__1932 : decode cL_law_ 1932 = .ok (.iconst 0, 1) := by decide +kernel
theorem dL_law__1933 : decode cL_law_ 1933 = .ok (.laload, 1) := by decide +kernel
theorem dL_law__1934 : decode cL_law_ 1934 = .ok (.iload 6, 2) := by decide +kernel
theorem dL_law__1936 : decode cL_law_ 1936 = .ok (.i2l, 1) := by decide +kernel
theorem dL_law__1937 : decode cL_law_ 1937 = .ok (.lcmp, 1) := by decide +kernel
theorem dL_law__1938 : decode cL_law_ 1938 = .ok (.ifCond .eq 5, 3) := by decide +kernel
theorem dL_law__1941 : decode cL_law_ 1941 = .ok (.iconst 0, 1) := by decide +kernel
theorem dL_law__1942 : decode cL_law_ 1942 = .ok (.ireturn, 1) := by decide +kernel
theorem dL_law__1943 : decode cL_law_ 1943 = .ok (.goto 289, 3) := by decide +kernel
theorem dL_law__1946 : decode cL_law_ 1946 = .ok (.aload_n 1, 1) := by decide +kernel
theorem dL_law__1947 : decode cL_law_ 1947 = .ok (.aload_n 0, 1) := by decide +kernel
theorem dL_law__1948 : decode cL_law_ 1948 = .ok (.iload 4, 2) := by decide +kernel
theorem dL_law__1950 : decode cL_law_ 1950 = .ok (.iconst 1, 1) := by decide +kernel
theorem dL_law__1951 : decode cL_law_ 1951 = .ok (.iadd, 1) := by decide +kernel
theorem dL_law__1952 : decode cL_law_ 1952 = .ok (.iaload, 1) := by decide +kernel
theorem dL_law__1953 : decode cL_law_ 1953 = .ok (.aload_n 0, 1) := by decide +kernel
theorem dL_law__1954 : decode cL_law_ 1954 = .ok (.iload 4, 2) := by decide +kernel
theorem dL_law__1956 : decode cL_law_ 1956 = .ok (.iconst 2, 1) := by decide +kernel
theorem dL_law__1957 : decode cL_law_ 1957 = .ok (.iadd, 1) := by decide +kernel
theorem dL_law__1958 : decode cL_law_ 1958 = .ok (.iaload, 1) := by decide +kernel
theorem dL_law__1959 : decode cL_law_ 1959 = .ok (.aload_n 0, 1) := by decide +kernel
theorem dL_law__1960 : decode cL_law_ 1960 = .ok (.iload 4, 2) := by decide +kernel
theorem dL_law__1962 : decode cL_law_ 1962 = .ok (.iconst 3, 1) := by decide +kernel
theorem dL_law__1963 : decode cL_law_ 1963 = .ok (.iadd, 1) := by decide +kernel
theorem dL_law__1964 : decode cL_law_ 1964 = .ok (.iaload, 1) := by decide +kernel
theorem dL_law__1965 : decode cL_law_ 1965 = .ok (.aload_n 0, 1) := by decide +kernel
theorem dL_law__1966 : decode cL_law_ 1966 = .ok (.iload 4, 2) := by decide +kernel
theorem dL_law__1968 : decode cL_law_ 1968 = .ok (.iconst 4, 1) := by decide +kernel
theorem dL_law__1969 : decode cL_law_ 1969 = .ok (.iadd, 1) := by decide +kernel
theorem dL_law__1970 : decode cL_law_ 1970 = .ok (.iaload, 1) := by decide +kernel
theorem dL_law__1971 : decode cL_law_ 1971 = .ok (.aload_n 3, 1) := by decide +kernel
theorem dL_law__1972 : decode cL_law_ 1972 = .ok (.invokestatic 223, 3) := by decide +kernel
theorem dL_law__1975 : decode cL_law_ 1975 = .ok (.istore 5, 2) := by decide +kernel
theorem dL_law__1977 : decode cL_law_ 1977 = .ok (.aload_n 2, 1) := by decide +kernel
theorem dL_law__1978 : decode cL_law_ 1978 = .ok (.aload_n 0, 1) := by decide +kernel
theorem dL_law__1979 : decode cL_law_ 1979 = .ok (.iload 4, 2) := by decide +kernel
theorem dL_law__1981 : decode cL_law_ 1981 = .ok (.iconst 1, 1) := by decide +kernel
theorem dL_law__1982 : decode cL_law_ 1982 = .ok (.iadd, 1) := by decide +kernel
theorem dL_law__1983 : decode cL_law_ 1983 = .ok (.iaload, 1) := by decide +kernel
theorem dL_law__1984 : decode cL_law_ 1984 = .ok (.aload_n 0, 1) := by decide +kernel
theorem dL_law__1985 : decode cL_law_ 1985 = .ok (.iload 4, 2) := by decide +kernel
theorem dL_law__1987 : decode cL_law_ 1987 = .ok (.iconst 2, 1) := by decide +kernel
theorem dL_law__1988 : decode cL_law_ 1988 = .ok (.iadd, 1) := by decide +kernel
theorem dL_law__1989 : decode cL_law_ 1989 = .ok (.iaload, 1) := by decide +kernel
theorem dL_law__1990 : decode cL_law_ 1990 = .ok (.aload_n 0, 1) := by decide +kernel
theorem dL_law__1991 : decode cL_law_ 1991 = .ok (.iload 4, 2) := by decide +kernel
theorem dL_law__1993 : decode cL_law_ 1993 = .ok (.iconst 3, 1) := by decide +kernel
theorem dL_law__1994 : decode cL_law_ 1994 = .ok (.iadd, 1) := by decide +kernel
theorem dL_law__1995 : decode cL_law_ 1995 = .ok (.iaload, 1) := by decide +kernel
theorem dL_law__1996 : decode cL_law_ 1996 = .ok (.aload_n 0, 1) := by decide +kernel
theorem dL_law__1997 : decode cL_law_ 1997 = .ok (.iload 4, 2) := by decide +kernel
theorem dL_law__1999 : decode cL_law_ 1999 = .ok (.iconst 4, 1) := by decide +kernel
theorem dL_law__2000 : decode cL_law_ 2000 = .ok (.iadd, 1) := by decide +kernel
theorem dL_law__2001 : decode cL_law_ 2001 = .ok (.iaload, 1) := by decide +kernel
theorem dL_law__2002 : decode cL_law_ 2002 = .ok (.invokevirtual 225, 3) := by decide +kernel
theorem dL_law__2005 : decode cL_law_ 2005 = .ok (.istore 6, 2) := by decide +kernel
theorem dL_law__2007 : decode cL_law_ 2007 = .ok (.aload_n 2, 1) := by decide +kernel
theorem dL_law__2008 : decode cL_law_ 2008 = .ok (.invokevirtual 111, 3) := by decide +kernel
theorem dL_law__2011 : decode cL_law_ 2011 = .ok (.iload 5, 2) := by decide +kernel
theorem dL_law__2013 : decode cL_law_ 2013 = .ok (.if_icmp .eq 5, 3) := by decide +kernel
theorem dL_law__2016 : decode cL_law_ 2016 = .ok (.iconst 0, 1) := by decide +kernel
theorem dL_law__2017 : decode cL_law_ 2017 = .ok (.ireturn, 1) := by decide +kernel
theorem dL_law__2018 : decode cL_law_ 2018 = .ok (.iload 5, 2) := by decide +kernel
theorem dL_law__2020 : decode cL_law_ 2020 = .ok (.ifCond .ne 15, 3) := by decide +kernel
theorem dL_law__2023 : decode cL_law_ 2023 = .ok (.aload_n 3, 1) := by decide +kernel
theorem dL_law__2024 : decode cL_law_ 2024 = .ok (.iconst 0, 1) := by decide +kernel
theorem dL_law__2025 : decode cL_law_ 2025 = .ok (.laload, 1) := by decide +kernel
theorem dL_law__2026 : decode cL_law_ 2026 = .ok (.iload 6, 2) := by decide +kernel
theorem dL_law__2028 : decode cL_law_ 2028 = .ok (.i2l, 1) := by decide +kernel
theorem dL_law__2029 : decode cL_law_ 2029 = .ok (.lcmp, 1) := by decide +kernel
theorem dL_law__2030 : decode cL_law_ 2030 = .ok (.ifCond .eq 5, 3) := by decide +kernel
theorem dL_law__2033 : decode cL_law_ 2033 = .ok (.iconst 0, 1) := by decide +kernel
theorem dL_law__2034 : decode cL_law_ 2034 = .ok (.ireturn, 1) := by decide +kernel
theorem dL_law__2035 : decode cL_law_ 2035 = .ok (.goto 197, 3) := by decide +kernel
theorem dL_law__2038 : decode cL_law_ 2038 = .ok (.aload_n 1, 1) := by decide +kernel
theorem dL_law__2039 : decode cL_law_ 2039 = .ok (.aload_n 0, 1) := by decide +kernel
theorem dL_law__2040 : decode cL_law_ 2040 = .ok (.iload 4, 2) := by decide +kernel
theorem dL_law__2042 : decode cL_law_ 2042 = .ok (.iconst 1, 1) := by decide +kernel
theorem dL_law__2043 : decode cL_law_ 2043 = .ok (.iadd, 1) := by decide +kernel
theorem dL_law__2044 : decode cL_law_ 2044 = .ok (.iaload, 1) := by decide +kernel
theorem dL_law__2045 : decode cL_law_ 2045 = .ok (.aload_n 0, 1) := by decide +kernel
theorem dL_law__2046 : decode cL_law_ 2046 = .ok (.iload 4, 2) := by decide +kernel
theorem dL_law__2048 : decode cL_law_ 2048 = .ok (.iconst 2, 1) := by decide +kernel
theorem dL_law__2049 : decode cL_law_ 2049 = .ok (.iadd, 1) := by decide +kernel
theorem dL_law__2050 : decode cL_law_ 2050 = .ok (.iaload, 1) := by decide +kernel
theorem dL_law__2051 : decode cL_law_ 2051 = .ok (.aload_n 0, 1) := by decide +kernel
theorem dL_law__2052 : decode cL_law_ 2052 = .ok (.iload 4, 2) := by decide +kernel
theorem dL_law__2054 : decode cL_law_ 2054 = .ok (.iconst 3, 1) := by decide +kernel
theorem dL_law__2055 : decode cL_law_ 2055 = .ok (.iadd, 1) := by decide +kernel
theorem dL_law__2056 : decode cL_law_ 2056 = .ok (.iaload, 1) := by decide +kernel
theorem dL_law__2057 : decode cL_law_ 2057 = .ok (.aload_n 0, 1) := by decide +kernel
theorem dL_law__2058 : decode cL_law_ 2058 = .ok (.iload 4, 2) := by decide +kernel
theorem dL_law__2060 : decode cL_law_ 2060 = .ok (.iconst 4, 1) := by decide +kernel
theorem dL_law__2061 : decode cL_law_ 2061 = .ok (.iadd, 1) := by decide +kernel
theorem dL_law__2062 : decode cL_law_ 2062 = .ok (.iaload, 1) := by decide +kernel
theorem dL_law__2063 : decode cL_law_ 2063 = .ok (.aload_n 0, 1) := by decide +kernel
theorem dL_law__2064 : decode cL_law_ 2064 = .ok (.iload 4, 2) := by decide +kernel
theorem dL_law__2066 : decode cL_law_ 2066 = .ok (.iconst 5, 1) := by decide +kernel
theorem dL_law__2067 : decode cL_law_ 2067 = .ok (.iadd, 1) := by decide +kernel
theorem dL_law__2068 : decode cL_law_ 2068 = .ok (.iaload, 1) := by decide +kernel
theorem dL_law__2069 : decode cL_law_ 2069 = .ok (.aload_n 0, 1) := by decide +kernel
theorem dL_law__2070 : decode cL_law_ 2070 = .ok (.iload 4, 2) := by decide +kernel
theorem dL_law__2072 : decode cL_law_ 2072 = .ok (.bipush 6, 2) := by decide +kernel
theorem dL_law__2074 : decode cL_law_ 2074 = .ok (.iadd, 1) := by decide +kernel
theorem dL_law__2075 : decode cL_law_ 2075 = .ok (.iaload, 1) := by decide +kernel
theorem dL_law__2076 : decode cL_law_ 2076 = .ok (.aload_n 3, 1) := by decide +kernel
theorem dL_law__2077 : decode cL_law_ 2077 = .ok (.invokestatic 226, 3) := by decide +kernel
theorem dL_law__2080 : decode cL_law_ 2080 = .ok (.istore 5, 2) := by decide +kernel
theorem dL_law__2082 : decode cL_law_ 2082 = .ok (.aload_n 2, 1) := by decide +kernel
theorem dL_law__2083 : decode cL_law_ 2083 = .ok (.aload_n 0, 1) := by decide +kernel
theorem dL_law__2084 : decode cL_law_ 2084 = .ok (.iload 4, 2) := by decide +kernel
theorem dL_law__2086 : decode cL_law_ 2086 = .ok (.iconst 1, 1) := by decide +kernel
theorem dL_law__2087 : decode cL_law_ 2087 = .ok (.iadd, 1) := by decide +kernel
theorem dL_law__2088 : decode cL_law_ 2088 = .ok (.iaload, 1) := by decide +kernel
theorem dL_law__2089 : decode cL_law_ 2089 = .ok (.aload_n 0, 1) := by decide +kernel
theorem dL_law__2090 : decode cL_law_ 2090 = .ok (.iload 4, 2) := by decide +kernel
theorem dL_law__2092 : decode cL_law_ 2092 = .ok (.iconst 2, 1) := by decide +kernel
theorem dL_law__2093 : decode cL_law_ 2093 = .ok (.iadd, 1) := by decide +kernel
theorem dL_law__2094 : decode cL_law_ 2094 = .ok (.iaload, 1) := by decide +kernel
theorem dL_law__2095 : decode cL_law_ 2095 = .ok (.aload_n 0, 1) := by decide +kernel
theorem dL_law__2096 : decode cL_law_ 2096 = .ok (.iload 4, 2) := by decide +kernel
theorem dL_law__2098 : decode cL_law_ 2098 = .ok (.iconst 3, 1) := by decide +kernel
theorem dL_law__2099 : decode cL_law_ 2099 = .ok (.iadd, 1) := by decide +kernel
theorem dL_law__2100 : decode cL_law_ 2100 = .ok (.iaload, 1) := by decide +kernel
theorem dL_law__2101 : decode cL_law_ 2101 = .ok (.aload_n 0, 1) := by decide +kernel
theorem dL_law__2102 : decode cL_law_ 2102 = .ok (.iload 4, 2) := by decide +kernel
theorem dL_law__2104 : decode cL_law_ 2104 = .ok (.iconst 4, 1) := by decide +kernel
theorem dL_law__2105 : decode cL_law_ 2105 = .ok (.iadd, 1) := by decide +kernel
theorem dL_law__2106 : decode cL_law_ 2106 = .ok (.iaload, 1) := by decide +kernel
theorem dL_law__2107 : decode cL_law_ 2107 = .ok (.aload_n 0, 1) := by decide +kernel
theorem dL_law__2108 : decode cL_law_ 2108 = .ok (.iload 4, 2) := by decide +kernel
theorem dL_law__2110 : decode cL_law_ 2110 = .ok (.iconst 5, 1) := by decide +kernel
theorem dL_law__2111 : decode cL_law_ 2111 = .ok (.iadd, 1) := by decide +kernel
theorem dL_law__2112 : decode cL_law_ 2112 = .ok (.iaload, 1) := by decide +kernel
theorem dL_law__2113 : decode cL_law_ 2113 = .ok (.aload_n 0, 1) := by decide +kernel
theorem dL_law__2114 : decode cL_law_ 2114 = .ok (.iload 4, 2) := by decide +kernel
theorem dL_law__2116 : decode cL_law_ 2116 = .ok (.bipush 6, 2) := by decide +kernel
theorem dL_law__2118 : decode cL_law_ 2118 = .ok (.iadd, 1) := by decide +kernel
theorem dL_law__2119 : decode cL_law_ 2119 = .ok (.iaload, 1) := by decide +kernel
theorem dL_law__2120 : decode cL_law_ 2120 = .ok (.invokevirtual 229, 3) := by decide +kernel
theorem dL_law__2123 : decode cL_law_ 2123 = .ok (.istore 6, 2) := by decide +kernel
theorem dL_law__2125 : decode cL_law_ 2125 = .ok (.aload_n 2, 1) := by decide +kernel
theorem dL_law__2126 : decode cL_law_ 2126 = .ok (.invokevirtual 111, 3) := by decide +kernel
theorem dL_law__2129 : decode cL_law_ 2129 = .ok (.iload 5, 2) := by decide +kernel
theorem dL_law__2131 : decode cL_law_ 2131 = .ok (.if_icmp .eq 5, 3) := by decide +kernel
theorem dL_law__2134 : decode cL_law_ 2134 = .ok (.iconst 0, 1) := by decide +kernel
theorem dL_law__2135 : decode cL_law_ 2135 = .ok (.ireturn, 1) := by decide +kernel
theorem dL_law__2136 : decode cL_law_ 2136 = .ok (.iload 5, 2) := by decide +kernel
theorem dL_law__2138 : decode cL_law_ 2138 = .ok (.ifCond .ne 15, 3) := by decide +kernel
theorem dL_law__2141 : decode cL_law_ 2141 = .ok (.aload_n 3, 1) := by decide +kernel
theorem dL_law__2142 : decode cL_law_ 2142 = .ok (.iconst 0, 1) := by decide +kernel
theorem dL_law__2143 : decode cL_law_ 2143 = .ok (.laload, 1) := by decide +kernel
theorem dL_law__2144 : decode cL_law_ 2144 = .ok (.iload 6, 2) := by decide +kernel
theorem dL_law__2146 : decode cL_law_ 2146 = .ok (.i2l, 1) := by decide +kernel
theorem dL_law__2147 : decode cL_law_ 2147 = .ok (.lcmp, 1) := by decide +kernel
theorem dL_law__2148 : decode cL_law_ 2148 = .ok (.ifCond .eq 5, 3) := by decide +kernel
theorem dL_law__2151 : decode cL_law_ 2151 = .ok (.iconst 0, 1) := by decide +kernel
theorem dL_law__2152 : decode cL_law_ 2152 = .ok (.ireturn, 1) := by decide +kernel
theorem dL_law__2153 : decode cL_law_ 2153 = .ok (.goto 79, 3) := by decide +kernel
theorem dL_law__2156 : decode cL_law_ 2156 = .ok (.aload_n 1, 1) := by decide +kernel
theorem dL_law__2157 : decode cL_law_ 2157 = .ok (.invokevirtual 230, 3) := by decide +kernel
theorem dL_law__2160 : decode cL_law_ 2160 = .ok (.aload_n 2, 1) := by decide +kernel
theorem dL_law__2161 : decode cL_law_ 2161 = .ok (.invokevirtual 233, 3) := by decide +kernel
theorem dL_law__2164 : decode cL_law_ 2164 = .ok (.if_icmp .eq 68, 3) := by decide +kernel
theorem dL_law__2167 : decode cL_law_ 2167 = .ok (.iconst 0, 1) := by decide +kernel
theorem dL_law__2168 : decode cL_law_ 2168 = .ok (.ireturn, 1) := by decide +kernel
theorem dL_law__2169 : decode cL_law_ 2169 = .ok (.aload_n 1, 1) := by decide +kernel
theorem dL_law__2170 : decode cL_law_ 2170 = .ok (.invokevirtual 234, 3) := by decide +kernel
theorem dL_law__2173 : decode cL_law_ 2173 = .ok (.aload_n 2, 1) := by decide +kernel
theorem dL_law__2174 : decode cL_law_ 2174 = .ok (.invokevirtual 237, 3) := by decide +kernel
theorem dL_law__2177 : decode cL_law_ 2177 = .ok (.if_icmp .eq 55, 3) := by decide +kernel
theorem dL_law__2180 : decode cL_law_ 2180 = .ok (.iconst 0, 1) := by decide +kernel
theorem dL_law__2181 : decode cL_law_ 2181 = .ok (.ireturn, 1) := by decide +kernel
theorem dL_law__2182 : decode cL_law_ 2182 = .ok (.aload_n 1, 1) := by decide +kernel
theorem dL_law__2183 : decode cL_law_ 2183 = .ok (.aload_n 0, 1) := by decide +kernel
theorem dL_law__2184 : decode cL_law_ 2184 = .ok (.iload 4, 2) := by decide +kernel
theorem dL_law__2186 : decode cL_law_ 2186 = .ok (.iconst 1, 1) := by decide +kernel
theorem dL_law__2187 : decode cL_law_ 2187 = .ok (.iadd, 1) := by decide +kernel
theorem dL_law__2188 : decode cL_law_ 2188 = .ok (.iaload, 1) := by decide +kernel
theorem dL_law__2189 : decode cL_law_ 2189 = .ok (.invokevirtual 238, 3) := by decide +kernel
theorem dL_law__2192 : decode cL_law_ 2192 = .ok (.aload_n 2, 1) := by decide +kernel
theorem dL_law__2193 : decode cL_law_ 2193 = .ok (.aload_n 0, 1) := by decide +kernel
theorem dL_law__2194 : decode cL_law_ 2194 = .ok (.iload 4, 2) := by decide +kernel
theorem dL_law__2196 : decode cL_law_ 2196 = .ok (.iconst 1, 1) := by decide +kernel
theorem dL_law__2197 : decode cL_law_ 2197 = .ok (.iadd, 1) := by decide +kernel
theorem dL_law__2198 : decode cL_law_ 2198 = .ok (.iaload, 1) := by decide +kernel
theorem dL_law__2199 : decode cL_law_ 2199 = .ok (.invokevirtual 241, 3) := by decide +kernel
theorem dL_law__2202 : decode cL_law_ 2202 = .ok (.if_icmp .eq 30, 3) := by decide +kernel
theorem dL_law__2205 : decode cL_law_ 2205 = .ok (.iconst 0, 1) := by decide +kernel
theorem dL_law__2206 : decode cL_law_ 2206 = .ok (.ireturn, 1) := by decide +kernel
theorem dL_law__2207 : decode cL_law_ 2207 = .ok (.aload_n 1, 1) := by decide +kernel
theorem dL_law__2208 : decode cL_law_ 2208 = .ok (.aload_n 0, 1) := by decide +kernel
theorem dL_law__2209 : decode cL_law_ 2209 = .ok (.iload 4, 2) := by decide +kernel
theorem dL_law__2211 : decode cL_law_ 2211 = .ok (.iconst 1, 1) := by decide +kernel
theorem dL_law__2212 : decode cL_law_ 2212 = .ok (.iadd, 1) := by decide +kernel
theorem dL_law__2213 : decode cL_law_ 2213 = .ok (.iaload, 1) := by decide +kernel
theorem dL_law__2214 : decode cL_law_ 2214 = .ok (.invokevirtual 242, 3) := by decide +kernel
theorem dL_law__2217 : decode cL_law_ 2217 = .ok (.aload_n 2, 1) := by decide +kernel
theorem dL_law__2218 : decode cL_law_ 2218 = .ok (.aload_n 0, 1) := by decide +kernel
theorem dL_law__2219 : decode cL_law_ 2219 = .ok (.iload 4, 2) := by decide +kernel
theorem dL_law__2221 : decode cL_law_ 2221 = .ok (.iconst 1, 1) := by decide +kernel
theorem dL_law__2222 : decode cL_law_ 2222 = .ok (.iadd, 1) := by decide +kernel
theorem dL_law__2223 : decode cL_law_ 2223 = .ok (.iaload, 1) := by decide +kernel
theorem dL_law__2224 : decode cL_law_ 2224 = .ok (.invokevirtual 245, 3) := by decide +kernel
theorem dL_law__2227 : decode cL_law_ 2227 = .ok (.if_icmp .eq 5, 3) := by decide +kernel
theorem dL_law__2230 : decode cL_law_ 2230 = .ok (.iconst 0, 1) := by decide +kernel
theorem dL_law__2231 : decode cL_law_ 2231 = .ok (.ireturn, 1) := by decide +kernel
theorem dL_law__2232 : decode cL_law_ 2232 = .ok (.iinc 4 8, 3) := by decide +kernel
theorem dL_law__2235 : decode cL_law_ 2235 = .ok (.goto (-2212), 3) := by decide +kernel
theorem dL_law__2238 : decode cL_law_ 2238 = .ok (.iconst 1, 1) := by decide +kernel
theorem dL_law__2239 : decode cL_law_ 2239 = .ok (.ireturn, 1) := by decide +kernel
