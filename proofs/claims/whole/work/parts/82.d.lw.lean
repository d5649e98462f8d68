/-! the law: calls -/
theorem dL_law_1259 : decode code 1259 = .ok (.aload_n 1, 1) := by decide +kernel
theorem dL_law_1260 : decode code 1260 = .ok (.aload_n 0, 1) := by decide +kernel
theorem dL_law_1261 : decode code 1261 = .ok (.iload 5, 2) := by decide +kernel
theorem dL_law_1263 : decode code 1263 = .ok (.iconst 1, 1) := by decide +kernel
theorem dL_law_1264 : decode code 1264 = .ok (.iadd, 1) := by decide +kernel
theorem dL_law_1265 : decode code 1265 = .ok (.iaload, 1) := by decide +kernel
theorem dL_law_1266 : decode code 1266 = .ok (.aload_n 3, 1) := by decide +kernel
theorem dL_law_1267 : decode code 1267 = .ok (.invokestatic 231, 3) := by decide +kernel
theorem dL_law_1270 : decode code 1270 = .ok (.istore 6, 2) := by decide +kernel
theorem dL_law_1272 : decode code 1272 = .ok (.aload_n 2, 1) := by decide +kernel
theorem dL_law_1273 : decode code 1273 = .ok (.aload_n 0, 1) := by decide +kernel
theorem dL_law_1274 : decode code 1274 = .ok (.iload 5, 2) := by decide +kernel
theorem dL_law_1276 : decode code 1276 = .ok (.iconst 1, 1) := by decide +kernel
theorem dL_law_1277 : decode code 1277 = .ok (.iadd, 1) := by decide +kernel
theorem dL_law_1278 : decode code 1278 = .ok (.iaload, 1) := by decide +kernel
theorem dL_law_1279 : decode code 1279 = .ok (.invokevirtual 233, 3) := by decide +kernel
theorem dL_law_1282 : decode code 1282 = .ok (.istore 7, 2) := by decide +kernel
theorem dL_law_1284 : decode code 1284 = .ok (.aload_n 2, 1) := by decide +kernel
theorem dL_law_1285 : decode code 1285 = .ok (.invokevirtual 154, 3) := by decide +kernel
theorem dL_law_1288 : decode code 1288 = .ok (.iload 6, 2) := by decide +kernel
theorem dL_law_1290 : decode code 1290 = .ok (.if_icmp .eq 5, 3) := by decide +kernel
theorem dL_law_1295 : decode code 1295 = .ok (.iload 6, 2) := by decide +kernel
theorem dL_law_1297 : decode code 1297 = .ok (.ifCond .ne 15, 3) := by decide +kernel
theorem dL_law_1300 : decode code 1300 = .ok (.aload_n 3, 1) := by decide +kernel
theorem dL_law_1301 : decode code 1301 = .ok (.iconst 0, 1) := by decide +kernel
theorem dL_law_1302 : decode code 1302 = .ok (.laload, 1) := by decide +kernel
theorem dL_law_1303 : decode code 1303 = .ok (.iload 7, 2) := by decide +kernel
theorem dL_law_1305 : decode code 1305 = .ok (.i2l, 1) := by decide +kernel
theorem dL_law_1306 : decode code 1306 = .ok (.lcmp, 1) := by decide +kernel
theorem dL_law_1307 : decode code 1307 = .ok (.ifCond .eq 5, 3) := by decide +kernel
theorem dL_law_1312 : decode code 1312 = .ok (.goto 1727, 3) := by decide +kernel
theorem dL_law_1315 : decode code 1315 = .ok (.aload_n 1, 1) := by decide +kernel
theorem dL_law_1316 : decode code 1316 = .ok (.aload_n 0, 1) := by decide +kernel
theorem dL_law_1317 : decode code 1317 = .ok (.iload 5, 2) := by decide +kernel
theorem dL_law_1319 : decode code 1319 = .ok (.iconst 1, 1) := by decide +kernel
theorem dL_law_1320 : decode code 1320 = .ok (.iadd, 1) := by decide +kernel
theorem dL_law_1321 : decode code 1321 = .ok (.iaload, 1) := by decide +kernel
theorem dL_law_1322 : decode code 1322 = .ok (.aload_n 3, 1) := by decide +kernel
theorem dL_law_1323 : decode code 1323 = .ok (.invokestatic 234, 3) := by decide +kernel
theorem dL_law_1326 : decode code 1326 = .ok (.istore 6, 2) := by decide +kernel
theorem dL_law_1328 : decode code 1328 = .ok (.aload_n 2, 1) := by decide +kernel
theorem dL_law_1329 : decode code 1329 = .ok (.aload_n 0, 1) := by decide +kernel
theorem dL_law_1330 : decode code 1330 = .ok (.iload 5, 2) := by decide +kernel
theorem dL_law_1332 : decode code 1332 = .ok (.iconst 1, 1) := by decide +kernel
theorem dL_law_1333 : decode code 1333 = .ok (.iadd, 1) := by decide +kernel
theorem dL_law_1334 : decode code 1334 = .ok (.iaload, 1) := by decide +kernel
theorem dL_law_1335 : decode code 1335 = .ok (.invokevirtual 236, 3) := by decide +kernel
theorem dL_law_1338 : decode code 1338 = .ok (.istore 7, 2) := by decide +kernel
theorem dL_law_1340 : decode code 1340 = .ok (.aload_n 2, 1) := by decide +kernel
theorem dL_law_1341 : decode code 1341 = .ok (.invokevirtual 154, 3) := by decide +kernel
theorem dL_law_1344 : decode code 1344 = .ok (.iload 6, 2) := by decide +kernel
theorem dL_law_1346 : decode code 1346 = .ok (.if_icmp .eq 5, 3) := by decide +kernel
theorem dL_law_1351 : decode code 1351 = .ok (.iload 6, 2) := by decide +kernel
theorem dL_law_1353 : decode code 1353 = .ok (.ifCond .ne 15, 3) := by decide +kernel
theorem dL_law_1356 : decode code 1356 = .ok (.aload_n 3, 1) := by decide +kernel
theorem dL_law_1357 : decode code 1357 = .ok (.iconst 0, 1) := by decide +kernel
theorem dL_law_1358 : decode code 1358 = .ok (.laload, 1) := by decide +kernel
theorem dL_law_1359 : decode code 1359 = .ok (.iload 7, 2) := by decide +kernel
theorem dL_law_1361 : decode code 1361 = .ok (.i2l, 1) := by decide +kernel
theorem dL_law_1362 : decode code 1362 = .ok (.lcmp, 1) := by decide +kernel
theorem dL_law_1363 : decode code 1363 = .ok (.ifCond .eq 5, 3) := by decide +kernel
theorem dL_law_1368 : decode code 1368 = .ok (.goto 1671, 3) := by decide +kernel
theorem dL_law_1371 : decode code 1371 = .ok (.aload_n 1, 1) := by decide +kernel
theorem dL_law_1372 : decode code 1372 = .ok (.aload_n 0, 1) := by decide +kernel
theorem dL_law_1373 : decode code 1373 = .ok (.iload 5, 2) := by decide +kernel
theorem dL_law_1375 : decode code 1375 = .ok (.iconst 1, 1) := by decide +kernel
theorem dL_law_1376 : decode code 1376 = .ok (.iadd, 1) := by decide +kernel
theorem dL_law_1377 : decode code 1377 = .ok (.iaload, 1) := by decide +kernel
theorem dL_law_1378 : decode code 1378 = .ok (.aload_n 3, 1) := by decide +kernel
theorem dL_law_1379 : decode code 1379 = .ok (.invokestatic 237, 3) := by decide +kernel
theorem dL_law_1382 : decode code 1382 = .ok (.istore 6, 2) := by decide +kernel
theorem dL_law_1384 : decode code 1384 = .ok (.aload_n 2, 1) := by decide +kernel
theorem dL_law_1385 : decode code 1385 = .ok (.aload_n 0, 1) := by decide +kernel
theorem dL_law_1386 : decode code 1386 = .ok (.iload 5, 2) := by decide +kernel
theorem dL_law_1388 : decode code 1388 = .ok (.iconst 1, 1) := by decide +kernel
theorem dL_law_1389 : decode code 1389 = .ok (.iadd, 1) := by decide +kernel
theorem dL_law_1390 : decode code 1390 = .ok (.iaload, 1) := by decide +kernel
theorem dL_law_1391 : decode code 1391 = .ok (.invokevirtual 239, 3) := by decide +kernel
theorem dL_law_1394 : decode code 1394 = .ok (.istore 7, 2) := by decide +kernel
theorem dL_law_1396 : decode code 1396 = .ok (.aload_n 2, 1) := by decide +kernel
theorem dL_law_1397 : decode code 1397 = .ok (.invokevirtual 154, 3) := by decide +kernel
theorem dL_law_1400 : decode code 1400 = .ok (.iload 6, 2) := by decide +kernel
theorem dL_law_1402 : decode code 1402 = .ok (.if_icmp .eq 5, 3) := by decide +kernel
theorem dL_law_1407 : decode code 1407 = .ok (.iload 6, 2) := by decide +kernel
theorem dL_law_1409 : decode code 1409 = .ok (.ifCond .ne 15, 3) := by decide +kernel
theorem dL_law_1412 : decode code 1412 = .ok (.aload_n 3, 1) := by decide +kernel
theorem dL_law_1413 : decode code 1413 = .ok (.iconst 0, 1) := by decide +kernel
theorem dL_law_1414 : decode code 1414 = .ok (.laload, 1) := by decide +kernel
theorem dL_law_1415 : decode code 1415 = .ok (.iload 7, 2) := by decide +kernel
theorem dL_law_1417 : decode code 1417 = .ok (.i2l, 1) := by decide +kernel
theorem dL_law_1418 : decode code 1418 = .ok (.lcmp, 1) := by decide +kernel
theorem dL_law_1419 : decode code 1419 = .ok (.ifCond .eq 5, 3) := by decide +kernel
theorem dL_law_1424 : decode code 1424 = .ok (.goto 1615, 3) := by decide +kernel
theorem dL_law_1427 : decode code 1427 = .ok (.aload_n 1, 1) := by decide +kernel
theorem dL_law_1428 : decode code 1428 = .ok (.aload_n 0, 1) := by decide +kernel
theorem dL_law_1429 : decode code 1429 = .ok (.iload 5, 2) := by decide +kernel
theorem dL_law_1431 : decode code 1431 = .ok (.iconst 1, 1) := by decide +kernel
theorem dL_law_1432 : decode code 1432 = .ok (.iadd, 1) := by decide +kernel
theorem dL_law_1433 : decode code 1433 = .ok (.iaload, 1) := by decide +kernel
theorem dL_law_1434 : decode code 1434 = .ok (.aload_n 3, 1) := by decide +kernel
theorem dL_law_1435 : decode code 1435 = .ok (.invokestatic 240, 3) := by decide +kernel
theorem dL_law_1438 : decode code 1438 = .ok (.istore 6, 2) := by decide +kernel
theorem dL_law_1440 : decode code 1440 = .ok (.aload_n 2, 1) := by decide +kernel
theorem dL_law_1441 : decode code 1441 = .ok (.aload_n 0, 1) := by decide +kernel
theorem dL_law_1442 : decode code 1442 = .ok (.iload 5, 2) := by decide +kernel
theorem dL_law_1444 : decode code 1444 = .ok (.iconst 1, 1) := by decide +kernel
theorem dL_law_1445 : decode code 1445 = .ok (.iadd, 1) := by decide +kernel
theorem dL_law_1446 : decode code 1446 = .ok (.iaload, 1) := by decide +kernel
theorem dL_law_1447 : decode code 1447 = .ok (.invokevirtual 242, 3) := by decide +kernel
theorem dL_law_1450 : decode code 1450 = .ok (.istore 7, 2) := by decide +kernel
theorem dL_law_1452 : decode code 1452 = .ok (.aload_n 2, 1) := by decide +kernel
theorem dL_law_1453 : decode code 1453 = .ok (.invokevirtual 154, 3) := by decide +kernel
theorem dL_law_1456 : decode code 1456 = .ok (.iload 6, 2) := by decide +kernel
theorem dL_law_1458 : decode code 1458 = .ok (.if_icmp .eq 5, 3) := by decide +kernel
theorem dL_law_1463 : decode code 1463 = .ok (.iload 6, 2) := by decide +kernel
theorem dL_law_1465 : decode code 1465 = .ok (.ifCond .ne 15, 3) := by decide +kernel
theorem dL_law_1468 : decode code 1468 = .ok (.aload_n 3, 1) := by decide +kernel
theorem dL_law_1469 : decode code 1469 = .ok (.iconst 0, 1) := by decide +kernel
theorem dL_law_1470 : decode code 1470 = .ok (.laload, 1) := by decide +kernel
theorem dL_law_1471 : decode code 1471 = .ok (.iload 7, 2) := by decide +kernel
theorem dL_law_1473 : decode code 1473 = .ok (.i2l, 1) := by decide +kernel
theorem dL_law_1474 : decode code 1474 = .ok (.lcmp, 1) := by decide +kernel
theorem dL_law_1475 : decode code 1475 = .ok (.ifCond .eq 5, 3) := by decide +kernel
theorem dL_law_1480 : decode code 1480 = .ok (.goto 1559, 3) := by decide +kernel
theorem dL_law_1483 : decode code 1483 = .ok (.aload_n 1, 1) := by decide +kernel
theorem dL_law_1484 : decode code 1484 = .ok (.aload_n 0, 1) := by decide +kernel
theorem dL_law_1485 : decode code 1485 = .ok (.iload 5, 2) := by decide +kernel
theorem dL_law_1487 : decode code 1487 = .ok (.iconst 1, 1) := by decide +kernel
theorem dL_law_1488 : decode code 1488 = .ok (.iadd, 1) := by decide +kernel
theorem dL_law_1489 : decode code 1489 = .ok (.iaload, 1) := by decide +kernel
theorem dL_law_1490 : decode code 1490 = .ok (.aload_n 3, 1) := by decide +kernel
theorem dL_law_1491 : decode code 1491 = .ok (.invokestatic 243, 3) := by decide +kernel
theorem dL_law_1494 : decode code 1494 = .ok (.istore 6, 2) := by decide +kernel
theorem dL_law_1496 : decode code 1496 = .ok (.aload_n 2, 1) := by decide +kernel
theorem dL_law_1497 : decode code 1497 = .ok (.aload_n 0, 1) := by decide +kernel
theorem dL_law_1498 : decode code 1498 = .ok (.iload 5, 2) := by decide +kernel
theorem dL_law_1500 : decode code 1500 = .ok (.iconst 1, 1) := by decide +kernel
theorem dL_law_1501 : decode code 1501 = .ok (.iadd, 1) := by decide +kernel
theorem dL_law_1502 : decode code 1502 = .ok (.iaload, 1) := by decide +kernel
theorem dL_law_1503 : decode code 1503 = .ok (.invokevirtual 245, 3) := by decide +kernel
theorem dL_law_1506 : decode code 1506 = .ok (.istore 7, 2) := by decide +kernel
theorem dL_law_1508 : decode code 1508 = .ok (.aload_n 2, 1) := by decide +kernel
theorem dL_law_1509 : decode code 1509 = .ok (.invokevirtual 154, 3) := by decide +kernel
theorem dL_law_1512 : decode code 1512 = .ok (.iload 6, 2) := by decide +kernel
theorem dL_law_1514 : decode code 1514 = .ok (.if_icmp .eq 5, 3) := by decide +kernel
theorem dL_law_1519 : decode code 1519 = .ok (.iload 6, 2) := by decide +kernel
theorem dL_law_1521 : decode code 1521 = .ok (.ifCond .ne 15, 3) := by decide +kernel
theorem dL_law_1524 : decode code 1524 = .ok (.aload_n 3, 1) := by decide +kernel
theorem dL_law_1525 : decode code 1525 = .ok (.iconst 0, 1) := by decide +kernel
theorem dL_law_1526 : decode code 1526 = .ok (.laload, 1) := by decide +kernel
theorem dL_law_1527 : decode code 1527 = .ok (.iload 7, 2) := by decide +kernel
theorem dL_law_1529 : decode code 1529 = .ok (.i2l, 1) := by decide +kernel
theorem dL_law_1530 : decode code 1530 = .ok (.lcmp, 1) := by decide +kernel
theorem dL_law_1531 : decode code 1531 = .ok (.ifCond .eq 5, 3) := by decide +kernel
theorem dL_law_1536 : decode code 1536 = .ok (.goto 1503, 3) := by decide +kernel
theorem dL_law_1539 : decode code 1539 = .ok (.aload_n 1, 1) := by decide +kernel
theorem dL_law_1540 : decode code 1540 = .ok (.aload_n 0, 1) := by decide +kernel
theorem dL_law_1541 : decode code 1541 = .ok (.iload 5, 2) := by decide +kernel
theorem dL_law_1543 : decode code 1543 = .ok (.iconst 1, 1) := by decide +kernel
theorem dL_law_1544 : decode code 1544 = .ok (.iadd, 1) := by decide +kernel
theorem dL_law_1545 : decode code 1545 = .ok (.iaload, 1) := by decide +kernel
theorem dL_law_1546 : decode code 1546 = .ok (.aload_n 3, 1) := by decide +kernel
theorem dL_law_1547 : decode code 1547 = .ok (.invokestatic 246, 3) := by decide +kernel
theorem dL_law_1550 : decode code 1550 = .ok (.istore 6, 2) := by decide +kernel
theorem dL_law_1552 : decode code 1552 = .ok (.aload_n 2, 1) := by decide +kernel
theorem dL_law_1553 : decode code 1553 = .ok (.aload_n 0, 1) := by decide +kernel
theorem dL_law_1554 : decode code 1554 = .ok (.iload 5, 2) := by decide +kernel
theorem dL_law_1556 : decode code 1556 = .ok (.iconst 1, 1) := by decide +kernel
theorem dL_law_1557 : decode code 1557 = .ok (.iadd, 1) := by decide +kernel
theorem dL_law_1558 : decode code 1558 = .ok (.iaload, 1) := by decide +kernel
theorem dL_law_1559 : decode code 1559 = .ok (.invokevirtual 248, 3) := by decide +kernel
theorem dL_law_1562 : decode code 1562 = .ok (.istore 7, 2) := by decide +kernel
theorem dL_law_1564 : decode code 1564 = .ok (.aload_n 2, 1) := by decide +kernel
theorem dL_law_1565 : decode code 1565 = .ok (.invokevirtual 154, 3) := by decide +kernel
theorem dL_law_1568 : decode code 1568 = .ok (.iload 6, 2) := by decide +kernel
theorem dL_law_1570 : decode code 1570 = .ok (.if_icmp .eq 5, 3) := by decide +kernel
theorem dL_law_1575 : decode code 1575 = .ok (.iload 6, 2) := by decide +kernel
theorem dL_law_1577 : decode code 1577 = .ok (.ifCond .ne 15, 3) := by decide +kernel
theorem dL_law_1580 : decode code 1580 = .ok (.aload_n 3, 1) := by decide +kernel
theorem dL_law_1581 : decode code 1581 = .ok (.iconst 0, 1) := by decide +kernel
theorem dL_law_1582 : decode code 1582 = .ok (.laload, 1) := by decide +kernel
theorem dL_law_1583 : decode code 1583 = .ok (.iload 7, 2) := by decide +kernel
theorem dL_law_1585 : decode code 1585 = .ok (.i2l, 1) := by decide +kernel
theorem dL_law_1586 : decode code 1586 = .ok (.lcmp, 1) := by decide +kernel
theorem dL_law_1587 : decode code 1587 = .ok (.ifCond .eq 5, 3) := by decide +kernel
theorem dL_law_1592 : decode code 1592 = .ok (.goto 1447, 3) := by decide +kernel
theorem dL_law_1595 : decode code 1595 = .ok (.aload_n 1, 1) := by decide +kernel
theorem dL_law_1596 : decode code 1596 = .ok (.aload_n 0, 1) := by decide +kernel
theorem dL_law_1597 : decode code 1597 = .ok (.iload 5, 2) := by decide +kernel
theorem dL_law_1599 : decode code 1599 = .ok (.iconst 1, 1) := by decide +kernel
theorem dL_law_1600 : decode code 1600 = .ok (.iadd, 1) := by decide +kernel
theorem dL_law_1601 : decode code 1601 = .ok (.iaload, 1) := by decide +kernel
theorem dL_law_1602 : decode code 1602 = .ok (.aload_n 0, 1) := by decide +kernel
theorem dL_law_1603 : decode code 1603 = .ok (.iload 5, 2) := by decide +kernel
theorem dL_law_1605 : decode code 1605 = .ok (.iconst 2, 1) := by decide +kernel
theorem dL_law_1606 : decode code 1606 = .ok (.iadd, 1) := by decide +kernel
theorem dL_law_1607 : decode code 1607 = .ok (.iaload, 1) := by decide +kernel
theorem dL_law_1608 : decode code 1608 = .ok (.aload_n 3, 1) := by decide +kernel
theorem dL_law_1609 : decode code 1609 = .ok (.invokestatic 249, 3) := by decide +kernel
theorem dL_law_1612 : decode code 1612 = .ok (.istore 6, 2) := by decide +kernel
theorem dL_law_1614 : decode code 1614 = .ok (.aload_n 2, 1) := by decide +kernel
theorem dL_law_1615 : decode code 1615 = .ok (.aload_n 0, 1) := by decide +kernel
theorem dL_law_1616 : decode code 1616 = .ok (.iload 5, 2) := by decide +kernel
theorem dL_law_1618 : decode code 1618 = .ok (.iconst 1, 1) := by decide +kernel
theorem dL_law_1619 : decode code 1619 = .ok (.iadd, 1) := by decide +kernel
theorem dL_law_1620 : decode code 1620 = .ok (.iaload, 1) := by decide +kernel
theorem dL_law_1621 : decode code 1621 = .ok (.aload_n 0, 1) := by decide +kernel
theorem dL_law_1622 : decode code 1622 = .ok (.iload 5, 2) := by decide +kernel
theorem dL_law_1624 : decode code 1624 = .ok (.iconst 2, 1) := by decide +kernel
theorem dL_law_1625 : decode code 1625 = .ok (.iadd, 1) := by decide +kernel
theorem dL_law_1626 : decode code 1626 = .ok (.iaload, 1) := by decide +kernel
theorem dL_law_1627 : decode code 1627 = .ok (.invokevirtual 251, 3) := by decide +kernel
theorem dL_law_1630 : decode code 1630 = .ok (.istore 7, 2) := by decide +kernel
theorem dL_law_1632 : decode code 1632 = .ok (.aload_n 2, 1) := by decide +kernel
theorem dL_law_1633 : decode code 1633 = .ok (.invokevirtual 154, 3) := by decide +kernel
theorem dL_law_1636 : decode code 1636 = .ok (.iload 6, 2) := by decide +kernel
theorem dL_law_1638 : decode code 1638 = .ok (.if_icmp .eq 5, 3) := by decide +kernel
theorem dL_law_1643 : decode code 1643 = .ok (.iload 6, 2) := by decide +kernel
theorem dL_law_1645 : decode code 1645 = .ok (.ifCond .ne 15, 3) := by decide +kernel
theorem dL_law_1648 : decode code 1648 = .ok (.aload_n 3, 1) := by decide +kernel
theorem dL_law_1649 : decode code 1649 = .ok (.iconst 0, 1) := by decide +kernel
theorem dL_law_1650 : decode code 1650 = .ok (.laload, 1) := by decide +kernel
theorem dL_law_1651 : decode code 1651 = .ok (.iload 7, 2) := by decide +kernel
theorem dL_law_1653 : decode code 1653 = .ok (.i2l, 1) := by decide +kernel
theorem dL_law_1654 : decode code 1654 = .ok (.lcmp, 1) := by decide +kernel
theorem dL_law_1655 : decode code 1655 = .ok (.ifCond .eq 5, 3) := by decide +kernel
theorem dL_law_1660 : decode code 1660 = .ok (.goto 1379, 3) := by decide +kernel
theorem dL_law_1663 : decode code 1663 = .ok (.aload_n 1, 1) := by decide +kernel
theorem dL_law_1664 : decode code 1664 = .ok (.aload_n 0, 1) := by decide +kernel
theorem dL_law_1665 : decode code 1665 = .ok (.iload 5, 2) := by decide +kernel
theorem dL_law_1667 : decode code 1667 = .ok (.iconst 1, 1) := by decide +kernel
theorem dL_law_1668 : decode code 1668 = .ok (.iadd, 1) := by decide +kernel
theorem dL_law_1669 : decode code 1669 = .ok (.iaload, 1) := by decide +kernel
theorem dL_law_1670 : decode code 1670 = .ok (.aload_n 3, 1) := by decide +kernel
theorem dL_law_1671 : decode code 1671 = .ok (.invokestatic 252, 3) := by decide +kernel
theorem dL_law_1674 : decode code 1674 = .ok (.istore 6, 2) := by decide +kernel
theorem dL_law_1676 : decode code 1676 = .ok (.aload_n 2, 1) := by decide +kernel
theorem dL_law_1677 : decode code 1677 = .ok (.aload_n 0, 1) := by decide +kernel
theorem dL_law_1678 : decode code 1678 = .ok (.iload 5, 2) := by decide +kernel
theorem dL_law_1680 : decode code 1680 = .ok (.iconst 1, 1) := by decide +kernel
theorem dL_law_1681 : decode code 1681 = .ok (.iadd, 1) := by decide +kernel
theorem dL_law_1682 : decode code 1682 = .ok (.iaload, 1) := by decide +kernel
theorem dL_law_1683 : decode code 1683 = .ok (.invokevirtual 254, 3) := by decide +kernel
theorem dL_law_1686 : decode code 1686 = .ok (.istore 7, 2) := by decide +kernel
theorem dL_law_1688 : decode code 1688 = .ok (.aload_n 2, 1) := by decide +kernel
theorem dL_law_1689 : decode code 1689 = .ok (.invokevirtual 154, 3) := by decide +kernel
theorem dL_law_1692 : decode code 1692 = .ok (.iload 6, 2) := by decide +kernel
theorem dL_law_1694 : decode code 1694 = .ok (.if_icmp .eq 5, 3) := by decide +kernel
theorem dL_law_1699 : decode code 1699 = .ok (.iload 6, 2) := by decide +kernel
theorem dL_law_1701 : decode code 1701 = .ok (.ifCond .ne 15, 3) := by decide +kernel
theorem dL_law_1704 : decode code 1704 = .ok (.aload_n 3, 1) := by decide +kernel
theorem dL_law_1705 : decode code 1705 = .ok (.iconst 0, 1) := by decide +kernel
theorem dL_law_1706 : decode code 1706 = .ok (.laload, 1) := by decide +kernel
theorem dL_law_1707 : decode code 1707 = .ok (.iload 7, 2) := by decide +kernel
theorem dL_law_1709 : decode code 1709 = .ok (.i2l, 1) := by decide +kernel
theorem dL_law_1710 : decode code 1710 = .ok (.lcmp, 1) := by decide +kernel
theorem dL_law_1711 : decode code 1711 = .ok (.ifCond .eq 5, 3) := by decide +kernel
theorem dL_law_1716 : decode code 1716 = .ok (.goto 1323, 3) := by decide +kernel
theorem dL_law_1719 : decode code 1719 = .ok (.aload_n 1, 1) := by decide +kernel
theorem dL_law_1720 : decode code 1720 = .ok (.aload_n 0, 1) := by decide +kernel
theorem dL_law_1721 : decode code 1721 = .ok (.iload 5, 2) := by decide +kernel
theorem dL_law_1723 : decode code 1723 = .ok (.iconst 1, 1) := by decide +kernel
theorem dL_law_1724 : decode code 1724 = .ok (.iadd, 1) := by decide +kernel
theorem dL_law_1725 : decode code 1725 = .ok (.iaload, 1) := by decide +kernel
theorem dL_law_1726 : decode code 1726 = .ok (.aload_n 3, 1) := by decide +kernel
theorem dL_law_1727 : decode code 1727 = .ok (.invokestatic 255, 3) := by decide +kernel
theorem dL_law_1730 : decode code 1730 = .ok (.istore 6, 2) := by decide +kernel
theorem dL_law_1732 : decode code 1732 = .ok (.aload_n 2, 1) := by decide +kernel
theorem dL_law_1733 : decode code 1733 = .ok (.aload_n 0, 1) := by decide +kernel
theorem dL_law_1734 : decode code 1734 = .ok (.iload 5, 2) := by decide +kernel
theorem dL_law_1736 : decode code 1736 = .ok (.iconst 1, 1) := by decide +kernel
theorem dL_law_1737 : decode code 1737 = .ok (.iadd, 1) := by decide +kernel
theorem dL_law_1738 : decode code 1738 = .ok (.iaload, 1) := by decide +kernel
theorem dL_law_1739 : decode code 1739 = .ok (.invokevirtual 257, 3) := by decide +kernel
theorem dL_law_1742 : decode code 1742 = .ok (.istore 7, 2) := by decide +kernel
theorem dL_law_1744 : decode code 1744 = .ok (.aload_n 2, 1) := by decide +kernel
theorem dL_law_1745 : decode code 1745 = .ok (.invokevirtual 154, 3) := by decide +kernel
theorem dL_law_1748 : decode code 1748 = .ok (.iload 6, 2) := by decide +kernel
theorem dL_law_1750 : decode code 1750 = .ok (.if_icmp .eq 5, 3) := by decide +kernel
theorem dL_law_1755 : decode code 1755 = .ok (.iload 6, 2) := by decide +kernel
theorem dL_law_1757 : decode code 1757 = .ok (.ifCond .ne 22, 3) := by decide +kernel
theorem dL_law_1760 : decode code 1760 = .ok (.aload_n 3, 1) := by decide +kernel
theorem dL_law_1761 : decode code 1761 = .ok (.iconst 0, 1) := by decide +kernel
theorem dL_law_1762 : decode code 1762 = .ok (.laload, 1) := by decide +kernel
theorem dL_law_1763 : decode code 1763 = .ok (.iload 7, 2) := by decide +kernel
theorem dL_law_1765 : decode code 1765 = .ok (.ifCond .eq 7, 3) := by decide +kernel
theorem dL_law_1768 : decode code 1768 = .ok (.lconst 1, 1) := by decide +kernel
theorem dL_law_1769 : decode code 1769 = .ok (.goto 4, 3) := by decide +kernel
theorem dL_law_1772 : decode code 1772 = .ok (.lconst 0, 1) := by decide +kernel
theorem dL_law_1773 : decode code 1773 = .ok (.lcmp, 1) := by decide +kernel
theorem dL_law_1774 : decode code 1774 = .ok (.ifCond .eq 5, 3) := by decide +kernel
theorem dL_law_1779 : decode code 1779 = .ok (.goto 1260, 3) := by decide +kernel
theorem w_law_22 {l : Launch} {G : GT} {b L : Nat} {xs : Nat → Int32} {x a o v u q i n er : Int} {M B : Row} {T : Int → Bool} {S : Int → Row} {Y : Int → Int} {cs sl : Nat} {H : AH} (C : LC l G b L xs x a o v u q i cs sl) (W0 : LW H x a o v u M B n er T S M B n er T S Y) (h3 : ok3 M q) (hS : ∀ k, 0 ≤ k → k < 2 → T k = true → ok3 (S k) q) : LA l G b x a o v i 1259 vU vU vU vU [] cs sl H := by
  obtain ⟨⟨hG, hT, hN, hNc⟩, hX, hA, hL, hR, fin⟩ := C
  have hR0 := W0.1.1
  refine a_aload_n dL_law_1259 rfl rfl ?_
  refine a_xload_n dL_law_1260 rfl rfl ?_
  refine a_iload dL_law_1261 rfl ?_
  refine a_iconst dL_law_1263 ⟨by decide, by decide⟩ ?_
  refine a_iadd dL_law_1264 (by unfold inI; omega) ?_
  refine a_sld hX dL_law_1265 (by omega) ?_
  refine a_aload_n dL_law_1266 rfl rfl ?_
  refine a_callSH (d' := 998 + 1) dL_law_1267 lc_231 (as := [vR x, vI (xs (i + 1).toNat).toInt, vR o]) rfl rfl (Nat.le_refl _) (Nat.le_of_ble_eq_true rfl) (nocov rfl) (by omega) (by omega) (CLH.mono (l_cancel (d := 998) hG (kRun_0 hR0.la) (fun r9 H9 q9 => ⟨ans_I q9.1, by rw [q9.2.1.2.1]; exact W0.2.2.2.2.1⟩) (k_cancel hG hR0)) ?_)
  intro r1 H1 q1
  obtain ⟨rfl, W1, hv⟩ := lqx vI_in vI_nt (fun c i => pX_in) hA (Or.inl rfl) W0 (th01 _) q1
  show LA l G b x a o v i 1270 vU vU vU vU [vI _] (cs + 4) (sl + 24) H1
  refine a_istore dL_law_1270 (by decide) rfl ?_
  show LA l G b x a o v i 1272 (vI _) vU vU vU [] (cs + 4) (sl + 24) H1
  refine a_aload_n dL_law_1272 rfl rfl ?_
  refine a_xload_n dL_law_1273 rfl rfl ?_
  refine a_iload dL_law_1274 rfl ?_
  refine a_iconst dL_law_1276 ⟨by decide, by decide⟩ ?_
  refine a_iadd dL_law_1277 (by unfold inI; omega) ?_
  refine a_sld hX dL_law_1278 (by omega) ?_
  refine a_callV (d' := 999) dL_law_1279 lc_233 (as := [vI (xs (i + 1).toNat).toInt]) rfl rfl (kMod_0 W1.2.1.1.1) (Nat.le_refl _) (Nat.le_of_ble_eq_true rfl) (nocov rfl) (by omega) (by omega) (CL.mono (c_cancel W1.2.1.1) ?_)
  rintro r2 H2 ⟨rfl, w2⟩
  obtain ⟨W2, e2, e2v⟩ := W1.mut hA w2
  show LA l G b x a o v i 1282 (vI _) vU vU vU [vI _] (cs + 4) (sl + 24) H2
  refine a_istore dL_law_1282 (by decide) rfl ?_
  show LA l G b x a o v i 1284 (vI _) (vI _) vU vU [] (cs + 4) (sl + 24) H2
  refine a_aload_n dL_law_1284 rfl rfl ?_
  refine a_callV (d' := 999) dL_law_1285 lc_154 (as := []) rfl rfl (kMod_0 W2.2.1.1.1) (Nat.le_refl _) (Nat.le_of_ble_eq_true rfl) (nocov rfl) (by omega) (by omega) (CL.mono (c_thrown W2.2.1.1.1) ?_)
  rintro r3 H3 ⟨rfl, rfl⟩
  show LA l G b x a o v i 1288 (vI _) (vI _) vU vU [vI _] (cs + 4) (sl + 24) H3
  refine a_iload dL_law_1288 rfl ?_
  refine a_icmp_eq dL_law_1290 (tgt := 1295) rfl (fun _ => ?_) (fun c9 => absurd w2.1 c9)
  refine a_iload dL_law_1295 rfl ?_
  refine a_if_ne dL_law_1297 (tgt := 1312) rfl (fun _ => ?_) (fun c9 => ?_)
  · exact a_goto dL_law_1312 (tgt := 3039) rfl (fin _ _ _ _ _ _ _ ⟨_, _, _, _, _, _, _, W2, (h3.up (by omega)).cnc, fun k k1 k2 t => (hS k k1 k2 t).up (by omega)⟩ (by omega) (by omega))
  · refine a_aload_n dL_law_1300 rfl rfl ?_
    refine a_iconst dL_law_1301 ⟨by decide, by decide⟩ ?_
    refine b_lald dL_law_1302 (congrArg Prod.fst W2.2.2.2.2.1) (congrArg Prod.snd W2.2.2.2.2.1) (by omega) ?_
    refine a_iload dL_law_1303 rfl ?_
    refine a_i2l dL_law_1305 ?_
    refine a_lcmp_eq dL_law_1306 dL_law_1307 (tgt := 1312) rfl (fun _ => ?_) (fun c8 => absurd ((e2 0).trans (hv c9)) c8)
    exact a_goto dL_law_1312 (tgt := 3039) rfl (fin _ _ _ _ _ _ _ ⟨_, _, _, _, _, _, _, W2, (h3.up (by omega)).cnc, fun k k1 k2 t => (hS k k1 k2 t).up (by omega)⟩ (by omega) (by omega))
theorem w_law_23 {l : Launch} {G : GT} {b L : Nat} {xs : Nat → Int32} {x a o v u q i n er : Int} {M B : Row} {T : Int → Bool} {S : Int → Row} {Y : Int → Int} {cs sl : Nat} {H : AH} (C : LC l G b L xs x a o v u q i cs sl) (W0 : LW H x a o v u M B n er T S M B n er T S Y) (h3 : ok3 M q) (hS : ∀ k, 0 ≤ k → k < 2 → T k = true → ok3 (S k) q) : LA l G b x a o v i 1315 vU vU vU vU [] cs sl H := by
  obtain ⟨⟨hG, hT, hN, hNc⟩, hX, hA, hL, hR, fin⟩ := C
  have hR0 := W0.1.1
  refine a_aload_n dL_law_1315 rfl rfl ?_
  refine a_xload_n dL_law_1316 rfl rfl ?_
  refine a_iload dL_law_1317 rfl ?_
  refine a_iconst dL_law_1319 ⟨by decide, by decide⟩ ?_
  refine a_iadd dL_law_1320 (by unfold inI; omega) ?_
  refine a_sld hX dL_law_1321 (by omega) ?_
  refine a_aload_n dL_law_1322 rfl rfl ?_
  refine a_callSH (d' := 998 + 1) dL_law_1323 lc_234 (as := [vR x, vI (xs (i + 1).toNat).toInt, vR o]) rfl rfl (Nat.le_refl _) (Nat.le_of_ble_eq_true rfl) (nocov rfl) (by omega) (by omega) (CLH.mono (l_goAround (d := 998) hG (kRun_0 hR0.la) (fun r9 H9 q9 => ⟨ans_I q9.1, by rw [q9.2.1.2.1]; exact W0.2.2.2.2.1⟩) (k_goAround hG hR0 (fun f hf => by have := h3.2.1 f hf; omega))) ?_)
  intro r1 H1 q1
  obtain ⟨rfl, W1, hv⟩ := lqx vI_in vI_nt (fun c i => pX_in) hA (Or.inl rfl) W0 (th01 _) q1
  show LA l G b x a o v i 1326 vU vU vU vU [vI _] (cs + 4) (sl + 24) H1
  refine a_istore dL_law_1326 (by decide) rfl ?_
  show LA l G b x a o v i 1328 (vI _) vU vU vU [] (cs + 4) (sl + 24) H1
  refine a_aload_n dL_law_1328 rfl rfl ?_
  refine a_xload_n dL_law_1329 rfl rfl ?_
  refine a_iload dL_law_1330 rfl ?_
  refine a_iconst dL_law_1332 ⟨by decide, by decide⟩ ?_
  refine a_iadd dL_law_1333 (by unfold inI; omega) ?_
  refine a_sld hX dL_law_1334 (by omega) ?_
  refine a_callV (d' := 999) dL_law_1335 lc_236 (as := [vI (xs (i + 1).toNat).toInt]) rfl rfl (kMod_0 W1.2.1.1.1) (Nat.le_refl _) (Nat.le_of_ble_eq_true rfl) (nocov rfl) (by omega) (by omega) (CL.mono (c_goAround W1.2.1.1 (fun f hf => by have := h3.2.1 f hf; omega)) ?_)
  rintro r2 H2 ⟨rfl, w2⟩
  obtain ⟨W2, e2, e2v⟩ := W1.mut hA w2
  show LA l G b x a o v i 1338 (vI _) vU vU vU [vI _] (cs + 4) (sl + 24) H2
  refine a_istore dL_law_1338 (by decide) rfl ?_
  show LA l G b x a o v i 1340 (vI _) (vI _) vU vU [] (cs + 4) (sl + 24) H2
  refine a_aload_n dL_law_1340 rfl rfl ?_
  refine a_callV (d' := 999) dL_law_1341 lc_154 (as := []) rfl rfl (kMod_0 W2.2.1.1.1) (Nat.le_refl _) (Nat.le_of_ble_eq_true rfl) (nocov rfl) (by omega) (by omega) (CL.mono (c_thrown W2.2.1.1.1) ?_)
  rintro r3 H3 ⟨rfl, rfl⟩
  show LA l G b x a o v i 1344 (vI _) (vI _) vU vU [vI _] (cs + 4) (sl + 24) H3
  refine a_iload dL_law_1344 rfl ?_
  refine a_icmp_eq dL_law_1346 (tgt := 1351) rfl (fun _ => ?_) (fun c9 => absurd w2.1 c9)
  refine a_iload dL_law_1351 rfl ?_
  refine a_if_ne dL_law_1353 (tgt := 1368) rfl (fun _ => ?_) (fun c9 => ?_)
  · exact a_goto dL_law_1368 (tgt := 3039) rfl (fin _ _ _ _ _ _ _ ⟨_, _, _, _, _, _, _, W2, h3.goa, fun k k1 k2 t => (hS k k1 k2 t).up (by omega)⟩ (by omega) (by omega))
  · refine a_aload_n dL_law_1356 rfl rfl ?_
    refine a_iconst dL_law_1357 ⟨by decide, by decide⟩ ?_
    refine b_lald dL_law_1358 (congrArg Prod.fst W2.2.2.2.2.1) (congrArg Prod.snd W2.2.2.2.2.1) (by omega) ?_
    refine a_iload dL_law_1359 rfl ?_
    refine a_i2l dL_law_1361 ?_
    refine a_lcmp_eq dL_law_1362 dL_law_1363 (tgt := 1368) rfl (fun _ => ?_) (fun c8 => absurd ((e2 0).trans (hv c9)) c8)
    exact a_goto dL_law_1368 (tgt := 3039) rfl (fin _ _ _ _ _ _ _ ⟨_, _, _, _, _, _, _, W2, h3.goa, fun k k1 k2 t => (hS k k1 k2 t).up (by omega)⟩ (by omega) (by omega))
theorem w_law_24 {l : Launch} {G : GT} {b L : Nat} {xs : Nat → Int32} {x a o v u q i n er : Int} {M B : Row} {T : Int → Bool} {S : Int → Row} {Y : Int → Int} {cs sl : Nat} {H : AH} (C : LC l G b L xs x a o v u q i cs sl) (W0 : LW H x a o v u M B n er T S M B n er T S Y) (h3 : ok3 M q) (hS : ∀ k, 0 ≤ k → k < 2 → T k = true → ok3 (S k) q) : LA l G b x a o v i 1371 vU vU vU vU [] cs sl H := by
  obtain ⟨⟨hG, hT, hN, hNc⟩, hX, hA, hL, hR, fin⟩ := C
  have hR0 := W0.1.1
  refine a_aload_n dL_law_1371 rfl rfl ?_
  refine a_xload_n dL_law_1372 rfl rfl ?_
  refine a_iload dL_law_1373 rfl ?_
  refine a_iconst dL_law_1375 ⟨by decide, by decide⟩ ?_
  refine a_iadd dL_law_1376 (by unfold inI; omega) ?_
  refine a_sld hX dL_law_1377 (by omega) ?_
  refine a_aload_n dL_law_1378 rfl rfl ?_
  refine a_callSH (d' := 998 + 1) dL_law_1379 lc_237 (as := [vR x, vI (xs (i + 1).toNat).toInt, vR o]) rfl rfl (Nat.le_refl _) (Nat.le_of_ble_eq_true rfl) (nocov rfl) (by omega) (by omega) (CLH.mono (l_stateOf (d := 998) hG (kRun_0 hR0.la) (fun r9 H9 q9 => ⟨ans_I q9.1, by rw [q9.2.1.2.1]; exact W0.2.2.2.2.1⟩) (k_stateOf hG hR0)) ?_)
  intro r1 H1 q1
  obtain ⟨rfl, W1, hv⟩ := lqx vI_in vI_nt (fun c i => pX_in) hA (Or.inl rfl) W0 (th01 _) q1
  show LA l G b x a o v i 1382 vU vU vU vU [vI _] (cs + 4) (sl + 24) H1
  refine a_istore dL_law_1382 (by decide) rfl ?_
  show LA l G b x a o v i 1384 (vI _) vU vU vU [] (cs + 4) (sl + 24) H1
  refine a_aload_n dL_law_1384 rfl rfl ?_
  refine a_xload_n dL_law_1385 rfl rfl ?_
  refine a_iload dL_law_1386 rfl ?_
  refine a_iconst dL_law_1388 ⟨by decide, by decide⟩ ?_
  refine a_iadd dL_law_1389 (by unfold inI; omega) ?_
  refine a_sld hX dL_law_1390 (by omega) ?_
  refine a_callV (d' := 999) dL_law_1391 lc_239 (as := [vI (xs (i + 1).toNat).toInt]) rfl rfl (kMod_0 W1.2.1.1.1) (Nat.le_refl _) (Nat.le_of_ble_eq_true rfl) (nocov rfl) (by omega) (by omega) (CL.mono (c_stateOf W1.2.1.1) ?_)
  rintro r2 H2 ⟨rfl, w2⟩
  obtain ⟨W2, e2, e2v⟩ := W1.pub hA w2
  show LA l G b x a o v i 1394 (vI _) vU vU vU [vI _] (cs + 4) (sl + 24) H2
  refine a_istore dL_law_1394 (by decide) rfl ?_
  show LA l G b x a o v i 1396 (vI _) (vI _) vU vU [] (cs + 4) (sl + 24) H2
  refine a_aload_n dL_law_1396 rfl rfl ?_
  refine a_callV (d' := 999) dL_law_1397 lc_154 (as := []) rfl rfl (kMod_0 W2.2.1.1.1) (Nat.le_refl _) (Nat.le_of_ble_eq_true rfl) (nocov rfl) (by omega) (by omega) (CL.mono (c_thrown W2.2.1.1.1) ?_)
  rintro r3 H3 ⟨rfl, rfl⟩
  show LA l G b x a o v i 1400 (vI _) (vI _) vU vU [vI _] (cs + 4) (sl + 24) H3
  refine a_iload dL_law_1400 rfl ?_
  refine a_icmp_eq dL_law_1402 (tgt := 1407) rfl (fun _ => ?_) (fun c9 => absurd w2.1 c9)
  refine a_iload dL_law_1407 rfl ?_
  refine a_if_ne dL_law_1409 (tgt := 1424) rfl (fun _ => ?_) (fun c9 => ?_)
  · exact a_goto dL_law_1424 (tgt := 3039) rfl (fin _ _ _ _ _ _ _ ⟨_, _, _, _, _, _, _, W2, h3.up (by omega), fun k k1 k2 t => (hS k k1 k2 t).up (by omega)⟩ (by omega) (by omega))
  · refine a_aload_n dL_law_1412 rfl rfl ?_
    refine a_iconst dL_law_1413 ⟨by decide, by decide⟩ ?_
    refine b_lald dL_law_1414 (congrArg Prod.fst W2.2.2.2.2.1) (congrArg Prod.snd W2.2.2.2.2.1) (by omega) ?_
    refine a_iload dL_law_1415 rfl ?_
    refine a_i2l dL_law_1417 ?_
    refine a_lcmp_eq dL_law_1418 dL_law_1419 (tgt := 1424) rfl (fun _ => ?_) (fun c8 => absurd ((e2 0).trans (hv c9)) c8)
    exact a_goto dL_law_1424 (tgt := 3039) rfl (fin _ _ _ _ _ _ _ ⟨_, _, _, _, _, _, _, W2, h3.up (by omega), fun k k1 k2 t => (hS k k1 k2 t).up (by omega)⟩ (by omega) (by omega))
theorem w_law_25 {l : Launch} {G : GT} {b L : Nat} {xs : Nat → Int32} {x a o v u q i n er : Int} {M B : Row} {T : Int → Bool} {S : Int → Row} {Y : Int → Int} {cs sl : Nat} {H : AH} (C : LC l G b L xs x a o v u q i cs sl) (W0 : LW H x a o v u M B n er T S M B n er T S Y) (h3 : ok3 M q) (hS : ∀ k, 0 ≤ k → k < 2 → T k = true → ok3 (S k) q) : LA l G b x a o v i 1427 vU vU vU vU [] cs sl H := by
  obtain ⟨⟨hG, hT, hN, hNc⟩, hX, hA, hL, hR, fin⟩ := C
  have hR0 := W0.1.1
  refine a_aload_n dL_law_1427 rfl rfl ?_
  refine a_xload_n dL_law_1428 rfl rfl ?_
  refine a_iload dL_law_1429 rfl ?_
  refine a_iconst dL_law_1431 ⟨by decide, by decide⟩ ?_
  refine a_iadd dL_law_1432 (by unfold inI; omega) ?_
  refine a_sld hX dL_law_1433 (by omega) ?_
  refine a_aload_n dL_law_1434 rfl rfl ?_
  refine a_callSH (d' := 998 + 1) dL_law_1435 lc_240 (as := [vR x, vI (xs (i + 1).toNat).toInt, vR o]) rfl rfl (Nat.le_refl _) (Nat.le_of_ble_eq_true rfl) (nocov rfl) (by omega) (by omega) (CLH.mono (l_timeOf (d := 998) hG (kRun_0 hR0.la) (fun r9 H9 q9 => ⟨ans_I q9.1, by rw [q9.2.1.2.1]; exact W0.2.2.2.2.1⟩) (k_timeOf hG hR0)) ?_)
  intro r1 H1 q1
  obtain ⟨rfl, W1, hv⟩ := lqx vI_in vI_nt (fun c i => pX_in) hA (Or.inl rfl) W0 (th01 _) q1
  show LA l G b x a o v i 1438 vU vU vU vU [vI _] (cs + 4) (sl + 24) H1
  refine a_istore dL_law_1438 (by decide) rfl ?_
  show LA l G b x a o v i 1440 (vI _) vU vU vU [] (cs + 4) (sl + 24) H1
  refine a_aload_n dL_law_1440 rfl rfl ?_
  refine a_xload_n dL_law_1441 rfl rfl ?_
  refine a_iload dL_law_1442 rfl ?_
  refine a_iconst dL_law_1444 ⟨by decide, by decide⟩ ?_
  refine a_iadd dL_law_1445 (by unfold inI; omega) ?_
  refine a_sld hX dL_law_1446 (by omega) ?_
  refine a_callV (d' := 999) dL_law_1447 lc_242 (as := [vI (xs (i + 1).toNat).toInt]) rfl rfl (kMod_0 W1.2.1.1.1) (Nat.le_refl _) (Nat.le_of_ble_eq_true rfl) (nocov rfl) (by omega) (by omega) (CL.mono (c_timeOf W1.2.1.1) ?_)
  rintro r2 H2 ⟨rfl, w2⟩
  obtain ⟨W2, e2, e2v⟩ := W1.pub hA w2
  show LA l G b x a o v i 1450 (vI _) vU vU vU [vI _] (cs + 4) (sl + 24) H2
  refine a_istore dL_law_1450 (by decide) rfl ?_
  show LA l G b x a o v i 1452 (vI _) (vI _) vU vU [] (cs + 4) (sl + 24) H2
  refine a_aload_n dL_law_1452 rfl rfl ?_
  refine a_callV (d' := 999) dL_law_1453 lc_154 (as := []) rfl rfl (kMod_0 W2.2.1.1.1) (Nat.le_refl _) (Nat.le_of_ble_eq_true rfl) (nocov rfl) (by omega) (by omega) (CL.mono (c_thrown W2.2.1.1.1) ?_)
  rintro r3 H3 ⟨rfl, rfl⟩
  show LA l G b x a o v i 1456 (vI _) (vI _) vU vU [vI _] (cs + 4) (sl + 24) H3
  refine a_iload dL_law_1456 rfl ?_
  refine a_icmp_eq dL_law_1458 (tgt := 1463) rfl (fun _ => ?_) (fun c9 => absurd w2.1 c9)
  refine a_iload dL_law_1463 rfl ?_
  refine a_if_ne dL_law_1465 (tgt := 1480) rfl (fun _ => ?_) (fun c9 => ?_)
  · exact a_goto dL_law_1480 (tgt := 3039) rfl (fin _ _ _ _ _ _ _ ⟨_, _, _, _, _, _, _, W2, h3.up (by omega), fun k k1 k2 t => (hS k k1 k2 t).up (by omega)⟩ (by omega) (by omega))
  · refine a_aload_n dL_law_1468 rfl rfl ?_
    refine a_iconst dL_law_1469 ⟨by decide, by decide⟩ ?_
    refine b_lald dL_law_1470 (congrArg Prod.fst W2.2.2.2.2.1) (congrArg Prod.snd W2.2.2.2.2.1) (by omega) ?_
    refine a_iload dL_law_1471 rfl ?_
    refine a_i2l dL_law_1473 ?_
    refine a_lcmp_eq dL_law_1474 dL_law_1475 (tgt := 1480) rfl (fun _ => ?_) (fun c8 => absurd ((e2 0).trans (hv c9)) c8)
    exact a_goto dL_law_1480 (tgt := 3039) rfl (fin _ _ _ _ _ _ _ ⟨_, _, _, _, _, _, _, W2, h3.up (by omega), fun k k1 k2 t => (hS k k1 k2 t).up (by omega)⟩ (by omega) (by omega))
theorem w_law_26 {l : Launch} {G : GT} {b L : Nat} {xs : Nat → Int32} {x a o v u q i n er : Int} {M B : Row} {T : Int → Bool} {S : Int → Row} {Y : Int → Int} {cs sl : Nat} {H : AH} (C : LC l G b L xs x a o v u q i cs sl) (W0 : LW H x a o v u M B n er T S M B n er T S Y) (h3 : ok3 M q) (hS : ∀ k, 0 ≤ k → k < 2 → T k = true → ok3 (S k) q) : LA l G b x a o v i 1483 vU vU vU vU [] cs sl H := by
  obtain ⟨⟨hG, hT, hN, hNc⟩, hX, hA, hL, hR, fin⟩ := C
  have hR0 := W0.1.1
  refine a_aload_n dL_law_1483 rfl rfl ?_
  refine a_xload_n dL_law_1484 rfl rfl ?_
  refine a_iload dL_law_1485 rfl ?_
  refine a_iconst dL_law_1487 ⟨by decide, by decide⟩ ?_
  refine a_iadd dL_law_1488 (by unfold inI; omega) ?_
  refine a_sld hX dL_law_1489 (by omega) ?_
  refine a_aload_n dL_law_1490 rfl rfl ?_
  refine a_callSH (d' := 998 + 1) dL_law_1491 lc_243 (as := [vR x, vI (xs (i + 1).toNat).toInt, vR o]) rfl rfl (Nat.le_refl _) (Nat.le_of_ble_eq_true rfl) (nocov rfl) (by omega) (by omega) (CLH.mono (l_placeOf (d := 998) hG (kRun_0 hR0.la) (fun r9 H9 q9 => ⟨ans_I q9.1, by rw [q9.2.1.2.1]; exact W0.2.2.2.2.1⟩) (k_placeOf hG hR0)) ?_)
  intro r1 H1 q1
  obtain ⟨rfl, W1, hv⟩ := lqx vI_in vI_nt (fun c i => pX_in) hA (Or.inl rfl) W0 (th01 _) q1
  show LA l G b x a o v i 1494 vU vU vU vU [vI _] (cs + 4) (sl + 24) H1
  refine a_istore dL_law_1494 (by decide) rfl ?_
  show LA l G b x a o v i 1496 (vI _) vU vU vU [] (cs + 4) (sl + 24) H1
  refine a_aload_n dL_law_1496 rfl rfl ?_
  refine a_xload_n dL_law_1497 rfl rfl ?_
  refine a_iload dL_law_1498 rfl ?_
  refine a_iconst dL_law_1500 ⟨by decide, by decide⟩ ?_
  refine a_iadd dL_law_1501 (by unfold inI; omega) ?_
  refine a_sld hX dL_law_1502 (by omega) ?_
  refine a_callV (d' := 999) dL_law_1503 lc_245 (as := [vI (xs (i + 1).toNat).toInt]) rfl rfl (kMod_0 W1.2.1.1.1) (Nat.le_refl _) (Nat.le_of_ble_eq_true rfl) (nocov rfl) (by omega) (by omega) (CL.mono (c_placeOf W1.2.1.1) ?_)
  rintro r2 H2 ⟨rfl, w2⟩
  obtain ⟨W2, e2, e2v⟩ := W1.pub hA w2
  show LA l G b x a o v i 1506 (vI _) vU vU vU [vI _] (cs + 4) (sl + 24) H2
  refine a_istore dL_law_1506 (by decide) rfl ?_
  show LA l G b x a o v i 1508 (vI _) (vI _) vU vU [] (cs + 4) (sl + 24) H2
  refine a_aload_n dL_law_1508 rfl rfl ?_
  refine a_callV (d' := 999) dL_law_1509 lc_154 (as := []) rfl rfl (kMod_0 W2.2.1.1.1) (Nat.le_refl _) (Nat.le_of_ble_eq_true rfl) (nocov rfl) (by omega) (by omega) (CL.mono (c_thrown W2.2.1.1.1) ?_)
  rintro r3 H3 ⟨rfl, rfl⟩
  show LA l G b x a o v i 1512 (vI _) (vI _) vU vU [vI _] (cs + 4) (sl + 24) H3
  refine a_iload dL_law_1512 rfl ?_
  refine a_icmp_eq dL_law_1514 (tgt := 1519) rfl (fun _ => ?_) (fun c9 => absurd w2.1 c9)
  refine a_iload dL_law_1519 rfl ?_
  refine a_if_ne dL_law_1521 (tgt := 1536) rfl (fun _ => ?_) (fun c9 => ?_)
  · exact a_goto dL_law_1536 (tgt := 3039) rfl (fin _ _ _ _ _ _ _ ⟨_, _, _, _, _, _, _, W2, h3.up (by omega), fun k k1 k2 t => (hS k k1 k2 t).up (by omega)⟩ (by omega) (by omega))
  · refine a_aload_n dL_law_1524 rfl rfl ?_
    refine a_iconst dL_law_1525 ⟨by decide, by decide⟩ ?_
    refine b_lald dL_law_1526 (congrArg Prod.fst W2.2.2.2.2.1) (congrArg Prod.snd W2.2.2.2.2.1) (by omega) ?_
    refine a_iload dL_law_1527 rfl ?_
    refine a_i2l dL_law_1529 ?_
    refine a_lcmp_eq dL_law_1530 dL_law_1531 (tgt := 1536) rfl (fun _ => ?_) (fun c8 => absurd ((e2 0).trans (hv c9)) c8)
    exact a_goto dL_law_1536 (tgt := 3039) rfl (fin _ _ _ _ _ _ _ ⟨_, _, _, _, _, _, _, W2, h3.up (by omega), fun k k1 k2 t => (hS k k1 k2 t).up (by omega)⟩ (by omega) (by omega))
theorem w_law_27 {l : Launch} {G : GT} {b L : Nat} {xs : Nat → Int32} {x a o v u q i n er : Int} {M B : Row} {T : Int → Bool} {S : Int → Row} {Y : Int → Int} {cs sl : Nat} {H : AH} (C : LC l G b L xs x a o v u q i cs sl) (W0 : LW H x a o v u M B n er T S M B n er T S Y) (h3 : ok3 M q) (hS : ∀ k, 0 ≤ k → k < 2 → T k = true → ok3 (S k) q) : LA l G b x a o v i 1539 vU vU vU vU [] cs sl H := by
  obtain ⟨⟨hG, hT, hN, hNc⟩, hX, hA, hL, hR, fin⟩ := C
  have hR0 := W0.1.1
  refine a_aload_n dL_law_1539 rfl rfl ?_
  refine a_xload_n dL_law_1540 rfl rfl ?_
  refine a_iload dL_law_1541 rfl ?_
  refine a_iconst dL_law_1543 ⟨by decide, by decide⟩ ?_
  refine a_iadd dL_law_1544 (by unfold inI; omega) ?_
  refine a_sld hX dL_law_1545 (by omega) ?_
  refine a_aload_n dL_law_1546 rfl rfl ?_
  refine a_callSH (d' := 998 + 1) dL_law_1547 lc_246 (as := [vR x, vI (xs (i + 1).toNat).toInt, vR o]) rfl rfl (Nat.le_refl _) (Nat.le_of_ble_eq_true rfl) (nocov rfl) (by omega) (by omega) (CLH.mono (l_firstComePlace (d := 998) hG (kRun_0 hR0.la) (fun r9 H9 q9 => ⟨ans_I q9.1, by rw [q9.2.1.2.1]; exact W0.2.2.2.2.1⟩) (k_firstComePlace hG hR0)) ?_)
  intro r1 H1 q1
  obtain ⟨rfl, W1, hv⟩ := lqx vI_in vI_nt (fun c i => pX_in) hA (Or.inl rfl) W0 (th01 _) q1
  show LA l G b x a o v i 1550 vU vU vU vU [vI _] (cs + 4) (sl + 24) H1
  refine a_istore dL_law_1550 (by decide) rfl ?_
  show LA l G b x a o v i 1552 (vI _) vU vU vU [] (cs + 4) (sl + 24) H1
  refine a_aload_n dL_law_1552 rfl rfl ?_
  refine a_xload_n dL_law_1553 rfl rfl ?_
  refine a_iload dL_law_1554 rfl ?_
  refine a_iconst dL_law_1556 ⟨by decide, by decide⟩ ?_
  refine a_iadd dL_law_1557 (by unfold inI; omega) ?_
  refine a_sld hX dL_law_1558 (by omega) ?_
  refine a_callV (d' := 999) dL_law_1559 lc_248 (as := [vI (xs (i + 1).toNat).toInt]) rfl rfl (kMod_0 W1.2.1.1.1) (Nat.le_refl _) (Nat.le_of_ble_eq_true rfl) (nocov rfl) (by omega) (by omega) (CL.mono (c_firstComePlace W1.2.1.1) ?_)
  rintro r2 H2 ⟨rfl, w2⟩
  obtain ⟨W2, e2, e2v⟩ := W1.pub hA w2
  show LA l G b x a o v i 1562 (vI _) vU vU vU [vI _] (cs + 4) (sl + 24) H2
  refine a_istore dL_law_1562 (by decide) rfl ?_
  show LA l G b x a o v i 1564 (vI _) (vI _) vU vU [] (cs + 4) (sl + 24) H2
  refine a_aload_n dL_law_1564 rfl rfl ?_
  refine a_callV (d' := 999) dL_law_1565 lc_154 (as := []) rfl rfl (kMod_0 W2.2.1.1.1) (Nat.le_refl _) (Nat.le_of_ble_eq_true rfl) (nocov rfl) (by omega) (by omega) (CL.mono (c_thrown W2.2.1.1.1) ?_)
  rintro r3 H3 ⟨rfl, rfl⟩
  show LA l G b x a o v i 1568 (vI _) (vI _) vU vU [vI _] (cs + 4) (sl + 24) H3
  refine a_iload dL_law_1568 rfl ?_
  refine a_icmp_eq dL_law_1570 (tgt := 1575) rfl (fun _ => ?_) (fun c9 => absurd w2.1 c9)
  refine a_iload dL_law_1575 rfl ?_
  refine a_if_ne dL_law_1577 (tgt := 1592) rfl (fun _ => ?_) (fun c9 => ?_)
  · exact a_goto dL_law_1592 (tgt := 3039) rfl (fin _ _ _ _ _ _ _ ⟨_, _, _, _, _, _, _, W2, h3.up (by omega), fun k k1 k2 t => (hS k k1 k2 t).up (by omega)⟩ (by omega) (by omega))
  · refine a_aload_n dL_law_1580 rfl rfl ?_
    refine a_iconst dL_law_1581 ⟨by decide, by decide⟩ ?_
    refine b_lald dL_law_1582 (congrArg Prod.fst W2.2.2.2.2.1) (congrArg Prod.snd W2.2.2.2.2.1) (by omega) ?_
    refine a_iload dL_law_1583 rfl ?_
    refine a_i2l dL_law_1585 ?_
    refine a_lcmp_eq dL_law_1586 dL_law_1587 (tgt := 1592) rfl (fun _ => ?_) (fun c8 => absurd ((e2 0).trans (hv c9)) c8)
    exact a_goto dL_law_1592 (tgt := 3039) rfl (fin _ _ _ _ _ _ _ ⟨_, _, _, _, _, _, _, W2, h3.up (by omega), fun k k1 k2 t => (hS k k1 k2 t).up (by omega)⟩ (by omega) (by omega))
theorem w_law_28 {l : Launch} {G : GT} {b L : Nat} {xs : Nat → Int32} {x a o v u q i n er : Int} {M B : Row} {T : Int → Bool} {S : Int → Row} {Y : Int → Int} {cs sl : Nat} {H : AH} (C : LC l G b L xs x a o v u q i cs sl) (W0 : LW H x a o v u M B n er T S M B n er T S Y) (h3 : ok3 M q) (hS : ∀ k, 0 ≤ k → k < 2 → T k = true → ok3 (S k) q) : LA l G b x a o v i 1595 vU vU vU vU [] cs sl H := by
  obtain ⟨⟨hG, hT, hN, hNc⟩, hX, hA, hL, hR, fin⟩ := C
  have hR0 := W0.1.1
  refine a_aload_n dL_law_1595 rfl rfl ?_
  refine a_xload_n dL_law_1596 rfl rfl ?_
  refine a_iload dL_law_1597 rfl ?_
  refine a_iconst dL_law_1599 ⟨by decide, by decide⟩ ?_
  refine a_iadd dL_law_1600 (by unfold inI; omega) ?_
  refine a_sld hX dL_law_1601 (by omega) ?_
  refine a_xload_n dL_law_1602 rfl rfl ?_
  refine a_iload dL_law_1603 rfl ?_
  refine a_iconst dL_law_1605 ⟨by decide, by decide⟩ ?_
  refine a_iadd dL_law_1606 (by unfold inI; omega) ?_
  refine a_sld hX dL_law_1607 (by omega) ?_
  refine a_aload_n dL_law_1608 rfl rfl ?_
  refine a_callSH (d' := 998 + 1) dL_law_1609 lc_249 (as := [vR x, vI (xs (i + 1).toNat).toInt, vI (xs (i + 2).toNat).toInt, vR o]) rfl rfl (Nat.le_refl _) (Nat.le_of_ble_eq_true rfl) (nocov rfl) (by omega) (by omega) (CLH.mono (l_plannedAt (d := 998) hG (kRun_0 hR0.la) (fun r9 H9 q9 => ⟨ans_I q9.1, by rw [q9.2.1.2.1]; exact W0.2.2.2.2.1⟩) (k_plannedAt hG hR0)) ?_)
  intro r1 H1 q1
  obtain ⟨rfl, W1, hv⟩ := lqx vI_in vI_nt (fun c i => pX_in) hA (Or.inl rfl) W0 (th01 _) q1
  show LA l G b x a o v i 1612 vU vU vU vU [vI _] (cs + 4) (sl + 24) H1
  refine a_istore dL_law_1612 (by decide) rfl ?_
  show LA l G b x a o v i 1614 (vI _) vU vU vU [] (cs + 4) (sl + 24) H1
  refine a_aload_n dL_law_1614 rfl rfl ?_
  refine a_xload_n dL_law_1615 rfl rfl ?_
  refine a_iload dL_law_1616 rfl ?_
  refine a_iconst dL_law_1618 ⟨by decide, by decide⟩ ?_
  refine a_iadd dL_law_1619 (by unfold inI; omega) ?_
  refine a_sld hX dL_law_1620 (by omega) ?_
  refine a_xload_n dL_law_1621 rfl rfl ?_
  refine a_iload dL_law_1622 rfl ?_
  refine a_iconst dL_law_1624 ⟨by decide, by decide⟩ ?_
  refine a_iadd dL_law_1625 (by unfold inI; omega) ?_
  refine a_sld hX dL_law_1626 (by omega) ?_
  refine a_callV (d' := 999) dL_law_1627 lc_251 (as := [vI (xs (i + 1).toNat).toInt, vI (xs (i + 2).toNat).toInt]) rfl rfl (kMod_0 W1.2.1.1.1) (Nat.le_refl _) (Nat.le_of_ble_eq_true rfl) (nocov rfl) (by omega) (by omega) (CL.mono (c_plannedAt W1.2.1.1) ?_)
  rintro r2 H2 ⟨rfl, w2⟩
  obtain ⟨W2, e2, e2v⟩ := W1.pub hA w2
  show LA l G b x a o v i 1630 (vI _) vU vU vU [vI _] (cs + 4) (sl + 24) H2
  refine a_istore dL_law_1630 (by decide) rfl ?_
  show LA l G b x a o v i 1632 (vI _) (vI _) vU vU [] (cs + 4) (sl + 24) H2
  refine a_aload_n dL_law_1632 rfl rfl ?_
  refine a_callV (d' := 999) dL_law_1633 lc_154 (as := []) rfl rfl (kMod_0 W2.2.1.1.1) (Nat.le_refl _) (Nat.le_of_ble_eq_true rfl) (nocov rfl) (by omega) (by omega) (CL.mono (c_thrown W2.2.1.1.1) ?_)
  rintro r3 H3 ⟨rfl, rfl⟩
  show LA l G b x a o v i 1636 (vI _) (vI _) vU vU [vI _] (cs + 4) (sl + 24) H3
  refine a_iload dL_law_1636 rfl ?_
  refine a_icmp_eq dL_law_1638 (tgt := 1643) rfl (fun _ => ?_) (fun c9 => absurd w2.1 c9)
  refine a_iload dL_law_1643 rfl ?_
  refine a_if_ne dL_law_1645 (tgt := 1660) rfl (fun _ => ?_) (fun c9 => ?_)
  · exact a_goto dL_law_1660 (tgt := 3039) rfl (fin _ _ _ _ _ _ _ ⟨_, _, _, _, _, _, _, W2, h3.up (by omega), fun k k1 k2 t => (hS k k1 k2 t).up (by omega)⟩ (by omega) (by omega))
  · refine a_aload_n dL_law_1648 rfl rfl ?_
    refine a_iconst dL_law_1649 ⟨by decide, by decide⟩ ?_
    refine b_lald dL_law_1650 (congrArg Prod.fst W2.2.2.2.2.1) (congrArg Prod.snd W2.2.2.2.2.1) (by omega) ?_
    refine a_iload dL_law_1651 rfl ?_
    refine a_i2l dL_law_1653 ?_
    refine a_lcmp_eq dL_law_1654 dL_law_1655 (tgt := 1660) rfl (fun _ => ?_) (fun c8 => absurd ((e2 0).trans (hv c9)) c8)
    exact a_goto dL_law_1660 (tgt := 3039) rfl (fin _ _ _ _ _ _ _ ⟨_, _, _, _, _, _, _, W2, h3.up (by omega), fun k k1 k2 t => (hS k k1 k2 t).up (by omega)⟩ (by omega) (by omega))
theorem w_law_29 {l : Launch} {G : GT} {b L : Nat} {xs : Nat → Int32} {x a o v u q i n er : Int} {M B : Row} {T : Int → Bool} {S : Int → Row} {Y : Int → Int} {cs sl : Nat} {H : AH} (C : LC l G b L xs x a o v u q i cs sl) (W0 : LW H x a o v u M B n er T S M B n er T S Y) (h3 : ok3 M q) (hS : ∀ k, 0 ≤ k → k < 2 → T k = true → ok3 (S k) q) : LA l G b x a o v i 1663 vU vU vU vU [] cs sl H := by
  obtain ⟨⟨hG, hT, hN, hNc⟩, hX, hA, hL, hR, fin⟩ := C
  have hR0 := W0.1.1
  refine a_aload_n dL_law_1663 rfl rfl ?_
  refine a_xload_n dL_law_1664 rfl rfl ?_
  refine a_iload dL_law_1665 rfl ?_
  refine a_iconst dL_law_1667 ⟨by decide, by decide⟩ ?_
  refine a_iadd dL_law_1668 (by unfold inI; omega) ?_
  refine a_sld hX dL_law_1669 (by omega) ?_
  refine a_aload_n dL_law_1670 rfl rfl ?_
  refine a_callSH (d' := 998 + 1) dL_law_1671 lc_252 (as := [vR x, vI (xs (i + 1).toNat).toInt, vR o]) rfl rfl (Nat.le_refl _) (Nat.le_of_ble_eq_true rfl) (nocov rfl) (by omega) (by omega) (CLH.mono (l_delay (d := 998) hG (kRun_0 hR0.la) (fun r9 H9 q9 => ⟨ans_I q9.1, by rw [q9.2.1.2.1]; exact W0.2.2.2.2.1⟩) (k_delay hG hR0)) ?_)
  intro r1 H1 q1
  obtain ⟨rfl, W1, hv⟩ := lqx vI_in vI_nt (fun c i => pX_in) hA (Or.inl rfl) W0 (th01 _) q1
  show LA l G b x a o v i 1674 vU vU vU vU [vI _] (cs + 4) (sl + 24) H1
  refine a_istore dL_law_1674 (by decide) rfl ?_
  show LA l G b x a o v i 1676 (vI _) vU vU vU [] (cs + 4) (sl + 24) H1
  refine a_aload_n dL_law_1676 rfl rfl ?_
  refine a_xload_n dL_law_1677 rfl rfl ?_
  refine a_iload dL_law_1678 rfl ?_
  refine a_iconst dL_law_1680 ⟨by decide, by decide⟩ ?_
  refine a_iadd dL_law_1681 (by unfold inI; omega) ?_
  refine a_sld hX dL_law_1682 (by omega) ?_
  refine a_callV (d' := 999) dL_law_1683 lc_254 (as := [vI (xs (i + 1).toNat).toInt]) rfl rfl (kMod_0 W1.2.1.1.1) (Nat.le_refl _) (Nat.le_of_ble_eq_true rfl) (nocov rfl) (by omega) (by omega) (CL.mono (c_delay W1.2.1.1) ?_)
  rintro r2 H2 ⟨rfl, w2⟩
  obtain ⟨W2, e2, e2v⟩ := W1.pub hA w2
  show LA l G b x a o v i 1686 (vI _) vU vU vU [vI _] (cs + 4) (sl + 24) H2
  refine a_istore dL_law_1686 (by decide) rfl ?_
  show LA l G b x a o v i 1688 (vI _) (vI _) vU vU [] (cs + 4) (sl + 24) H2
  refine a_aload_n dL_law_1688 rfl rfl ?_
  refine a_callV (d' := 999) dL_law_1689 lc_154 (as := []) rfl rfl (kMod_0 W2.2.1.1.1) (Nat.le_refl _) (Nat.le_of_ble_eq_true rfl) (nocov rfl) (by omega) (by omega) (CL.mono (c_thrown W2.2.1.1.1) ?_)
  rintro r3 H3 ⟨rfl, rfl⟩
  show LA l G b x a o v i 1692 (vI _) (vI _) vU vU [vI _] (cs + 4) (sl + 24) H3
  refine a_iload dL_law_1692 rfl ?_
  refine a_icmp_eq dL_law_1694 (tgt := 1699) rfl (fun _ => ?_) (fun c9 => absurd w2.1 c9)
  refine a_iload dL_law_1699 rfl ?_
  refine a_if_ne dL_law_1701 (tgt := 1716) rfl (fun _ => ?_) (fun c9 => ?_)
  · exact a_goto dL_law_1716 (tgt := 3039) rfl (fin _ _ _ _ _ _ _ ⟨_, _, _, _, _, _, _, W2, h3.up (by omega), fun k k1 k2 t => (hS k k1 k2 t).up (by omega)⟩ (by omega) (by omega))
  · refine a_aload_n dL_law_1704 rfl rfl ?_
    refine a_iconst dL_law_1705 ⟨by decide, by decide⟩ ?_
    refine b_lald dL_law_1706 (congrArg Prod.fst W2.2.2.2.2.1) (congrArg Prod.snd W2.2.2.2.2.1) (by omega) ?_
    refine a_iload dL_law_1707 rfl ?_
    refine a_i2l dL_law_1709 ?_
    refine a_lcmp_eq dL_law_1710 dL_law_1711 (tgt := 1716) rfl (fun _ => ?_) (fun c8 => absurd ((e2 0).trans (hv c9)) c8)
    exact a_goto dL_law_1716 (tgt := 3039) rfl (fin _ _ _ _ _ _ _ ⟨_, _, _, _, _, _, _, W2, h3.up (by omega), fun k k1 k2 t => (hS k k1 k2 t).up (by omega)⟩ (by omega) (by omega))
theorem w_law_30 {l : Launch} {G : GT} {b L : Nat} {xs : Nat → Int32} {x a o v u q i n er : Int} {M B : Row} {T : Int → Bool} {S : Int → Row} {Y : Int → Int} {cs sl : Nat} {H : AH} (C : LC l G b L xs x a o v u q i cs sl) (W0 : LW H x a o v u M B n er T S M B n er T S Y) (h3 : ok3 M q) (hS : ∀ k, 0 ≤ k → k < 2 → T k = true → ok3 (S k) q) : LA l G b x a o v i 1719 vU vU vU vU [] cs sl H := by
  obtain ⟨⟨hG, hT, hN, hNc⟩, hX, hA, hL, hR, fin⟩ := C
  have hR0 := W0.1.1
  refine a_aload_n dL_law_1719 rfl rfl ?_
  refine a_xload_n dL_law_1720 rfl rfl ?_
  refine a_iload dL_law_1721 rfl ?_
  refine a_iconst dL_law_1723 ⟨by decide, by decide⟩ ?_
  refine a_iadd dL_law_1724 (by unfold inI; omega) ?_
  refine a_sld hX dL_law_1725 (by omega) ?_
  refine a_aload_n dL_law_1726 rfl rfl ?_
  refine a_callSH (d' := 998 + 1) dL_law_1727 lc_255 (as := [vR x, vI (xs (i + 1).toNat).toInt, vR o]) rfl rfl (Nat.le_refl _) (Nat.le_of_ble_eq_true rfl) (nocov rfl) (by omega) (by omega) (CLH.mono (l_isLate (d := 998) hG (kRun_0 hR0.la) (fun r9 H9 q9 => ⟨ans_Z q9.1 (bi_01 _), by rw [q9.2.1.2.1]; exact W0.2.2.2.2.1⟩) (k_isLate hG hR0)) ?_)
  intro r1 H1 q1
  obtain ⟨rfl, W1, hv⟩ := lqx vI_in vI_nt (fun c i => pX_in) hA (Or.inl rfl) W0 (th01 _) q1
  show LA l G b x a o v i 1730 vU vU vU vU [vI _] (cs + 4) (sl + 24) H1
  refine a_istore dL_law_1730 (by decide) rfl ?_
  show LA l G b x a o v i 1732 (vI _) vU vU vU [] (cs + 4) (sl + 24) H1
  refine a_aload_n dL_law_1732 rfl rfl ?_
  refine a_xload_n dL_law_1733 rfl rfl ?_
  refine a_iload dL_law_1734 rfl ?_
  refine a_iconst dL_law_1736 ⟨by decide, by decide⟩ ?_
  refine a_iadd dL_law_1737 (by unfold inI; omega) ?_
  refine a_sld hX dL_law_1738 (by omega) ?_
  refine a_callV (d' := 999) dL_law_1739 lc_257 (as := [vI (xs (i + 1).toNat).toInt]) rfl rfl (kMod_0 W1.2.1.1.1) (Nat.le_refl _) (Nat.le_of_ble_eq_true rfl) (nocov rfl) (by omega) (by omega) (CL.mono (c_isLate W1.2.1.1) ?_)
  rintro r2 H2 ⟨rfl, w2⟩
  obtain ⟨W2, e2, e2v⟩ := W1.pub hA w2
  show LA l G b x a o v i 1742 (vI _) vU vU vU [vI _] (cs + 4) (sl + 24) H2
  refine a_istore dL_law_1742 (by decide) rfl ?_
  show LA l G b x a o v i 1744 (vI _) (vI _) vU vU [] (cs + 4) (sl + 24) H2
  refine a_aload_n dL_law_1744 rfl rfl ?_
  refine a_callV (d' := 999) dL_law_1745 lc_154 (as := []) rfl rfl (kMod_0 W2.2.1.1.1) (Nat.le_refl _) (Nat.le_of_ble_eq_true rfl) (nocov rfl) (by omega) (by omega) (CL.mono (c_thrown W2.2.1.1.1) ?_)
  rintro r3 H3 ⟨rfl, rfl⟩
  show LA l G b x a o v i 1748 (vI _) (vI _) vU vU [vI _] (cs + 4) (sl + 24) H3
  refine a_iload dL_law_1748 rfl ?_
  refine a_icmp_eq dL_law_1750 (tgt := 1755) rfl (fun _ => ?_) (fun c9 => absurd w2.1 c9)
  refine a_iload dL_law_1755 rfl ?_
  refine a_if_ne dL_law_1757 (tgt := 1779) rfl (fun _ => ?_) (fun c9 => ?_)
  · exact a_goto dL_law_1779 (tgt := 3039) rfl (fin _ _ _ _ _ _ _ ⟨_, _, _, _, _, _, _, W2, h3.up (by omega), fun k k1 k2 t => (hS k k1 k2 t).up (by omega)⟩ (by omega) (by omega))
  · refine a_aload_n dL_law_1760 rfl rfl ?_
    refine a_iconst dL_law_1761 ⟨by decide, by decide⟩ ?_
    refine b_lald dL_law_1762 (congrArg Prod.fst W2.2.2.2.2.1) (congrArg Prod.snd W2.2.2.2.2.1) (by omega) ?_
    refine a_iload dL_law_1763 rfl ?_
    refine a_if_eq dL_law_1765 (tgt := 1772) rfl (fun c7 => ?_) (fun c7 => ?_)
    · refine a_lconst dL_law_1772 ?_
      show LA l G b x a o v i 1773 (vI _) (vI _) vU vU [vJ 0, vJ _] (cs + 4) (sl + 24) H3
      refine a_lcmp_eq dL_law_1773 dL_law_1774 (tgt := 1779) rfl (fun _ => ?_) (fun c8 => absurd ((e2 0).trans ((hv c9).trans c7)) c8)
      exact a_goto dL_law_1779 (tgt := 3039) rfl (fin _ _ _ _ _ _ _ ⟨_, _, _, _, _, _, _, W2, h3.up (by omega), fun k k1 k2 t => (hS k k1 k2 t).up (by omega)⟩ (by omega) (by omega))
    · refine a_lconst dL_law_1768 ?_
      show LA l G b x a o v i 1769 (vI _) (vI _) vU vU [vJ 1, vJ _] (cs + 4) (sl + 24) H3
      refine a_goto dL_law_1769 (tgt := 1773) rfl ?_
      refine a_lcmp_eq dL_law_1773 dL_law_1774 (tgt := 1779) rfl (fun _ => ?_) (fun c8 => absurd ((e2 0).trans ((hv c9).trans ((bi_01 _).resolve_left c7))) c8)
      exact a_goto dL_law_1779 (tgt := 3039) rfl (fin _ _ _ _ _ _ _ ⟨_, _, _, _, _, _, _, W2, h3.up (by omega), fun k k1 k2 t => (hS k k1 k2 t).up (by omega)⟩ (by omega) (by omega))
