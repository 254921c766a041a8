theorem dL_1296 : decode code 1296 = .ok (.iconst 0, 1) := by decide +kernel
theorem dL_1297 : decode code 1297 = .ok (.ireturn, 1) := by decide +kernel
theorem dL_1298 : decode code 1298 = .ok (.aload_n 1, 1) := by decide +kernel
theorem dL_1299 : decode code 1299 = .ok (.aload_n 0, 1) := by decide +kernel
theorem dL_1300 : decode code 1300 = .ok (.iload_n 3, 1) := by decide +kernel
theorem dL_1301 : decode code 1301 = .ok (.iconst 1, 1) := by decide +kernel
theorem dL_1302 : decode code 1302 = .ok (.iadd, 1) := by decide +kernel
theorem dL_1303 : decode code 1303 = .ok (.iaload, 1) := by decide +kernel
theorem dL_1304 : decode code 1304 = .ok (.invokevirtual 151, 3) := by decide +kernel
theorem dL_1307 : decode code 1307 = .ok (.aload_n 2, 1) := by decide +kernel
theorem dL_1308 : decode code 1308 = .ok (.aload_n 0, 1) := by decide +kernel
theorem dL_1309 : decode code 1309 = .ok (.iload_n 3, 1) := by decide +kernel
theorem dL_1310 : decode code 1310 = .ok (.iconst 1, 1) := by decide +kernel
theorem dL_1311 : decode code 1311 = .ok (.iadd, 1) := by decide +kernel
theorem dL_1312 : decode code 1312 = .ok (.iaload, 1) := by decide +kernel
theorem dL_1313 : decode code 1313 = .ok (.invokevirtual 154, 3) := by decide +kernel
theorem dL_1316 : decode code 1316 = .ok (.if_icmp .eq 325, 3) := by decide +kernel
theorem dL_1319 : decode code 1319 = .ok (.iconst 0, 1) := by decide +kernel
theorem dL_1320 : decode code 1320 = .ok (.ireturn, 1) := by decide +kernel
theorem dL_1321 : decode code 1321 = .ok (.aload_n 1, 1) := by decide +kernel
theorem dL_1322 : decode code 1322 = .ok (.aload_n 0, 1) := by decide +kernel
theorem dL_1323 : decode code 1323 = .ok (.iload_n 3, 1) := by decide +kernel
theorem dL_1324 : decode code 1324 = .ok (.iconst 1, 1) := by decide +kernel
theorem dL_1325 : decode code 1325 = .ok (.iadd, 1) := by decide +kernel
theorem dL_1326 : decode code 1326 = .ok (.iaload, 1) := by decide +kernel
theorem dL_1327 : decode code 1327 = .ok (.invokevirtual 155, 3) := by decide +kernel
theorem dL_1330 : decode code 1330 = .ok (.aload_n 2, 1) := by decide +kernel
theorem dL_1331 : decode code 1331 = .ok (.aload_n 0, 1) := by decide +kernel
theorem dL_1332 : decode code 1332 = .ok (.iload_n 3, 1) := by decide +kernel
theorem dL_1333 : decode code 1333 = .ok (.iconst 1, 1) := by decide +kernel
theorem dL_1334 : decode code 1334 = .ok (.iadd, 1) := by decide +kernel
theorem dL_1335 : decode code 1335 = .ok (.iaload, 1) := by decide +kernel
theorem dL_1336 : decode code 1336 = .ok (.invokevirtual 158, 3) := by decide +kernel
theorem dL_1339 : decode code 1339 = .ok (.if_icmp .eq 302, 3) := by decide +kernel
theorem dL_1342 : decode code 1342 = .ok (.iconst 0, 1) := by decide +kernel
theorem dL_1343 : decode code 1343 = .ok (.ireturn, 1) := by decide +kernel
theorem dL_1344 : decode code 1344 = .ok (.aload_n 1, 1) := by decide +kernel
theorem dL_1345 : decode code 1345 = .ok (.invokevirtual 159, 3) := by decide +kernel
theorem dL_1348 : decode code 1348 = .ok (.aload_n 2, 1) := by decide +kernel
theorem dL_1349 : decode code 1349 = .ok (.invokevirtual 162, 3) := by decide +kernel
theorem dL_1352 : decode code 1352 = .ok (.if_icmp .eq 289, 3) := by decide +kernel
theorem dL_1355 : decode code 1355 = .ok (.iconst 0, 1) := by decide +kernel
theorem dL_1356 : decode code 1356 = .ok (.ireturn, 1) := by decide +kernel
theorem dL_1357 : decode code 1357 = .ok (.aload_n 1, 1) := by decide +kernel
theorem dL_1358 : decode code 1358 = .ok (.aload_n 0, 1) := by decide +kernel
theorem dL_1359 : decode code 1359 = .ok (.iload_n 3, 1) := by decide +kernel
theorem dL_1360 : decode code 1360 = .ok (.iconst 1, 1) := by decide +kernel
theorem dL_1361 : decode code 1361 = .ok (.iadd, 1) := by decide +kernel
theorem dL_1362 : decode code 1362 = .ok (.iaload, 1) := by decide +kernel
theorem dL_1363 : decode code 1363 = .ok (.invokevirtual 163, 3) := by decide +kernel
theorem dL_1366 : decode code 1366 = .ok (.aload_n 2, 1) := by decide +kernel
theorem dL_1367 : decode code 1367 = .ok (.aload_n 0, 1) := by decide +kernel
theorem dL_1368 : decode code 1368 = .ok (.iload_n 3, 1) := by decide +kernel
theorem dL_1369 : decode code 1369 = .ok (.iconst 1, 1) := by decide +kernel
theorem dL_1370 : decode code 1370 = .ok (.iadd, 1) := by decide +kernel
theorem dL_1371 : decode code 1371 = .ok (.iaload, 1) := by decide +kernel
theorem dL_1372 : decode code 1372 = .ok (.invokevirtual 166, 3) := by decide +kernel
theorem dL_1375 : decode code 1375 = .ok (.if_icmp .eq 266, 3) := by decide +kernel
theorem dL_1378 : decode code 1378 = .ok (.iconst 0, 1) := by decide +kernel
theorem dL_1379 : decode code 1379 = .ok (.ireturn, 1) := by decide +kernel
theorem dL_1380 : decode code 1380 = .ok (.aload_n 1, 1) := by decide +kernel
theorem dL_1381 : decode code 1381 = .ok (.invokevirtual 167, 3) := by decide +kernel
theorem dL_1384 : decode code 1384 = .ok (.aload_n 2, 1) := by decide +kernel
theorem dL_1385 : decode code 1385 = .ok (.invokevirtual 170, 3) := by decide +kernel
theorem dL_1388 : decode code 1388 = .ok (.if_icmp .eq 253, 3) := by decide +kernel
theorem dL_1391 : decode code 1391 = .ok (.iconst 0, 1) := by decide +kernel
theorem dL_1392 : decode code 1392 = .ok (.ireturn, 1) := by decide +kernel
theorem dL_1393 : decode code 1393 = .ok (.aload_n 1, 1) := by decide +kernel
theorem dL_1394 : decode code 1394 = .ok (.invokevirtual 171, 3) := by decide +kernel
theorem dL_1397 : decode code 1397 = .ok (.aload_n 2, 1) := by decide +kernel
theorem dL_1398 : decode code 1398 = .ok (.invokevirtual 174, 3) := by decide +kernel
theorem dL_1401 : decode code 1401 = .ok (.if_icmp .eq 240, 3) := by decide +kernel
theorem dL_1404 : decode code 1404 = .ok (.iconst 0, 1) := by decide +kernel
theorem dL_1405 : decode code 1405 = .ok (.ireturn, 1) := by decide +kernel
theorem dL_1406 : decode code 1406 = .ok (.aload_n 1, 1) := by decide +kernel
theorem dL_1407 : decode code 1407 = .ok (.aload_n 0, 1) := by decide +kernel
theorem dL_1408 : decode code 1408 = .ok (.iload_n 3, 1) := by decide +kernel
theorem dL_1409 : decode code 1409 = .ok (.iconst 1, 1) := by decide +kernel
theorem dL_1410 : decode code 1410 = .ok (.iadd, 1) := by decide +kernel
theorem dL_1411 : decode code 1411 = .ok (.iaload, 1) := by decide +kernel
theorem dL_1412 : decode code 1412 = .ok (.aload_n 0, 1) := by decide +kernel
theorem dL_1413 : decode code 1413 = .ok (.iload_n 3, 1) := by decide +kernel
theorem dL_1414 : decode code 1414 = .ok (.iconst 2, 1) := by decide +kernel
theorem dL_1415 : decode code 1415 = .ok (.iadd, 1) := by decide +kernel
theorem dL_1416 : decode code 1416 = .ok (.iaload, 1) := by decide +kernel
theorem dL_1417 : decode code 1417 = .ok (.aload_n 0, 1) := by decide +kernel
theorem dL_1418 : decode code 1418 = .ok (.iload_n 3, 1) := by decide +kernel
theorem dL_1419 : decode code 1419 = .ok (.iconst 3, 1) := by decide +kernel
theorem dL_1420 : decode code 1420 = .ok (.iadd, 1) := by decide +kernel
theorem dL_1421 : decode code 1421 = .ok (.iaload, 1) := by decide +kernel
theorem dL_1422 : decode code 1422 = .ok (.invokevirtual 175, 3) := by decide +kernel
theorem dL_1425 : decode code 1425 = .ok (.aload_n 2, 1) := by decide +kernel
theorem dL_1426 : decode code 1426 = .ok (.aload_n 0, 1) := by decide +kernel
theorem dL_1427 : decode code 1427 = .ok (.iload_n 3, 1) := by decide +kernel
theorem dL_1428 : decode code 1428 = .ok (.iconst 1, 1) := by decide +kernel
theorem dL_1429 : decode code 1429 = .ok (.iadd, 1) := by decide +kernel
theorem dL_1430 : decode code 1430 = .ok (.iaload, 1) := by decide +kernel
theorem dL_1431 : decode code 1431 = .ok (.aload_n 0, 1) := by decide +kernel
theorem dL_1432 : decode code 1432 = .ok (.iload_n 3, 1) := by decide +kernel
theorem dL_1433 : decode code 1433 = .ok (.iconst 2, 1) := by decide +kernel
theorem dL_1434 : decode code 1434 = .ok (.iadd, 1) := by decide +kernel
theorem dL_1435 : decode code 1435 = .ok (.iaload, 1) := by decide +kernel
theorem dL_1436 : decode code 1436 = .ok (.aload_n 0, 1) := by decide +kernel
theorem dL_1437 : decode code 1437 = .ok (.iload_n 3, 1) := by decide +kernel
theorem dL_1438 : decode code 1438 = .ok (.iconst 3, 1) := by decide +kernel
theorem dL_1439 : decode code 1439 = .ok (.iadd, 1) := by decide +kernel
theorem dL_1440 : decode code 1440 = .ok (.iaload, 1) := by decide +kernel
theorem dL_1441 : decode code 1441 = .ok (.invokevirtual 178, 3) := by decide +kernel
theorem dL_1444 : decode code 1444 = .ok (.if_icmp .eq 197, 3) := by decide +kernel
theorem dL_1447 : decode code 1447 = .ok (.iconst 0, 1) := by decide +kernel
theorem dL_1448 : decode code 1448 = .ok (.ireturn, 1) := by decide +kernel
theorem dL_1449 : decode code 1449 = .ok (.aload_n 1, 1) := by decide +kernel
theorem dL_1450 : decode code 1450 = .ok (.aload_n 0, 1) := by decide +kernel
theorem dL_1451 : decode code 1451 = .ok (.iload_n 3, 1) := by decide +kernel
theorem dL_1452 : decode code 1452 = .ok (.iconst 1, 1) := by decide +kernel
theorem dL_1453 : decode code 1453 = .ok (.iadd, 1) := by decide +kernel
theorem dL_1454 : decode code 1454 = .ok (.iaload, 1) := by decide +kernel
theorem dL_1455 : decode code 1455 = .ok (.aload_n 0, 1) := by decide +kernel
theorem dL_1456 : decode code 1456 = .ok (.iload_n 3, 1) := by decide +kernel
theorem dL_1457 : decode code 1457 = .ok (.iconst 2, 1) := by decide +kernel
theorem dL_1458 : decode code 1458 = .ok (.iadd, 1) := by decide +kernel
theorem dL_1459 : decode code 1459 = .ok (.iaload, 1) := by decide +kernel
theorem dL_1460 : decode code 1460 = .ok (.aload_n 0, 1) := by decide +kernel
theorem dL_1461 : decode code 1461 = .ok (.iload_n 3, 1) := by decide +kernel
theorem dL_1462 : decode code 1462 = .ok (.iconst 3, 1) := by decide +kernel
theorem dL_1463 : decode code 1463 = .ok (.iadd, 1) := by decide +kernel
theorem dL_1464 : decode code 1464 = .ok (.iaload, 1) := by decide +kernel
theorem dL_1465 : decode code 1465 = .ok (.invokevirtual 179, 3) := by decide +kernel
theorem dL_1468 : decode code 1468 = .ok (.aload_n 2, 1) := by decide +kernel
theorem dL_1469 : decode code 1469 = .ok (.aload_n 0, 1) := by decide +kernel
theorem dL_1470 : decode code 1470 = .ok (.iload_n 3, 1) := by decide +kernel
theorem dL_1471 : decode code 1471 = .ok (.iconst 1, 1) := by decide +kernel
theorem dL_1472 : decode code 1472 = .ok (.iadd, 1) := by decide +kernel
theorem dL_1473 : decode code 1473 = .ok (.iaload, 1) := by decide +kernel
theorem dL_1474 : decode code 1474 = .ok (.aload_n 0, 1) := by decide +kernel
theorem dL_1475 : decode code 1475 = .ok (.iload_n 3, 1) := by decide +kernel
theorem dL_1476 : decode code 1476 = .ok (.iconst 2, 1) := by decide +kernel
theorem dL_1477 : decode code 1477 = .ok (.iadd, 1) := by decide +kernel
theorem dL_1478 : decode code 1478 = .ok (.iaload, 1) := by decide +kernel
theorem dL_1479 : decode code 1479 = .ok (.aload_n 0, 1) := by decide +kernel
theorem dL_1480 : decode code 1480 = .ok (.iload_n 3, 1) := by decide +kernel
theorem dL_1481 : decode code 1481 = .ok (.iconst 3, 1) := by decide +kernel
theorem dL_1482 : decode code 1482 = .ok (.iadd, 1) := by decide +kernel
theorem dL_1483 : decode code 1483 = .ok (.iaload, 1) := by decide +kernel
theorem dL_1484 : decode code 1484 = .ok (.invokevirtual 182, 3) := by decide +kernel
theorem dL_1487 : decode code 1487 = .ok (.if_icmp .eq 154, 3) := by decide +kernel
theorem dL_1490 : decode code 1490 = .ok (.iconst 0, 1) := by decide +kernel
theorem dL_1491 : decode code 1491 = .ok (.ireturn, 1) := by decide +kernel
theorem dL_1492 : decode code 1492 = .ok (.aload_n 1, 1) := by decide +kernel
theorem dL_1493 : decode code 1493 = .ok (.aload_n 0, 1) := by decide +kernel
theorem dL_1494 : decode code 1494 = .ok (.iload_n 3, 1) := by decide +kernel
theorem dL_1495 : decode code 1495 = .ok (.iconst 1, 1) := by decide +kernel
theorem dL_1496 : decode code 1496 = .ok (.iadd, 1) := by decide +kernel
theorem dL_1497 : decode code 1497 = .ok (.iaload, 1) := by decide +kernel
theorem dL_1498 : decode code 1498 = .ok (.aload_n 0, 1) := by decide +kernel
theorem dL_1499 : decode code 1499 = .ok (.iload_n 3, 1) := by decide +kernel
theorem dL_1500 : decode code 1500 = .ok (.iconst 2, 1) := by decide +kernel
theorem dL_1501 : decode code 1501 = .ok (.iadd, 1) := by decide +kernel
theorem dL_1502 : decode code 1502 = .ok (.iaload, 1) := by decide +kernel
theorem dL_1503 : decode code 1503 = .ok (.aload_n 0, 1) := by decide +kernel
theorem dL_1504 : decode code 1504 = .ok (.iload_n 3, 1) := by decide +kernel
theorem dL_1505 : decode code 1505 = .ok (.iconst 3, 1) := by decide +kernel
theorem dL_1506 : decode code 1506 = .ok (.iadd, 1) := by decide +kernel
theorem dL_1507 : decode code 1507 = .ok (.iaload, 1) := by decide +kernel
theorem dL_1508 : decode code 1508 = .ok (.aload_n 0, 1) := by decide +kernel
theorem dL_1509 : decode code 1509 = .ok (.iload_n 3, 1) := by decide +kernel
theorem dL_1510 : decode code 1510 = .ok (.iconst 4, 1) := by decide +kernel
theorem dL_1511 : decode code 1511 = .ok (.iadd, 1) := by decide +kernel
theorem dL_1512 : decode code 1512 = .ok (.iaload, 1) := by decide +kernel
theorem dL_1513 : decode code 1513 = .ok (.aload_n 0, 1) := by decide +kernel
theorem dL_1514 : decode code 1514 = .ok (.iload_n 3, 1) := by decide +kernel
theorem dL_1515 : decode code 1515 = .ok (.iconst 5, 1) := by decide +kernel
theorem dL_1516 : decode code 1516 = .ok (.iadd, 1) := by decide +kernel
theorem dL_1517 : decode code 1517 = .ok (.iaload, 1) := by decide +kernel
theorem dL_1518 : decode code 1518 = .ok (.invokevirtual 183, 3) := by decide +kernel
theorem dL_1521 : decode code 1521 = .ok (.aload_n 2, 1) := by decide +kernel
theorem dL_1522 : decode code 1522 = .ok (.aload_n 0, 1) := by decide +kernel
theorem dL_1523 : decode code 1523 = .ok (.iload_n 3, 1) := by decide +kernel
theorem dL_1524 : decode code 1524 = .ok (.iconst 1, 1) := by decide +kernel
theorem dL_1525 : decode code 1525 = .ok (.iadd, 1) := by decide +kernel
theorem dL_1526 : decode code 1526 = .ok (.iaload, 1) := by decide +kernel
theorem dL_1527 : decode code 1527 = .ok (.aload_n 0, 1) := by decide +kernel
theorem dL_1528 : decode code 1528 = .ok (.iload_n 3, 1) := by decide +kernel
theorem dL_1529 : decode code 1529 = .ok (.iconst 2, 1) := by decide +kernel
theorem dL_1530 : decode code 1530 = .ok (.iadd, 1) := by decide +kernel
theorem dL_1531 : decode code 1531 = .ok (.iaload, 1) := by decide +kernel
theorem dL_1532 : decode code 1532 = .ok (.aload_n 0, 1) := by decide +kernel
theorem dL_1533 : decode code 1533 = .ok (.iload_n 3, 1) := by decide +kernel
theorem dL_1534 : decode code 1534 = .ok (.iconst 3, 1) := by decide +kernel
theorem dL_1535 : decode code 1535 = .ok (.iadd, 1) := by decide +kernel
theorem dL_1536 : decode code 1536 = .ok (.iaload, 1) := by decide +kernel
theorem dL_1537 : decode code 1537 = .ok (.aload_n 0, 1) := by decide +kernel
theorem dL_1538 : decode code 1538 = .ok (.iload_n 3, 1) := by decide +kernel
theorem dL_1539 : decode code 1539 = .ok (.iconst 4, 1) := by decide +kernel
theorem dL_1540 : decode code 1540 = .ok (.iadd, 1) := by decide +kernel
theorem dL_1541 : decode code 1541 = .ok (.iaload, 1) := by decide +kernel
theorem dL_1542 : decode code 1542 = .ok (.aload_n 0, 1) := by decide +kernel
theorem dL_1543 : decode code 1543 = .ok (.iload_n 3, 1) := by decide +kernel
theorem dL_1544 : decode code 1544 = .ok (.iconst 5, 1) := by decide +kernel
theorem dL_1545 : decode code 1545 = .ok (.iadd, 1) := by decide +kernel
theorem dL_1546 : decode code 1546 = .ok (.iaload, 1) := by decide +kernel
theorem dL_1547 : decode code 1547 = .ok (.invokevirtual 187, 3) := by decide +kernel
theorem dL_1550 : decode code 1550 = .ok (.if_icmp .eq 91, 3) := by decide +kernel
theorem dL_1553 : decode code 1553 = .ok (.iconst 0, 1) := by decide +kernel
theorem dL_1554 : decode code 1554 = .ok (.ireturn, 1) := by decide +kernel
theorem dL_1555 : decode code 1555 = .ok (.aload_n 1, 1) := by decide +kernel
theorem dL_1556 : decode code 1556 = .ok (.aload_n 0, 1) := by decide +kernel
theorem dL_1557 : decode code 1557 = .ok (.iload_n 3, 1) := by decide +kernel
theorem dL_1558 : decode code 1558 = .ok (.iconst 1, 1) := by decide +kernel
theorem dL_1559 : decode code 1559 = .ok (.iadd, 1) := by decide +kernel
theorem dL_1560 : decode code 1560 = .ok (.iaload, 1) := by decide +kernel
theorem dL_1561 : decode code 1561 = .ok (.aload_n 0, 1) := by decide +kernel
theorem dL_1562 : decode code 1562 = .ok (.iload_n 3, 1) := by decide +kernel
theorem dL_1563 : decode code 1563 = .ok (.iconst 2, 1) := by decide +kernel
theorem dL_1564 : decode code 1564 = .ok (.iadd, 1) := by decide +kernel
theorem dL_1565 : decode code 1565 = .ok (.iaload, 1) := by decide +kernel
theorem dL_1566 : decode code 1566 = .ok (.aload_n 0, 1) := by decide +kernel
theorem dL_1567 : decode code 1567 = .ok (.iload_n 3, 1) := by decide +kernel
theorem dL_1568 : decode code 1568 = .ok (.iconst 3, 1) := by decide +kernel
theorem dL_1569 : decode code 1569 = .ok (.iadd, 1) := by decide +kernel
theorem dL_1570 : decode code 1570 = .ok (.iaload, 1) := by decide +kernel
theorem dL_1571 : decode code 1571 = .ok (.aload_n 0, 1) := by decide +kernel
theorem dL_1572 : decode code 1572 = .ok (.iload_n 3, 1) := by decide +kernel
theorem dL_1573 : decode code 1573 = .ok (.iconst 4, 1) := by decide +kernel
theorem dL_1574 : decode code 1574 = .ok (.iadd, 1) := by decide +kernel
theorem dL_1575 : decode code 1575 = .ok (.iaload, 1) := by decide +kernel
theorem dL_1576 : decode code 1576 = .ok (.invokevirtual 188, 3) := by decide +kernel
theorem dL_1579 : decode code 1579 = .ok (.aload_n 2, 1) := by decide +kernel
theorem dL_1580 : decode code 1580 = .ok (.aload_n 0, 1) := by decide +kernel
theorem dL_1581 : decode code 1581 = .ok (.iload_n 3, 1) := by decide +kernel
theorem dL_1582 : decode code 1582 = .ok (.iconst 1, 1) := by decide +kernel
theorem dL_1583 : decode code 1583 = .ok (.iadd, 1) := by decide +kernel
theorem dL_1584 : decode code 1584 = .ok (.iaload, 1) := by decide +kernel
theorem dL_1585 : decode code 1585 = .ok (.aload_n 0, 1) := by decide +kernel
theorem dL_1586 : decode code 1586 = .ok (.iload_n 3, 1) := by decide +kernel
theorem dL_1587 : decode code 1587 = .ok (.iconst 2, 1) := by decide +kernel
theorem dL_1588 : decode code 1588 = .ok (.iadd, 1) := by decide +kernel
theorem dL_1589 : decode code 1589 = .ok (.iaload, 1) := by decide +kernel
theorem dL_1590 : decode code 1590 = .ok (.aload_n 0, 1) := by decide +kernel
theorem dL_1591 : decode code 1591 = .ok (.iload_n 3, 1) := by decide +kernel
theorem dL_1592 : decode code 1592 = .ok (.iconst 3, 1) := by decide +kernel
theorem dL_1593 : decode code 1593 = .ok (.iadd, 1) := by decide +kernel
theorem dL_1594 : decode code 1594 = .ok (.iaload, 1) := by decide +kernel
theorem dL_1595 : decode code 1595 = .ok (.aload_n 0, 1) := by decide +kernel
theorem dL_1596 : decode code 1596 = .ok (.iload_n 3, 1) := by decide +kernel
theorem dL_1597 : decode code 1597 = .ok (.iconst 4, 1) := by decide +kernel
theorem dL_1598 : decode code 1598 = .ok (.iadd, 1) := by decide +kernel
theorem dL_1599 : decode code 1599 = .ok (.iaload, 1) := by decide +kernel
theorem dL_1600 : decode code 1600 = .ok (.invokevirtual 191, 3) := by decide +kernel
theorem dL_1603 : decode code 1603 = .ok (.if_icmp .eq 38, 3) := by decide +kernel
theorem dL_1606 : decode code 1606 = .ok (.iconst 0, 1) := by decide +kernel
theorem dL_1607 : decode code 1607 = .ok (.ireturn, 1) := by decide +kernel
theorem dL_1608 : decode code 1608 = .ok (.aload_n 1, 1) := by decide +kernel
theorem dL_1609 : decode code 1609 = .ok (.aload_n 0, 1) := by decide +kernel
theorem dL_1610 : decode code 1610 = .ok (.iload_n 3, 1) := by decide +kernel
theorem dL_1611 : decode code 1611 = .ok (.iconst 1, 1) := by decide +kernel
theorem dL_1612 : decode code 1612 = .ok (.iadd, 1) := by decide +kernel
theorem dL_1613 : decode code 1613 = .ok (.iaload, 1) := by decide +kernel
theorem dL_1614 : decode code 1614 = .ok (.aload_n 0, 1) := by decide +kernel
theorem dL_1615 : decode code 1615 = .ok (.iload_n 3, 1) := by decide +kernel
theorem dL_1616 : decode code 1616 = .ok (.iconst 2, 1) := by decide +kernel
theorem dL_1617 : decode code 1617 = .ok (.iadd, 1) := by decide +kernel
theorem dL_1618 : decode code 1618 = .ok (.iaload, 1) := by decide +kernel
theorem dL_1619 : decode code 1619 = .ok (.invokevirtual 192, 3) := by decide +kernel
theorem dL_1622 : decode code 1622 = .ok (.aload_n 2, 1) := by decide +kernel
theorem dL_1623 : decode code 1623 = .ok (.aload_n 0, 1) := by decide +kernel
theorem dL_1624 : decode code 1624 = .ok (.iload_n 3, 1) := by decide +kernel
theorem dL_1625 : decode code 1625 = .ok (.iconst 1, 1) := by decide +kernel
theorem dL_1626 : decode code 1626 = .ok (.iadd, 1) := by decide +kernel
theorem dL_1627 : decode code 1627 = .ok (.iaload, 1) := by decide +kernel
theorem dL_1628 : decode code 1628 = .ok (.aload_n 0, 1) := by decide +kernel
theorem dL_1629 : decode code 1629 = .ok (.iload_n 3, 1) := by decide +kernel
theorem dL_1630 : decode code 1630 = .ok (.iconst 2, 1) := by decide +kernel
theorem dL_1631 : decode code 1631 = .ok (.iadd, 1) := by decide +kernel
theorem dL_1632 : decode code 1632 = .ok (.iaload, 1) := by decide +kernel
theorem dL_1633 : decode code 1633 = .ok (.invokevirtual 195, 3) := by decide +kernel
theorem dL_1636 : decode code 1636 = .ok (.if_icmp .eq 5, 3) := by decide +kernel
theorem dL_1639 : decode code 1639 = .ok (.iconst 0, 1) := by decide +kernel
theorem dL_1640 : decode code 1640 = .ok (.ireturn, 1) := by decide +kernel
theorem dL_1641 : decode code 1641 = .ok (.iinc 3 6, 3) := by decide +kernel
theorem dL_1644 : decode code 1644 = .ok (.goto (-1626), 3) := by decide +kernel
theorem dL_1647 : decode code 1647 = .ok (.iconst 1, 1) := by decide +kernel
theorem dL_1648 : decode code 1648 = .ok (.ireturn, 1) := by decide +kernel
