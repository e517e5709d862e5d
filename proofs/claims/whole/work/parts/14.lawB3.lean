theorem dL_1334 : decode code 1334 = .ok (.iload_n 3, 1) := by decide +kernel
theorem dL_1335 : decode code 1335 = .ok (.iconst 2, 1) := by decide +kernel
theorem dL_1336 : decode code 1336 = .ok (.iadd, 1) := by decide +kernel
theorem dL_1337 : decode code 1337 = .ok (.iaload, 1) := by decide +kernel
theorem dL_1338 : decode code 1338 = .ok (.aload_n 0, 1) := by decide +kernel
theorem dL_1339 : decode code 1339 = .ok (.iload_n 3, 1) := by decide +kernel
theorem dL_1340 : decode code 1340 = .ok (.iconst 3, 1) := by decide +kernel
theorem dL_1341 : decode code 1341 = .ok (.iadd, 1) := by decide +kernel
theorem dL_1342 : decode code 1342 = .ok (.iaload, 1) := by decide +kernel
theorem dL_1343 : decode code 1343 = .ok (.ifCond .eq 7, 3) := by decide +kernel
theorem dL_1346 : decode code 1346 = .ok (.iconst 1, 1) := by decide +kernel
theorem dL_1347 : decode code 1347 = .ok (.goto 4, 3) := by decide +kernel
theorem dL_1350 : decode code 1350 = .ok (.iconst 0, 1) := by decide +kernel
theorem dL_1351 : decode code 1351 = .ok (.invokevirtual 158, 3) := by decide +kernel
theorem dL_1354 : decode code 1354 = .ok (.if_icmp .eq 382, 3) := by decide +kernel
theorem dL_1357 : decode code 1357 = .ok (.iconst 0, 1) := by decide +kernel
theorem dL_1358 : decode code 1358 = .ok (.ireturn, 1) := by decide +kernel
theorem dL_1359 : decode code 1359 = .ok (.aload_n 1, 1) := by decide +kernel
theorem dL_1360 : decode code 1360 = .ok (.aload_n 0, 1) := by decide +kernel
theorem dL_1361 : decode code 1361 = .ok (.iload_n 3, 1) := by decide +kernel
theorem dL_1362 : decode code 1362 = .ok (.iconst 1, 1) := by decide +kernel
theorem dL_1363 : decode code 1363 = .ok (.iadd, 1) := by decide +kernel
theorem dL_1364 : decode code 1364 = .ok (.iaload, 1) := by decide +kernel
theorem dL_1365 : decode code 1365 = .ok (.aload_n 0, 1) := by decide +kernel
theorem dL_1366 : decode code 1366 = .ok (.iload_n 3, 1) := by decide +kernel
theorem dL_1367 : decode code 1367 = .ok (.iconst 2, 1) := by decide +kernel
theorem dL_1368 : decode code 1368 = .ok (.iadd, 1) := by decide +kernel
theorem dL_1369 : decode code 1369 = .ok (.iaload, 1) := by decide +kernel
theorem dL_1370 : decode code 1370 = .ok (.ifCond .eq 7, 3) := by decide +kernel
theorem dL_1373 : decode code 1373 = .ok (.iconst 1, 1) := by decide +kernel
theorem dL_1374 : decode code 1374 = .ok (.goto 4, 3) := by decide +kernel
theorem dL_1377 : decode code 1377 = .ok (.iconst 0, 1) := by decide +kernel
theorem dL_1378 : decode code 1378 = .ok (.invokevirtual 159, 3) := by decide +kernel
theorem dL_1381 : decode code 1381 = .ok (.aload_n 2, 1) := by decide +kernel
theorem dL_1382 : decode code 1382 = .ok (.aload_n 0, 1) := by decide +kernel
theorem dL_1383 : decode code 1383 = .ok (.iload_n 3, 1) := by decide +kernel
theorem dL_1384 : decode code 1384 = .ok (.iconst 1, 1) := by decide +kernel
theorem dL_1385 : decode code 1385 = .ok (.iadd, 1) := by decide +kernel
theorem dL_1386 : decode code 1386 = .ok (.iaload, 1) := by decide +kernel
theorem dL_1387 : decode code 1387 = .ok (.aload_n 0, 1) := by decide +kernel
theorem dL_1388 : decode code 1388 = .ok (.iload_n 3, 1) := by decide +kernel
theorem dL_1389 : decode code 1389 = .ok (.iconst 2, 1) := by decide +kernel
theorem dL_1390 : decode code 1390 = .ok (.iadd, 1) := by decide +kernel
theorem dL_1391 : decode code 1391 = .ok (.iaload, 1) := by decide +kernel
theorem dL_1392 : decode code 1392 = .ok (.ifCond .eq 7, 3) := by decide +kernel
theorem dL_1395 : decode code 1395 = .ok (.iconst 1, 1) := by decide +kernel
theorem dL_1396 : decode code 1396 = .ok (.goto 4, 3) := by decide +kernel
theorem dL_1399 : decode code 1399 = .ok (.iconst 0, 1) := by decide +kernel
theorem dL_1400 : decode code 1400 = .ok (.invokevirtual 163, 3) := by decide +kernel
theorem dL_1403 : decode code 1403 = .ok (.if_icmp .eq 333, 3) := by decide +kernel
theorem dL_1406 : decode code 1406 = .ok (.iconst 0, 1) := by decide +kernel
theorem dL_1407 : decode code 1407 = .ok (.ireturn, 1) := by decide +kernel
theorem dL_1408 : decode code 1408 = .ok (.aload_n 1, 1) := by decide +kernel
theorem dL_1409 : decode code 1409 = .ok (.invokevirtual 164, 3) := by decide +kernel
theorem dL_1412 : decode code 1412 = .ok (.aload_n 2, 1) := by decide +kernel
theorem dL_1413 : decode code 1413 = .ok (.invokevirtual 167, 3) := by decide +kernel
theorem dL_1416 : decode code 1416 = .ok (.if_icmp .eq 320, 3) := by decide +kernel
theorem dL_1419 : decode code 1419 = .ok (.iconst 0, 1) := by decide +kernel
theorem dL_1420 : decode code 1420 = .ok (.ireturn, 1) := by decide +kernel
theorem dL_1421 : decode code 1421 = .ok (.aload_n 1, 1) := by decide +kernel
theorem dL_1422 : decode code 1422 = .ok (.aload_n 0, 1) := by decide +kernel
theorem dL_1423 : decode code 1423 = .ok (.iload_n 3, 1) := by decide +kernel
theorem dL_1424 : decode code 1424 = .ok (.iconst 1, 1) := by decide +kernel
theorem dL_1425 : decode code 1425 = .ok (.iadd, 1) := by decide +kernel
theorem dL_1426 : decode code 1426 = .ok (.iaload, 1) := by decide +kernel
theorem dL_1427 : decode code 1427 = .ok (.invokevirtual 168, 3) := by decide +kernel
theorem dL_1430 : decode code 1430 = .ok (.aload_n 2, 1) := by decide +kernel
theorem dL_1431 : decode code 1431 = .ok (.aload_n 0, 1) := by decide +kernel
theorem dL_1432 : decode code 1432 = .ok (.iload_n 3, 1) := by decide +kernel
theorem dL_1433 : decode code 1433 = .ok (.iconst 1, 1) := by decide +kernel
theorem dL_1434 : decode code 1434 = .ok (.iadd, 1) := by decide +kernel
theorem dL_1435 : decode code 1435 = .ok (.iaload, 1) := by decide +kernel
theorem dL_1436 : decode code 1436 = .ok (.invokevirtual 171, 3) := by decide +kernel
theorem dL_1439 : decode code 1439 = .ok (.if_icmp .eq 297, 3) := by decide +kernel
theorem dL_1442 : decode code 1442 = .ok (.iconst 0, 1) := by decide +kernel
theorem dL_1443 : decode code 1443 = .ok (.ireturn, 1) := by decide +kernel
theorem dL_1444 : decode code 1444 = .ok (.aload_n 1, 1) := by decide +kernel
theorem dL_1445 : decode code 1445 = .ok (.aload_n 0, 1) := by decide +kernel
theorem dL_1446 : decode code 1446 = .ok (.iload_n 3, 1) := by decide +kernel
theorem dL_1447 : decode code 1447 = .ok (.iconst 1, 1) := by decide +kernel
theorem dL_1448 : decode code 1448 = .ok (.iadd, 1) := by decide +kernel
theorem dL_1449 : decode code 1449 = .ok (.iaload, 1) := by decide +kernel
theorem dL_1450 : decode code 1450 = .ok (.invokevirtual 172, 3) := by decide +kernel
theorem dL_1453 : decode code 1453 = .ok (.aload_n 2, 1) := by decide +kernel
theorem dL_1454 : decode code 1454 = .ok (.aload_n 0, 1) := by decide +kernel
theorem dL_1455 : decode code 1455 = .ok (.iload_n 3, 1) := by decide +kernel
theorem dL_1456 : decode code 1456 = .ok (.iconst 1, 1) := by decide +kernel
theorem dL_1457 : decode code 1457 = .ok (.iadd, 1) := by decide +kernel
theorem dL_1458 : decode code 1458 = .ok (.iaload, 1) := by decide +kernel
theorem dL_1459 : decode code 1459 = .ok (.invokevirtual 175, 3) := by decide +kernel
theorem dL_1462 : decode code 1462 = .ok (.if_icmp .eq 274, 3) := by decide +kernel
theorem dL_1465 : decode code 1465 = .ok (.iconst 0, 1) := by decide +kernel
theorem dL_1466 : decode code 1466 = .ok (.ireturn, 1) := by decide +kernel
theorem dL_1467 : decode code 1467 = .ok (.aload_n 1, 1) := by decide +kernel
theorem dL_1468 : decode code 1468 = .ok (.aload_n 0, 1) := by decide +kernel
theorem dL_1469 : decode code 1469 = .ok (.iload_n 3, 1) := by decide +kernel
theorem dL_1470 : decode code 1470 = .ok (.iconst 1, 1) := by decide +kernel
theorem dL_1471 : decode code 1471 = .ok (.iadd, 1) := by decide +kernel
theorem dL_1472 : decode code 1472 = .ok (.iaload, 1) := by decide +kernel
theorem dL_1473 : decode code 1473 = .ok (.aload_n 0, 1) := by decide +kernel
theorem dL_1474 : decode code 1474 = .ok (.iload_n 3, 1) := by decide +kernel
theorem dL_1475 : decode code 1475 = .ok (.iconst 2, 1) := by decide +kernel
theorem dL_1476 : decode code 1476 = .ok (.iadd, 1) := by decide +kernel
theorem dL_1477 : decode code 1477 = .ok (.iaload, 1) := by decide +kernel
theorem dL_1478 : decode code 1478 = .ok (.aload_n 0, 1) := by decide +kernel
theorem dL_1479 : decode code 1479 = .ok (.iload_n 3, 1) := by decide +kernel
theorem dL_1480 : decode code 1480 = .ok (.iconst 3, 1) := by decide +kernel
theorem dL_1481 : decode code 1481 = .ok (.iadd, 1) := by decide +kernel
theorem dL_1482 : decode code 1482 = .ok (.iaload, 1) := by decide +kernel
theorem dL_1483 : decode code 1483 = .ok (.invokevirtual 176, 3) := by decide +kernel
theorem dL_1486 : decode code 1486 = .ok (.aload_n 2, 1) := by decide +kernel
theorem dL_1487 : decode code 1487 = .ok (.aload_n 0, 1) := by decide +kernel
theorem dL_1488 : decode code 1488 = .ok (.iload_n 3, 1) := by decide +kernel
theorem dL_1489 : decode code 1489 = .ok (.iconst 1, 1) := by decide +kernel
theorem dL_1490 : decode code 1490 = .ok (.iadd, 1) := by decide +kernel
theorem dL_1491 : decode code 1491 = .ok (.iaload, 1) := by decide +kernel
theorem dL_1492 : decode code 1492 = .ok (.aload_n 0, 1) := by decide +kernel
theorem dL_1493 : decode code 1493 = .ok (.iload_n 3, 1) := by decide +kernel
theorem dL_1494 : decode code 1494 = .ok (.iconst 2, 1) := by decide +kernel
theorem dL_1495 : decode code 1495 = .ok (.iadd, 1) := by decide +kernel
theorem dL_1496 : decode code 1496 = .ok (.iaload, 1) := by decide +kernel
theorem dL_1497 : decode code 1497 = .ok (.aload_n 0, 1) := by decide +kernel
theorem dL_1498 : decode code 1498 = .ok (.iload_n 3, 1) := by decide +kernel
theorem dL_1499 : decode code 1499 = .ok (.iconst 3, 1) := by decide +kernel
theorem dL_1500 : decode code 1500 = .ok (.iadd, 1) := by decide +kernel
theorem dL_1501 : decode code 1501 = .ok (.iaload, 1) := by decide +kernel
theorem dL_1502 : decode code 1502 = .ok (.invokevirtual 179, 3) := by decide +kernel
theorem dL_1505 : decode code 1505 = .ok (.if_icmp .eq 231, 3) := by decide +kernel
theorem dL_1508 : decode code 1508 = .ok (.iconst 0, 1) := by decide +kernel
theorem dL_1509 : decode code 1509 = .ok (.ireturn, 1) := by decide +kernel
theorem dL_1510 : decode code 1510 = .ok (.aload_n 1, 1) := by decide +kernel
theorem dL_1511 : decode code 1511 = .ok (.invokevirtual 180, 3) := by decide +kernel
theorem dL_1514 : decode code 1514 = .ok (.aload_n 2, 1) := by decide +kernel
theorem dL_1515 : decode code 1515 = .ok (.invokevirtual 183, 3) := by decide +kernel
theorem dL_1518 : decode code 1518 = .ok (.if_icmp .eq 218, 3) := by decide +kernel
theorem dL_1521 : decode code 1521 = .ok (.iconst 0, 1) := by decide +kernel
theorem dL_1522 : decode code 1522 = .ok (.ireturn, 1) := by decide +kernel
theorem dL_1523 : decode code 1523 = .ok (.aload_n 1, 1) := by decide +kernel
theorem dL_1524 : decode code 1524 = .ok (.aload_n 0, 1) := by decide +kernel
theorem dL_1525 : decode code 1525 = .ok (.iload_n 3, 1) := by decide +kernel
theorem dL_1526 : decode code 1526 = .ok (.iconst 1, 1) := by decide +kernel
theorem dL_1527 : decode code 1527 = .ok (.iadd, 1) := by decide +kernel
theorem dL_1528 : decode code 1528 = .ok (.iaload, 1) := by decide +kernel
theorem dL_1529 : decode code 1529 = .ok (.aload_n 0, 1) := by decide +kernel
theorem dL_1530 : decode code 1530 = .ok (.iload_n 3, 1) := by decide +kernel
theorem dL_1531 : decode code 1531 = .ok (.iconst 2, 1) := by decide +kernel
theorem dL_1532 : decode code 1532 = .ok (.iadd, 1) := by decide +kernel
theorem dL_1533 : decode code 1533 = .ok (.iaload, 1) := by decide +kernel
theorem dL_1534 : decode code 1534 = .ok (.invokevirtual 184, 3) := by decide +kernel
theorem dL_1537 : decode code 1537 = .ok (.aload_n 2, 1) := by decide +kernel
theorem dL_1538 : decode code 1538 = .ok (.aload_n 0, 1) := by decide +kernel
theorem dL_1539 : decode code 1539 = .ok (.iload_n 3, 1) := by decide +kernel
theorem dL_1540 : decode code 1540 = .ok (.iconst 1, 1) := by decide +kernel
theorem dL_1541 : decode code 1541 = .ok (.iadd, 1) := by decide +kernel
theorem dL_1542 : decode code 1542 = .ok (.iaload, 1) := by decide +kernel
theorem dL_1543 : decode code 1543 = .ok (.aload_n 0, 1) := by decide +kernel
theorem dL_1544 : decode code 1544 = .ok (.iload_n 3, 1) := by decide +kernel
theorem dL_1545 : decode code 1545 = .ok (.iconst 2, 1) := by decide +kernel
theorem dL_1546 : decode code 1546 = .ok (.iadd, 1) := by decide +kernel
theorem dL_1547 : decode code 1547 = .ok (.iaload, 1) := by decide +kernel
theorem dL_1548 : decode code 1548 = .ok (.invokevirtual 187, 3) := by decide +kernel
theorem dL_1551 : decode code 1551 = .ok (.if_icmp .eq 185, 3) := by decide +kernel
theorem dL_1554 : decode code 1554 = .ok (.iconst 0, 1) := by decide +kernel
theorem dL_1555 : decode code 1555 = .ok (.ireturn, 1) := by decide +kernel
theorem dL_1556 : decode code 1556 = .ok (.aload_n 1, 1) := by decide +kernel
theorem dL_1557 : decode code 1557 = .ok (.aload_n 0, 1) := by decide +kernel
theorem dL_1558 : decode code 1558 = .ok (.iload_n 3, 1) := by decide +kernel
theorem dL_1559 : decode code 1559 = .ok (.iconst 1, 1) := by decide +kernel
theorem dL_1560 : decode code 1560 = .ok (.iadd, 1) := by decide +kernel
theorem dL_1561 : decode code 1561 = .ok (.iaload, 1) := by decide +kernel
theorem dL_1562 : decode code 1562 = .ok (.aload_n 0, 1) := by decide +kernel
theorem dL_1563 : decode code 1563 = .ok (.iload_n 3, 1) := by decide +kernel
theorem dL_1564 : decode code 1564 = .ok (.iconst 2, 1) := by decide +kernel
theorem dL_1565 : decode code 1565 = .ok (.iadd, 1) := by decide +kernel
theorem dL_1566 : decode code 1566 = .ok (.iaload, 1) := by decide +kernel
theorem dL_1567 : decode code 1567 = .ok (.ifCond .eq 7, 3) := by decide +kernel
theorem dL_1570 : decode code 1570 = .ok (.iconst 1, 1) := by decide +kernel
theorem dL_1571 : decode code 1571 = .ok (.goto 4, 3) := by decide +kernel
theorem dL_1574 : decode code 1574 = .ok (.iconst 0, 1) := by decide +kernel
theorem dL_1575 : decode code 1575 = .ok (.invokevirtual 188, 3) := by decide +kernel
theorem dL_1578 : decode code 1578 = .ok (.aload_n 2, 1) := by decide +kernel
theorem dL_1579 : decode code 1579 = .ok (.aload_n 0, 1) := by decide +kernel
theorem dL_1580 : decode code 1580 = .ok (.iload_n 3, 1) := by decide +kernel
theorem dL_1581 : decode code 1581 = .ok (.iconst 1, 1) := by decide +kernel
theorem dL_1582 : decode code 1582 = .ok (.iadd, 1) := by decide +kernel
theorem dL_1583 : decode code 1583 = .ok (.iaload, 1) := by decide +kernel
theorem dL_1584 : decode code 1584 = .ok (.aload_n 0, 1) := by decide +kernel
theorem dL_1585 : decode code 1585 = .ok (.iload_n 3, 1) := by decide +kernel
theorem dL_1586 : decode code 1586 = .ok (.iconst 2, 1) := by decide +kernel
theorem dL_1587 : decode code 1587 = .ok (.iadd, 1) := by decide +kernel
theorem dL_1588 : decode code 1588 = .ok (.iaload, 1) := by decide +kernel
theorem dL_1589 : decode code 1589 = .ok (.ifCond .eq 7, 3) := by decide +kernel
theorem dL_1592 : decode code 1592 = .ok (.iconst 1, 1) := by decide +kernel
theorem dL_1593 : decode code 1593 = .ok (.goto 4, 3) := by decide +kernel
theorem dL_1596 : decode code 1596 = .ok (.iconst 0, 1) := by decide +kernel
theorem dL_1597 : decode code 1597 = .ok (.invokevirtual 191, 3) := by decide +kernel
theorem dL_1600 : decode code 1600 = .ok (.if_icmp .eq 136, 3) := by decide +kernel
theorem dL_1603 : decode code 1603 = .ok (.iconst 0, 1) := by decide +kernel
theorem dL_1604 : decode code 1604 = .ok (.ireturn, 1) := by decide +kernel
theorem dL_1605 : decode code 1605 = .ok (.aload_n 1, 1) := by decide +kernel
theorem dL_1606 : decode code 1606 = .ok (.aload_n 0, 1) := by decide +kernel
theorem dL_1607 : decode code 1607 = .ok (.iload_n 3, 1) := by decide +kernel
theorem dL_1608 : decode code 1608 = .ok (.iconst 1, 1) := by decide +kernel
theorem dL_1609 : decode code 1609 = .ok (.iadd, 1) := by decide +kernel
theorem dL_1610 : decode code 1610 = .ok (.iaload, 1) := by decide +kernel
theorem dL_1611 : decode code 1611 = .ok (.invokevirtual 192, 3) := by decide +kernel
theorem dL_1614 : decode code 1614 = .ok (.aload_n 2, 1) := by decide +kernel
theorem dL_1615 : decode code 1615 = .ok (.aload_n 0, 1) := by decide +kernel
theorem dL_1616 : decode code 1616 = .ok (.iload_n 3, 1) := by decide +kernel
theorem dL_1617 : decode code 1617 = .ok (.iconst 1, 1) := by decide +kernel
theorem dL_1618 : decode code 1618 = .ok (.iadd, 1) := by decide +kernel
theorem dL_1619 : decode code 1619 = .ok (.iaload, 1) := by decide +kernel
theorem dL_1620 : decode code 1620 = .ok (.invokevirtual 195, 3) := by decide +kernel
theorem dL_1623 : decode code 1623 = .ok (.if_icmp .eq 113, 3) := by decide +kernel
theorem dL_1626 : decode code 1626 = .ok (.iconst 0, 1) := by decide +kernel
theorem dL_1627 : decode code 1627 = .ok (.ireturn, 1) := by decide +kernel
theorem dL_1628 : decode code 1628 = .ok (.aload_n 1, 1) := by decide +kernel
theorem dL_1629 : decode code 1629 = .ok (.aload_n 0, 1) := by decide +kernel
theorem dL_1630 : decode code 1630 = .ok (.iload_n 3, 1) := by decide +kernel
theorem dL_1631 : decode code 1631 = .ok (.iconst 1, 1) := by decide +kernel
theorem dL_1632 : decode code 1632 = .ok (.iadd, 1) := by decide +kernel
theorem dL_1633 : decode code 1633 = .ok (.iaload, 1) := by decide +kernel
theorem dL_1634 : decode code 1634 = .ok (.invokevirtual 196, 3) := by decide +kernel
theorem dL_1637 : decode code 1637 = .ok (.aload_n 2, 1) := by decide +kernel
theorem dL_1638 : decode code 1638 = .ok (.aload_n 0, 1) := by decide +kernel
theorem dL_1639 : decode code 1639 = .ok (.iload_n 3, 1) := by decide +kernel
theorem dL_1640 : decode code 1640 = .ok (.iconst 1, 1) := by decide +kernel
theorem dL_1641 : decode code 1641 = .ok (.iadd, 1) := by decide +kernel
theorem dL_1642 : decode code 1642 = .ok (.iaload, 1) := by decide +kernel
theorem dL_1643 : decode code 1643 = .ok (.invokevirtual 199, 3) := by decide +kernel
theorem dL_1646 : decode code 1646 = .ok (.if_icmp .eq 90, 3) := by decide +kernel
theorem dL_1649 : decode code 1649 = .ok (.iconst 0, 1) := by decide +kernel
theorem dL_1650 : decode code 1650 = .ok (.ireturn, 1) := by decide +kernel
theorem dL_1651 : decode code 1651 = .ok (.aload_n 1, 1) := by decide +kernel
theorem dL_1652 : decode code 1652 = .ok (.aload_n 0, 1) := by decide +kernel
theorem dL_1653 : decode code 1653 = .ok (.iload_n 3, 1) := by decide +kernel
theorem dL_1654 : decode code 1654 = .ok (.iconst 1, 1) := by decide +kernel
theorem dL_1655 : decode code 1655 = .ok (.iadd, 1) := by decide +kernel
theorem dL_1656 : decode code 1656 = .ok (.iaload, 1) := by decide +kernel
theorem dL_1657 : decode code 1657 = .ok (.invokevirtual 200, 3) := by decide +kernel
theorem dL_1660 : decode code 1660 = .ok (.aload_n 2, 1) := by decide +kernel
theorem dL_1661 : decode code 1661 = .ok (.aload_n 0, 1) := by decide +kernel
theorem dL_1662 : decode code 1662 = .ok (.iload_n 3, 1) := by decide +kernel
theorem dL_1663 : decode code 1663 = .ok (.iconst 1, 1) := by decide +kernel
theorem dL_1664 : decode code 1664 = .ok (.iadd, 1) := by decide +kernel
theorem dL_1665 : decode code 1665 = .ok (.iaload, 1) := by decide +kernel
theorem dL_1666 : decode code 1666 = .ok (.invokevirtual 203, 3) := by decide +kernel
theorem dL_1669 : decode code 1669 = .ok (.if_icmp .eq 67, 3) := by decide +kernel
theorem dL_1672 : decode code 1672 = .ok (.iconst 0, 1) := by decide +kernel
theorem dL_1673 : decode code 1673 = .ok (.ireturn, 1) := by decide +kernel
theorem dL_1674 : decode code 1674 = .ok (.aload_n 1, 1) := by decide +kernel
theorem dL_1675 : decode code 1675 = .ok (.invokevirtual 204, 3) := by decide +kernel
theorem dL_1678 : decode code 1678 = .ok (.aload_n 2, 1) := by decide +kernel
theorem dL_1679 : decode code 1679 = .ok (.invokevirtual 207, 3) := by decide +kernel
theorem dL_1682 : decode code 1682 = .ok (.if_icmp .eq 54, 3) := by decide +kernel
theorem dL_1685 : decode code 1685 = .ok (.iconst 0, 1) := by decide +kernel
theorem dL_1686 : decode code 1686 = .ok (.ireturn, 1) := by decide +kernel
theorem dL_1687 : decode code 1687 = .ok (.aload_n 1, 1) := by decide +kernel
theorem dL_1688 : decode code 1688 = .ok (.invokevirtual 208, 3) := by decide +kernel
theorem dL_1691 : decode code 1691 = .ok (.aload_n 2, 1) := by decide +kernel
theorem dL_1692 : decode code 1692 = .ok (.invokevirtual 211, 3) := by decide +kernel
theorem dL_1695 : decode code 1695 = .ok (.if_icmp .eq 41, 3) := by decide +kernel
theorem dL_1698 : decode code 1698 = .ok (.iconst 0, 1) := by decide +kernel
theorem dL_1699 : decode code 1699 = .ok (.ireturn, 1) := by decide +kernel
theorem dL_1700 : decode code 1700 = .ok (.aload_n 1, 1) := by decide +kernel
theorem dL_1701 : decode code 1701 = .ok (.invokevirtual 212, 3) := by decide +kernel
theorem dL_1704 : decode code 1704 = .ok (.aload_n 2, 1) := by decide +kernel
theorem dL_1705 : decode code 1705 = .ok (.invokevirtual 215, 3) := by decide +kernel
theorem dL_1708 : decode code 1708 = .ok (.if_icmp .eq 28, 3) := by decide +kernel
theorem dL_1711 : decode code 1711 = .ok (.iconst 0, 1) := by decide +kernel
theorem dL_1712 : decode code 1712 = .ok (.ireturn, 1) := by decide +kernel
theorem dL_1713 : decode code 1713 = .ok (.aload_n 1, 1) := by decide +kernel
theorem dL_1714 : decode code 1714 = .ok (.aload_n 0, 1) := by decide +kernel
theorem dL_1715 : decode code 1715 = .ok (.iload_n 3, 1) := by decide +kernel
theorem dL_1716 : decode code 1716 = .ok (.iconst 1, 1) := by decide +kernel
theorem dL_1717 : decode code 1717 = .ok (.iadd, 1) := by decide +kernel
theorem dL_1718 : decode code 1718 = .ok (.iaload, 1) := by decide +kernel
theorem dL_1719 : decode code 1719 = .ok (.invokevirtual 216, 3) := by decide +kernel
theorem dL_1722 : decode code 1722 = .ok (.aload_n 2, 1) := by decide +kernel
theorem dL_1723 : decode code 1723 = .ok (.aload_n 0, 1) := by decide +kernel
theorem dL_1724 : decode code 1724 = .ok (.iload_n 3, 1) := by decide +kernel
theorem dL_1725 : decode code 1725 = .ok (.iconst 1, 1) := by decide +kernel
theorem dL_1726 : decode code 1726 = .ok (.iadd, 1) := by decide +kernel
theorem dL_1727 : decode code 1727 = .ok (.iaload, 1) := by decide +kernel
theorem dL_1728 : decode code 1728 = .ok (.invokevirtual 219, 3) := by decide +kernel
theorem dL_1731 : decode code 1731 = .ok (.if_icmp .eq 5, 3) := by decide +kernel
theorem dL_1734 : decode code 1734 = .ok (.iconst 0, 1) := by decide +kernel
theorem dL_1735 : decode code 1735 = .ok (.ireturn, 1) := by decide +kernel
theorem dL_1736 : decode code 1736 = .ok (.iinc 3 6, 3) := by decide +kernel
theorem dL_1739 : decode code 1739 = .ok (.goto (-1721), 3) := by decide +kernel
theorem dL_1742 : decode code 1742 = .ok (.iconst 1, 1) := by decide +kernel
theorem dL_1743 : decode code 1743 = .ok (.ireturn, 1) := by decide +kernel
