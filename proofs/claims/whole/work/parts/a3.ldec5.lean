/-! THE LAW: its instructions -/
theorem d_law_1375 : decode code 1375 = .ok (.iload 4, 2) := by decide +kernel
theorem d_law_1377 : decode code 1377 = .ok (.iconst 3, 1) := by decide +kernel
theorem d_law_1378 : decode code 1378 = .ok (.iadd, 1) := by decide +kernel
theorem d_law_1379 : decode code 1379 = .ok (.iaload, 1) := by decide +kernel
theorem d_law_1380 : decode code 1380 = .ok (.invokevirtual 171, 3) := by decide +kernel
theorem d_law_1383 : decode code 1383 = .ok (.aload_n 2, 1) := by decide +kernel
theorem d_law_1384 : decode code 1384 = .ok (.aload_n 0, 1) := by decide +kernel
theorem d_law_1385 : decode code 1385 = .ok (.iload 4, 2) := by decide +kernel
theorem d_law_1387 : decode code 1387 = .ok (.iconst 1, 1) := by decide +kernel
theorem d_law_1388 : decode code 1388 = .ok (.iadd, 1) := by decide +kernel
theorem d_law_1389 : decode code 1389 = .ok (.iaload, 1) := by decide +kernel
theorem d_law_1390 : decode code 1390 = .ok (.aload_n 0, 1) := by decide +kernel
theorem d_law_1391 : decode code 1391 = .ok (.iload 4, 2) := by decide +kernel
theorem d_law_1393 : decode code 1393 = .ok (.iconst 2, 1) := by decide +kernel
theorem d_law_1394 : decode code 1394 = .ok (.iadd, 1) := by decide +kernel
theorem d_law_1395 : decode code 1395 = .ok (.iaload, 1) := by decide +kernel
theorem d_law_1396 : decode code 1396 = .ok (.aload_n 0, 1) := by decide +kernel
theorem d_law_1397 : decode code 1397 = .ok (.iload 4, 2) := by decide +kernel
theorem d_law_1399 : decode code 1399 = .ok (.iconst 3, 1) := by decide +kernel
theorem d_law_1400 : decode code 1400 = .ok (.iadd, 1) := by decide +kernel
theorem d_law_1401 : decode code 1401 = .ok (.iaload, 1) := by decide +kernel
theorem d_law_1402 : decode code 1402 = .ok (.invokevirtual 174, 3) := by decide +kernel
theorem d_law_1405 : decode code 1405 = .ok (.if_icmp .eq 195, 3) := by decide +kernel
theorem d_law_1408 : decode code 1408 = .ok (.iconst 0, 1) := by decide +kernel
theorem d_law_1409 : decode code 1409 = .ok (.ireturn, 1) := by decide +kernel
theorem d_law_1410 : decode code 1410 = .ok (.aload_n 1, 1) := by decide +kernel
theorem d_law_1411 : decode code 1411 = .ok (.aload_n 0, 1) := by decide +kernel
theorem d_law_1412 : decode code 1412 = .ok (.iload 4, 2) := by decide +kernel
theorem d_law_1414 : decode code 1414 = .ok (.iconst 1, 1) := by decide +kernel
theorem d_law_1415 : decode code 1415 = .ok (.iadd, 1) := by decide +kernel
theorem d_law_1416 : decode code 1416 = .ok (.iaload, 1) := by decide +kernel
theorem d_law_1417 : decode code 1417 = .ok (.aload_n 0, 1) := by decide +kernel
theorem d_law_1418 : decode code 1418 = .ok (.iload 4, 2) := by decide +kernel
theorem d_law_1420 : decode code 1420 = .ok (.iconst 2, 1) := by decide +kernel
theorem d_law_1421 : decode code 1421 = .ok (.iadd, 1) := by decide +kernel
theorem d_law_1422 : decode code 1422 = .ok (.iaload, 1) := by decide +kernel
theorem d_law_1423 : decode code 1423 = .ok (.aload_n 3, 1) := by decide +kernel
theorem d_law_1424 : decode code 1424 = .ok (.invokestatic 175, 3) := by decide +kernel
theorem d_law_1427 : decode code 1427 = .ok (.istore 5, 2) := by decide +kernel
theorem d_law_1429 : decode code 1429 = .ok (.aload_n 2, 1) := by decide +kernel
theorem d_law_1430 : decode code 1430 = .ok (.aload_n 0, 1) := by decide +kernel
theorem d_law_1431 : decode code 1431 = .ok (.iload 4, 2) := by decide +kernel
theorem d_law_1433 : decode code 1433 = .ok (.iconst 1, 1) := by decide +kernel
theorem d_law_1434 : decode code 1434 = .ok (.iadd, 1) := by decide +kernel
theorem d_law_1435 : decode code 1435 = .ok (.iaload, 1) := by decide +kernel
theorem d_law_1436 : decode code 1436 = .ok (.aload_n 0, 1) := by decide +kernel
theorem d_law_1437 : decode code 1437 = .ok (.iload 4, 2) := by decide +kernel
theorem d_law_1439 : decode code 1439 = .ok (.iconst 2, 1) := by decide +kernel
theorem d_law_1440 : decode code 1440 = .ok (.iadd, 1) := by decide +kernel
theorem d_law_1441 : decode code 1441 = .ok (.iaload, 1) := by decide +kernel
theorem d_law_1442 : decode code 1442 = .ok (.invokevirtual 180, 3) := by decide +kernel
theorem d_law_1445 : decode code 1445 = .ok (.lstore 6, 2) := by decide +kernel
theorem d_law_1447 : decode code 1447 = .ok (.aload_n 2, 1) := by decide +kernel
theorem d_law_1448 : decode code 1448 = .ok (.invokevirtual 181, 3) := by decide +kernel
theorem d_law_1451 : decode code 1451 = .ok (.iload 5, 2) := by decide +kernel
theorem d_law_1453 : decode code 1453 = .ok (.if_icmp .eq 5, 3) := by decide +kernel
theorem d_law_1456 : decode code 1456 = .ok (.iconst 0, 1) := by decide +kernel
theorem d_law_1457 : decode code 1457 = .ok (.ireturn, 1) := by decide +kernel
theorem d_law_1458 : decode code 1458 = .ok (.iload 5, 2) := by decide +kernel
theorem d_law_1460 : decode code 1460 = .ok (.ifCond .ne 14, 3) := by decide +kernel
theorem d_law_1463 : decode code 1463 = .ok (.aload_n 3, 1) := by decide +kernel
theorem d_law_1464 : decode code 1464 = .ok (.iconst 0, 1) := by decide +kernel
theorem d_law_1465 : decode code 1465 = .ok (.laload, 1) := by decide +kernel
theorem d_law_1466 : decode code 1466 = .ok (.lload 6, 2) := by decide +kernel
theorem d_law_1468 : decode code 1468 = .ok (.lcmp, 1) := by decide +kernel
theorem d_law_1469 : decode code 1469 = .ok (.ifCond .eq 5, 3) := by decide +kernel
theorem d_law_1472 : decode code 1472 = .ok (.iconst 0, 1) := by decide +kernel
theorem d_law_1473 : decode code 1473 = .ok (.ireturn, 1) := by decide +kernel
theorem d_law_1474 : decode code 1474 = .ok (.goto 126, 3) := by decide +kernel
theorem d_law_1477 : decode code 1477 = .ok (.aload_n 1, 1) := by decide +kernel
theorem d_law_1478 : decode code 1478 = .ok (.aload_n 0, 1) := by decide +kernel
theorem d_law_1479 : decode code 1479 = .ok (.iload 4, 2) := by decide +kernel
theorem d_law_1481 : decode code 1481 = .ok (.iconst 1, 1) := by decide +kernel
theorem d_law_1482 : decode code 1482 = .ok (.iadd, 1) := by decide +kernel
theorem d_law_1483 : decode code 1483 = .ok (.iaload, 1) := by decide +kernel
theorem d_law_1484 : decode code 1484 = .ok (.aload_n 0, 1) := by decide +kernel
theorem d_law_1485 : decode code 1485 = .ok (.iload 4, 2) := by decide +kernel
theorem d_law_1487 : decode code 1487 = .ok (.iconst 2, 1) := by decide +kernel
theorem d_law_1488 : decode code 1488 = .ok (.iadd, 1) := by decide +kernel
theorem d_law_1489 : decode code 1489 = .ok (.iaload, 1) := by decide +kernel
theorem d_law_1490 : decode code 1490 = .ok (.aload_n 0, 1) := by decide +kernel
theorem d_law_1491 : decode code 1491 = .ok (.iload 4, 2) := by decide +kernel
theorem d_law_1493 : decode code 1493 = .ok (.iconst 3, 1) := by decide +kernel
theorem d_law_1494 : decode code 1494 = .ok (.iadd, 1) := by decide +kernel
theorem d_law_1495 : decode code 1495 = .ok (.iaload, 1) := by decide +kernel
theorem d_law_1496 : decode code 1496 = .ok (.aload_n 0, 1) := by decide +kernel
theorem d_law_1497 : decode code 1497 = .ok (.iload 4, 2) := by decide +kernel
theorem d_law_1499 : decode code 1499 = .ok (.iconst 4, 1) := by decide +kernel
theorem d_law_1500 : decode code 1500 = .ok (.iadd, 1) := by decide +kernel
theorem d_law_1501 : decode code 1501 = .ok (.iaload, 1) := by decide +kernel
theorem d_law_1502 : decode code 1502 = .ok (.aload_n 0, 1) := by decide +kernel
theorem d_law_1503 : decode code 1503 = .ok (.iload 4, 2) := by decide +kernel
theorem d_law_1505 : decode code 1505 = .ok (.iconst 5, 1) := by decide +kernel
theorem d_law_1506 : decode code 1506 = .ok (.iadd, 1) := by decide +kernel
theorem d_law_1507 : decode code 1507 = .ok (.iaload, 1) := by decide +kernel
theorem d_law_1508 : decode code 1508 = .ok (.invokevirtual 184, 3) := by decide +kernel
theorem d_law_1511 : decode code 1511 = .ok (.aload_n 2, 1) := by decide +kernel
theorem d_law_1512 : decode code 1512 = .ok (.aload_n 0, 1) := by decide +kernel
theorem d_law_1513 : decode code 1513 = .ok (.iload 4, 2) := by decide +kernel
theorem d_law_1515 : decode code 1515 = .ok (.iconst 1, 1) := by decide +kernel
theorem d_law_1516 : decode code 1516 = .ok (.iadd, 1) := by decide +kernel
theorem d_law_1517 : decode code 1517 = .ok (.iaload, 1) := by decide +kernel
theorem d_law_1518 : decode code 1518 = .ok (.aload_n 0, 1) := by decide +kernel
theorem d_law_1519 : decode code 1519 = .ok (.iload 4, 2) := by decide +kernel
theorem d_law_1521 : decode code 1521 = .ok (.iconst 2, 1) := by decide +kernel
theorem d_law_1522 : decode code 1522 = .ok (.iadd, 1) := by decide +kernel
theorem d_law_1523 : decode code 1523 = .ok (.iaload, 1) := by decide +kernel
theorem d_law_1524 : decode code 1524 = .ok (.aload_n 0, 1) := by decide +kernel
theorem d_law_1525 : decode code 1525 = .ok (.iload 4, 2) := by decide +kernel
theorem d_law_1527 : decode code 1527 = .ok (.iconst 3, 1) := by decide +kernel
theorem d_law_1528 : decode code 1528 = .ok (.iadd, 1) := by decide +kernel
theorem d_law_1529 : decode code 1529 = .ok (.iaload, 1) := by decide +kernel
theorem d_law_1530 : decode code 1530 = .ok (.aload_n 0, 1) := by decide +kernel
theorem d_law_1531 : decode code 1531 = .ok (.iload 4, 2) := by decide +kernel
theorem d_law_1533 : decode code 1533 = .ok (.iconst 4, 1) := by decide +kernel
theorem d_law_1534 : decode code 1534 = .ok (.iadd, 1) := by decide +kernel
theorem d_law_1535 : decode code 1535 = .ok (.iaload, 1) := by decide +kernel
theorem d_law_1536 : decode code 1536 = .ok (.aload_n 0, 1) := by decide +kernel
theorem d_law_1537 : decode code 1537 = .ok (.iload 4, 2) := by decide +kernel
theorem d_law_1539 : decode code 1539 = .ok (.iconst 5, 1) := by decide +kernel
theorem d_law_1540 : decode code 1540 = .ok (.iadd, 1) := by decide +kernel
theorem d_law_1541 : decode code 1541 = .ok (.iaload, 1) := by decide +kernel
theorem d_law_1542 : decode code 1542 = .ok (.invokevirtual 188, 3) := by decide +kernel
theorem d_law_1545 : decode code 1545 = .ok (.if_icmp .eq 55, 3) := by decide +kernel
theorem d_law_1548 : decode code 1548 = .ok (.iconst 0, 1) := by decide +kernel
theorem d_law_1549 : decode code 1549 = .ok (.ireturn, 1) := by decide +kernel
theorem d_law_1550 : decode code 1550 = .ok (.aload_n 1, 1) := by decide +kernel
theorem d_law_1551 : decode code 1551 = .ok (.aload_n 0, 1) := by decide +kernel
theorem d_law_1552 : decode code 1552 = .ok (.iload 4, 2) := by decide +kernel
theorem d_law_1554 : decode code 1554 = .ok (.iconst 1, 1) := by decide +kernel
theorem d_law_1555 : decode code 1555 = .ok (.iadd, 1) := by decide +kernel
theorem d_law_1556 : decode code 1556 = .ok (.iaload, 1) := by decide +kernel
theorem d_law_1557 : decode code 1557 = .ok (.invokevirtual 189, 3) := by decide +kernel
theorem d_law_1560 : decode code 1560 = .ok (.aload_n 2, 1) := by decide +kernel
theorem d_law_1561 : decode code 1561 = .ok (.aload_n 0, 1) := by decide +kernel
theorem d_law_1562 : decode code 1562 = .ok (.iload 4, 2) := by decide +kernel
theorem d_law_1564 : decode code 1564 = .ok (.iconst 1, 1) := by decide +kernel
theorem d_law_1565 : decode code 1565 = .ok (.iadd, 1) := by decide +kernel
theorem d_law_1566 : decode code 1566 = .ok (.iaload, 1) := by decide +kernel
theorem d_law_1567 : decode code 1567 = .ok (.invokevirtual 192, 3) := by decide +kernel
theorem d_law_1570 : decode code 1570 = .ok (.if_icmp .eq 30, 3) := by decide +kernel
theorem d_law_1573 : decode code 1573 = .ok (.iconst 0, 1) := by decide +kernel
theorem d_law_1574 : decode code 1574 = .ok (.ireturn, 1) := by decide +kernel
theorem d_law_1575 : decode code 1575 = .ok (.aload_n 1, 1) := by decide +kernel
theorem d_law_1576 : decode code 1576 = .ok (.aload_n 0, 1) := by decide +kernel
theorem d_law_1577 : decode code 1577 = .ok (.iload 4, 2) := by decide +kernel
theorem d_law_1579 : decode code 1579 = .ok (.iconst 1, 1) := by decide +kernel
theorem d_law_1580 : decode code 1580 = .ok (.iadd, 1) := by decide +kernel
theorem d_law_1581 : decode code 1581 = .ok (.iaload, 1) := by decide +kernel
theorem d_law_1582 : decode code 1582 = .ok (.invokevirtual 193, 3) := by decide +kernel
theorem d_law_1585 : decode code 1585 = .ok (.aload_n 2, 1) := by decide +kernel
theorem d_law_1586 : decode code 1586 = .ok (.aload_n 0, 1) := by decide +kernel
theorem d_law_1587 : decode code 1587 = .ok (.iload 4, 2) := by decide +kernel
theorem d_law_1589 : decode code 1589 = .ok (.iconst 1, 1) := by decide +kernel
theorem d_law_1590 : decode code 1590 = .ok (.iadd, 1) := by decide +kernel
theorem d_law_1591 : decode code 1591 = .ok (.iaload, 1) := by decide +kernel
theorem d_law_1592 : decode code 1592 = .ok (.invokevirtual 196, 3) := by decide +kernel
theorem d_law_1595 : decode code 1595 = .ok (.if_icmp .eq 5, 3) := by decide +kernel
theorem d_law_1598 : decode code 1598 = .ok (.iconst 0, 1) := by decide +kernel
theorem d_law_1599 : decode code 1599 = .ok (.ireturn, 1) := by decide +kernel
theorem d_law_1600 : decode code 1600 = .ok (.iinc 4 6, 3) := by decide +kernel
theorem d_law_1603 : decode code 1603 = .ok (.goto (-1580), 3) := by decide +kernel
theorem d_law_1606 : decode code 1606 = .ok (.iconst 1, 1) := by decide +kernel
theorem d_law_1607 : decode code 1607 = .ok (.ireturn, 1) := by decide +kernel
