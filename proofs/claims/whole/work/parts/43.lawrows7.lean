/-! the law: what its instructions are -/
theorem dd_L_law_1460 : decode Y_L_law.2.1 1460 = .ok (.ifCond .ne 15, 3) := by decide +kernel
theorem dd_L_law_1463 : decode Y_L_law.2.1 1463 = .ok (.aload_n 3, 1) := by decide +kernel
theorem dd_L_law_1464 : decode Y_L_law.2.1 1464 = .ok (.iconst 0, 1) := by decide +kernel
theorem dd_L_law_1465 : decode Y_L_law.2.1 1465 = .ok (.laload, 1) := by decide +kernel
theorem dd_L_law_1466 : decode Y_L_law.2.1 1466 = .ok (.iload 6, 2) := by decide +kernel
theorem dd_L_law_1468 : decode Y_L_law.2.1 1468 = .ok (.i2l, 1) := by decide +kernel
theorem dd_L_law_1469 : decode Y_L_law.2.1 1469 = .ok (.lcmp, 1) := by decide +kernel
theorem dd_L_law_1470 : decode Y_L_law.2.1 1470 = .ok (.ifCond .eq 5, 3) := by decide +kernel
theorem dd_L_law_1473 : decode Y_L_law.2.1 1473 = .ok (.iconst 0, 1) := by decide +kernel
theorem dd_L_law_1474 : decode Y_L_law.2.1 1474 = .ok (.ireturn, 1) := by decide +kernel
theorem dd_L_law_1475 : decode Y_L_law.2.1 1475 = .ok (.goto 786, 3) := by decide +kernel
theorem dd_L_law_1478 : decode Y_L_law.2.1 1478 = .ok (.aload_n 1, 1) := by decide +kernel
theorem dd_L_law_1479 : decode Y_L_law.2.1 1479 = .ok (.aload_n 0, 1) := by decide +kernel
theorem dd_L_law_1480 : decode Y_L_law.2.1 1480 = .ok (.iload 4, 2) := by decide +kernel
theorem dd_L_law_1482 : decode Y_L_law.2.1 1482 = .ok (.iconst 1, 1) := by decide +kernel
theorem dd_L_law_1483 : decode Y_L_law.2.1 1483 = .ok (.iadd, 1) := by decide +kernel
theorem dd_L_law_1484 : decode Y_L_law.2.1 1484 = .ok (.iaload, 1) := by decide +kernel
theorem dd_L_law_1485 : decode Y_L_law.2.1 1485 = .ok (.aload_n 0, 1) := by decide +kernel
theorem dd_L_law_1486 : decode Y_L_law.2.1 1486 = .ok (.iload 4, 2) := by decide +kernel
theorem dd_L_law_1488 : decode Y_L_law.2.1 1488 = .ok (.iconst 2, 1) := by decide +kernel
theorem dd_L_law_1489 : decode Y_L_law.2.1 1489 = .ok (.iadd, 1) := by decide +kernel
theorem dd_L_law_1490 : decode Y_L_law.2.1 1490 = .ok (.iaload, 1) := by decide +kernel
theorem dd_L_law_1491 : decode Y_L_law.2.1 1491 = .ok (.aload_n 0, 1) := by decide +kernel
theorem dd_L_law_1492 : decode Y_L_law.2.1 1492 = .ok (.iload 4, 2) := by decide +kernel
theorem dd_L_law_1494 : decode Y_L_law.2.1 1494 = .ok (.iconst 3, 1) := by decide +kernel
theorem dd_L_law_1495 : decode Y_L_law.2.1 1495 = .ok (.iadd, 1) := by decide +kernel
theorem dd_L_law_1496 : decode Y_L_law.2.1 1496 = .ok (.iaload, 1) := by decide +kernel
theorem dd_L_law_1497 : decode Y_L_law.2.1 1497 = .ok (.aload_n 3, 1) := by decide +kernel
theorem dd_L_law_1498 : decode Y_L_law.2.1 1498 = .ok (.invokestatic 187, 3) := by decide +kernel
theorem dd_L_law_1501 : decode Y_L_law.2.1 1501 = .ok (.istore 5, 2) := by decide +kernel
theorem dd_L_law_1503 : decode Y_L_law.2.1 1503 = .ok (.aload_n 2, 1) := by decide +kernel
theorem dd_L_law_1504 : decode Y_L_law.2.1 1504 = .ok (.aload_n 0, 1) := by decide +kernel
theorem dd_L_law_1505 : decode Y_L_law.2.1 1505 = .ok (.iload 4, 2) := by decide +kernel
theorem dd_L_law_1507 : decode Y_L_law.2.1 1507 = .ok (.iconst 1, 1) := by decide +kernel
theorem dd_L_law_1508 : decode Y_L_law.2.1 1508 = .ok (.iadd, 1) := by decide +kernel
theorem dd_L_law_1509 : decode Y_L_law.2.1 1509 = .ok (.iaload, 1) := by decide +kernel
theorem dd_L_law_1510 : decode Y_L_law.2.1 1510 = .ok (.aload_n 0, 1) := by decide +kernel
theorem dd_L_law_1511 : decode Y_L_law.2.1 1511 = .ok (.iload 4, 2) := by decide +kernel
theorem dd_L_law_1513 : decode Y_L_law.2.1 1513 = .ok (.iconst 2, 1) := by decide +kernel
theorem dd_L_law_1514 : decode Y_L_law.2.1 1514 = .ok (.iadd, 1) := by decide +kernel
theorem dd_L_law_1515 : decode Y_L_law.2.1 1515 = .ok (.iaload, 1) := by decide +kernel
theorem dd_L_law_1516 : decode Y_L_law.2.1 1516 = .ok (.aload_n 0, 1) := by decide +kernel
theorem dd_L_law_1517 : decode Y_L_law.2.1 1517 = .ok (.iload 4, 2) := by decide +kernel
theorem dd_L_law_1519 : decode Y_L_law.2.1 1519 = .ok (.iconst 3, 1) := by decide +kernel
theorem dd_L_law_1520 : decode Y_L_law.2.1 1520 = .ok (.iadd, 1) := by decide +kernel
theorem dd_L_law_1521 : decode Y_L_law.2.1 1521 = .ok (.iaload, 1) := by decide +kernel
theorem dd_L_law_1522 : decode Y_L_law.2.1 1522 = .ok (.invokevirtual 189, 3) := by decide +kernel
theorem dd_L_law_1525 : decode Y_L_law.2.1 1525 = .ok (.istore 6, 2) := by decide +kernel
theorem dd_L_law_1527 : decode Y_L_law.2.1 1527 = .ok (.aload_n 2, 1) := by decide +kernel
theorem dd_L_law_1528 : decode Y_L_law.2.1 1528 = .ok (.invokevirtual 117, 3) := by decide +kernel
theorem dd_L_law_1531 : decode Y_L_law.2.1 1531 = .ok (.iload 5, 2) := by decide +kernel
theorem dd_L_law_1533 : decode Y_L_law.2.1 1533 = .ok (.if_icmp .eq 5, 3) := by decide +kernel
theorem dd_L_law_1536 : decode Y_L_law.2.1 1536 = .ok (.iconst 0, 1) := by decide +kernel
theorem dd_L_law_1537 : decode Y_L_law.2.1 1537 = .ok (.ireturn, 1) := by decide +kernel
theorem dd_L_law_1538 : decode Y_L_law.2.1 1538 = .ok (.iload 5, 2) := by decide +kernel
theorem dd_L_law_1540 : decode Y_L_law.2.1 1540 = .ok (.ifCond .ne 15, 3) := by decide +kernel
theorem dd_L_law_1543 : decode Y_L_law.2.1 1543 = .ok (.aload_n 3, 1) := by decide +kernel
theorem dd_L_law_1544 : decode Y_L_law.2.1 1544 = .ok (.iconst 0, 1) := by decide +kernel
theorem dd_L_law_1545 : decode Y_L_law.2.1 1545 = .ok (.laload, 1) := by decide +kernel
theorem dd_L_law_1546 : decode Y_L_law.2.1 1546 = .ok (.iload 6, 2) := by decide +kernel
theorem dd_L_law_1548 : decode Y_L_law.2.1 1548 = .ok (.i2l, 1) := by decide +kernel
theorem dd_L_law_1549 : decode Y_L_law.2.1 1549 = .ok (.lcmp, 1) := by decide +kernel
theorem dd_L_law_1550 : decode Y_L_law.2.1 1550 = .ok (.ifCond .eq 5, 3) := by decide +kernel
theorem dd_L_law_1553 : decode Y_L_law.2.1 1553 = .ok (.iconst 0, 1) := by decide +kernel
theorem dd_L_law_1554 : decode Y_L_law.2.1 1554 = .ok (.ireturn, 1) := by decide +kernel
theorem dd_L_law_1555 : decode Y_L_law.2.1 1555 = .ok (.goto 706, 3) := by decide +kernel
theorem dd_L_law_1558 : decode Y_L_law.2.1 1558 = .ok (.aload_n 1, 1) := by decide +kernel
theorem dd_L_law_1559 : decode Y_L_law.2.1 1559 = .ok (.aload_n 0, 1) := by decide +kernel
theorem dd_L_law_1560 : decode Y_L_law.2.1 1560 = .ok (.iload 4, 2) := by decide +kernel
theorem dd_L_law_1562 : decode Y_L_law.2.1 1562 = .ok (.iconst 1, 1) := by decide +kernel
theorem dd_L_law_1563 : decode Y_L_law.2.1 1563 = .ok (.iadd, 1) := by decide +kernel
theorem dd_L_law_1564 : decode Y_L_law.2.1 1564 = .ok (.iaload, 1) := by decide +kernel
theorem dd_L_law_1565 : decode Y_L_law.2.1 1565 = .ok (.aload_n 3, 1) := by decide +kernel
theorem dd_L_law_1566 : decode Y_L_law.2.1 1566 = .ok (.invokestatic 190, 3) := by decide +kernel
theorem dd_L_law_1569 : decode Y_L_law.2.1 1569 = .ok (.istore 5, 2) := by decide +kernel
theorem dd_L_law_1571 : decode Y_L_law.2.1 1571 = .ok (.aload_n 2, 1) := by decide +kernel
theorem dd_L_law_1572 : decode Y_L_law.2.1 1572 = .ok (.aload_n 0, 1) := by decide +kernel
theorem dd_L_law_1573 : decode Y_L_law.2.1 1573 = .ok (.iload 4, 2) := by decide +kernel
theorem dd_L_law_1575 : decode Y_L_law.2.1 1575 = .ok (.iconst 1, 1) := by decide +kernel
theorem dd_L_law_1576 : decode Y_L_law.2.1 1576 = .ok (.iadd, 1) := by decide +kernel
theorem dd_L_law_1577 : decode Y_L_law.2.1 1577 = .ok (.iaload, 1) := by decide +kernel
theorem dd_L_law_1578 : decode Y_L_law.2.1 1578 = .ok (.invokevirtual 192, 3) := by decide +kernel
theorem dd_L_law_1581 : decode Y_L_law.2.1 1581 = .ok (.istore 6, 2) := by decide +kernel
theorem dd_L_law_1583 : decode Y_L_law.2.1 1583 = .ok (.aload_n 2, 1) := by decide +kernel
theorem dd_L_law_1584 : decode Y_L_law.2.1 1584 = .ok (.invokevirtual 117, 3) := by decide +kernel
theorem dd_L_law_1587 : decode Y_L_law.2.1 1587 = .ok (.iload 5, 2) := by decide +kernel
theorem dd_L_law_1589 : decode Y_L_law.2.1 1589 = .ok (.if_icmp .eq 5, 3) := by decide +kernel
theorem dd_L_law_1592 : decode Y_L_law.2.1 1592 = .ok (.iconst 0, 1) := by decide +kernel
theorem dd_L_law_1593 : decode Y_L_law.2.1 1593 = .ok (.ireturn, 1) := by decide +kernel
theorem dd_L_law_1594 : decode Y_L_law.2.1 1594 = .ok (.iload 5, 2) := by decide +kernel
theorem dd_L_law_1596 : decode Y_L_law.2.1 1596 = .ok (.ifCond .ne 15, 3) := by decide +kernel
theorem dd_L_law_1599 : decode Y_L_law.2.1 1599 = .ok (.aload_n 3, 1) := by decide +kernel
theorem dd_L_law_1600 : decode Y_L_law.2.1 1600 = .ok (.iconst 0, 1) := by decide +kernel
theorem dd_L_law_1601 : decode Y_L_law.2.1 1601 = .ok (.laload, 1) := by decide +kernel
theorem dd_L_law_1602 : decode Y_L_law.2.1 1602 = .ok (.iload 6, 2) := by decide +kernel
theorem dd_L_law_1604 : decode Y_L_law.2.1 1604 = .ok (.i2l, 1) := by decide +kernel
theorem dd_L_law_1605 : decode Y_L_law.2.1 1605 = .ok (.lcmp, 1) := by decide +kernel
theorem dd_L_law_1606 : decode Y_L_law.2.1 1606 = .ok (.ifCond .eq 5, 3) := by decide +kernel
theorem dd_L_law_1609 : decode Y_L_law.2.1 1609 = .ok (.iconst 0, 1) := by decide +kernel
theorem dd_L_law_1610 : decode Y_L_law.2.1 1610 = .ok (.ireturn, 1) := by decide +kernel
theorem dd_L_law_1611 : decode Y_L_law.2.1 1611 = .ok (.goto 650, 3) := by decide +kernel
theorem dd_L_law_1614 : decode Y_L_law.2.1 1614 = .ok (.aload_n 1, 1) := by decide +kernel
theorem dd_L_law_1615 : decode Y_L_law.2.1 1615 = .ok (.aload_n 0, 1) := by decide +kernel
theorem dd_L_law_1616 : decode Y_L_law.2.1 1616 = .ok (.iload 4, 2) := by decide +kernel
theorem dd_L_law_1618 : decode Y_L_law.2.1 1618 = .ok (.iconst 1, 1) := by decide +kernel
theorem dd_L_law_1619 : decode Y_L_law.2.1 1619 = .ok (.iadd, 1) := by decide +kernel
theorem dd_L_law_1620 : decode Y_L_law.2.1 1620 = .ok (.iaload, 1) := by decide +kernel
theorem dd_L_law_1621 : decode Y_L_law.2.1 1621 = .ok (.aload_n 0, 1) := by decide +kernel
theorem dd_L_law_1622 : decode Y_L_law.2.1 1622 = .ok (.iload 4, 2) := by decide +kernel
theorem dd_L_law_1624 : decode Y_L_law.2.1 1624 = .ok (.iconst 2, 1) := by decide +kernel
theorem dd_L_law_1625 : decode Y_L_law.2.1 1625 = .ok (.iadd, 1) := by decide +kernel
theorem dd_L_law_1626 : decode Y_L_law.2.1 1626 = .ok (.iaload, 1) := by decide +kernel
theorem dd_L_law_1627 : decode Y_L_law.2.1 1627 = .ok (.aload_n 3, 1) := by decide +kernel
theorem dd_L_law_1628 : decode Y_L_law.2.1 1628 = .ok (.invokestatic 193, 3) := by decide +kernel
theorem dd_L_law_1631 : decode Y_L_law.2.1 1631 = .ok (.istore 5, 2) := by decide +kernel
theorem dd_L_law_1633 : decode Y_L_law.2.1 1633 = .ok (.aload_n 2, 1) := by decide +kernel
theorem dd_L_law_1634 : decode Y_L_law.2.1 1634 = .ok (.aload_n 0, 1) := by decide +kernel
theorem dd_L_law_1635 : decode Y_L_law.2.1 1635 = .ok (.iload 4, 2) := by decide +kernel
theorem dd_L_law_1637 : decode Y_L_law.2.1 1637 = .ok (.iconst 1, 1) := by decide +kernel
theorem dd_L_law_1638 : decode Y_L_law.2.1 1638 = .ok (.iadd, 1) := by decide +kernel
