theorem d_W_law_1477 : decode (ab_bc mt_W_law) 1477 = .ok (.i2l, 1) := by decide +kernel
theorem d_W_law_1478 : decode (ab_bc mt_W_law) 1478 = .ok (.lcmp, 1) := by decide +kernel
theorem d_W_law_1479 : decode (ab_bc mt_W_law) 1479 = .ok (.ifCond .eq 5, 3) := by decide +kernel
theorem d_W_law_1482 : decode (ab_bc mt_W_law) 1482 = .ok (.iconst 0, 1) := by decide +kernel
theorem d_W_law_1483 : decode (ab_bc mt_W_law) 1483 = .ok (.ireturn, 1) := by decide +kernel
theorem d_W_law_1484 : decode (ab_bc mt_W_law) 1484 = .ok (.goto 174, 3) := by decide +kernel
theorem d_W_law_1487 : decode (ab_bc mt_W_law) 1487 = .ok (.aload_n 1, 1) := by decide +kernel
theorem d_W_law_1488 : decode (ab_bc mt_W_law) 1488 = .ok (.aload_n 0, 1) := by decide +kernel
theorem d_W_law_1489 : decode (ab_bc mt_W_law) 1489 = .ok (.iload 4, 2) := by decide +kernel
theorem d_W_law_1491 : decode (ab_bc mt_W_law) 1491 = .ok (.iconst 1, 1) := by decide +kernel
theorem d_W_law_1492 : decode (ab_bc mt_W_law) 1492 = .ok (.iadd, 1) := by decide +kernel
theorem d_W_law_1493 : decode (ab_bc mt_W_law) 1493 = .ok (.iaload, 1) := by decide +kernel
theorem d_W_law_1494 : decode (ab_bc mt_W_law) 1494 = .ok (.aload_n 3, 1) := by decide +kernel
theorem d_W_law_1495 : decode (ab_bc mt_W_law) 1495 = .ok (.invokestatic 171, 3) := by decide +kernel
theorem d_W_law_1498 : decode (ab_bc mt_W_law) 1498 = .ok (.istore 5, 2) := by decide +kernel
theorem d_W_law_1500 : decode (ab_bc mt_W_law) 1500 = .ok (.aload_n 2, 1) := by decide +kernel
theorem d_W_law_1501 : decode (ab_bc mt_W_law) 1501 = .ok (.aload_n 0, 1) := by decide +kernel
theorem d_W_law_1502 : decode (ab_bc mt_W_law) 1502 = .ok (.iload 4, 2) := by decide +kernel
theorem d_W_law_1504 : decode (ab_bc mt_W_law) 1504 = .ok (.iconst 1, 1) := by decide +kernel
theorem d_W_law_1505 : decode (ab_bc mt_W_law) 1505 = .ok (.iadd, 1) := by decide +kernel
theorem d_W_law_1506 : decode (ab_bc mt_W_law) 1506 = .ok (.iaload, 1) := by decide +kernel
theorem d_W_law_1507 : decode (ab_bc mt_W_law) 1507 = .ok (.invokevirtual 173, 3) := by decide +kernel
theorem d_W_law_1510 : decode (ab_bc mt_W_law) 1510 = .ok (.istore 6, 2) := by decide +kernel
theorem d_W_law_1512 : decode (ab_bc mt_W_law) 1512 = .ok (.aload_n 2, 1) := by decide +kernel
theorem d_W_law_1513 : decode (ab_bc mt_W_law) 1513 = .ok (.invokevirtual 84, 3) := by decide +kernel
theorem d_W_law_1516 : decode (ab_bc mt_W_law) 1516 = .ok (.iload 5, 2) := by decide +kernel
theorem d_W_law_1518 : decode (ab_bc mt_W_law) 1518 = .ok (.if_icmp .eq 5, 3) := by decide +kernel
theorem d_W_law_1521 : decode (ab_bc mt_W_law) 1521 = .ok (.iconst 0, 1) := by decide +kernel
theorem d_W_law_1522 : decode (ab_bc mt_W_law) 1522 = .ok (.ireturn, 1) := by decide +kernel
theorem d_W_law_1523 : decode (ab_bc mt_W_law) 1523 = .ok (.iload 5, 2) := by decide +kernel
theorem d_W_law_1525 : decode (ab_bc mt_W_law) 1525 = .ok (.ifCond .ne 15, 3) := by decide +kernel
theorem d_W_law_1528 : decode (ab_bc mt_W_law) 1528 = .ok (.aload_n 3, 1) := by decide +kernel
theorem d_W_law_1529 : decode (ab_bc mt_W_law) 1529 = .ok (.iconst 0, 1) := by decide +kernel
theorem d_W_law_1530 : decode (ab_bc mt_W_law) 1530 = .ok (.laload, 1) := by decide +kernel
theorem d_W_law_1531 : decode (ab_bc mt_W_law) 1531 = .ok (.iload 6, 2) := by decide +kernel
theorem d_W_law_1533 : decode (ab_bc mt_W_law) 1533 = .ok (.i2l, 1) := by decide +kernel
theorem d_W_law_1534 : decode (ab_bc mt_W_law) 1534 = .ok (.lcmp, 1) := by decide +kernel
theorem d_W_law_1535 : decode (ab_bc mt_W_law) 1535 = .ok (.ifCond .eq 5, 3) := by decide +kernel
theorem d_W_law_1538 : decode (ab_bc mt_W_law) 1538 = .ok (.iconst 0, 1) := by decide +kernel
theorem d_W_law_1539 : decode (ab_bc mt_W_law) 1539 = .ok (.ireturn, 1) := by decide +kernel
theorem d_W_law_1540 : decode (ab_bc mt_W_law) 1540 = .ok (.goto 118, 3) := by decide +kernel
theorem d_W_law_1543 : decode (ab_bc mt_W_law) 1543 = .ok (.aload_n 1, 1) := by decide +kernel
theorem d_W_law_1544 : decode (ab_bc mt_W_law) 1544 = .ok (.invokevirtual 174, 3) := by decide +kernel
theorem d_W_law_1547 : decode (ab_bc mt_W_law) 1547 = .ok (.aload_n 2, 1) := by decide +kernel
theorem d_W_law_1548 : decode (ab_bc mt_W_law) 1548 = .ok (.invokevirtual 177, 3) := by decide +kernel
theorem d_W_law_1551 : decode (ab_bc mt_W_law) 1551 = .ok (.goto 107, 3) := by decide +kernel
theorem d_W_law_1554 : decode (ab_bc mt_W_law) 1554 = .ok (.aload_n 1, 1) := by decide +kernel
theorem d_W_law_1555 : decode (ab_bc mt_W_law) 1555 = .ok (.aload_n 0, 1) := by decide +kernel
theorem d_W_law_1556 : decode (ab_bc mt_W_law) 1556 = .ok (.iload 4, 2) := by decide +kernel
theorem d_W_law_1558 : decode (ab_bc mt_W_law) 1558 = .ok (.iconst 1, 1) := by decide +kernel
theorem d_W_law_1559 : decode (ab_bc mt_W_law) 1559 = .ok (.iadd, 1) := by decide +kernel
theorem d_W_law_1560 : decode (ab_bc mt_W_law) 1560 = .ok (.iaload, 1) := by decide +kernel
theorem d_W_law_1561 : decode (ab_bc mt_W_law) 1561 = .ok (.aload_n 0, 1) := by decide +kernel
theorem d_W_law_1562 : decode (ab_bc mt_W_law) 1562 = .ok (.iload 4, 2) := by decide +kernel
theorem d_W_law_1564 : decode (ab_bc mt_W_law) 1564 = .ok (.iconst 2, 1) := by decide +kernel
theorem d_W_law_1565 : decode (ab_bc mt_W_law) 1565 = .ok (.iadd, 1) := by decide +kernel
theorem d_W_law_1566 : decode (ab_bc mt_W_law) 1566 = .ok (.iaload, 1) := by decide +kernel
theorem d_W_law_1567 : decode (ab_bc mt_W_law) 1567 = .ok (.aload_n 0, 1) := by decide +kernel
theorem d_W_law_1568 : decode (ab_bc mt_W_law) 1568 = .ok (.iload 4, 2) := by decide +kernel
theorem d_W_law_1570 : decode (ab_bc mt_W_law) 1570 = .ok (.iconst 3, 1) := by decide +kernel
theorem d_W_law_1571 : decode (ab_bc mt_W_law) 1571 = .ok (.iadd, 1) := by decide +kernel
theorem d_W_law_1572 : decode (ab_bc mt_W_law) 1572 = .ok (.iaload, 1) := by decide +kernel
theorem d_W_law_1573 : decode (ab_bc mt_W_law) 1573 = .ok (.aload_n 3, 1) := by decide +kernel
theorem d_W_law_1574 : decode (ab_bc mt_W_law) 1574 = .ok (.invokestatic 178, 3) := by decide +kernel
theorem d_W_law_1577 : decode (ab_bc mt_W_law) 1577 = .ok (.istore 5, 2) := by decide +kernel
theorem d_W_law_1579 : decode (ab_bc mt_W_law) 1579 = .ok (.aload_n 2, 1) := by decide +kernel
theorem d_W_law_1580 : decode (ab_bc mt_W_law) 1580 = .ok (.aload_n 0, 1) := by decide +kernel
theorem d_W_law_1581 : decode (ab_bc mt_W_law) 1581 = .ok (.iload 4, 2) := by decide +kernel
theorem d_W_law_1583 : decode (ab_bc mt_W_law) 1583 = .ok (.iconst 1, 1) := by decide +kernel
theorem d_W_law_1584 : decode (ab_bc mt_W_law) 1584 = .ok (.iadd, 1) := by decide +kernel
theorem d_W_law_1585 : decode (ab_bc mt_W_law) 1585 = .ok (.iaload, 1) := by decide +kernel
theorem d_W_law_1586 : decode (ab_bc mt_W_law) 1586 = .ok (.aload_n 0, 1) := by decide +kernel
theorem d_W_law_1587 : decode (ab_bc mt_W_law) 1587 = .ok (.iload 4, 2) := by decide +kernel
theorem d_W_law_1589 : decode (ab_bc mt_W_law) 1589 = .ok (.iconst 2, 1) := by decide +kernel
theorem d_W_law_1590 : decode (ab_bc mt_W_law) 1590 = .ok (.iadd, 1) := by decide +kernel
theorem d_W_law_1591 : decode (ab_bc mt_W_law) 1591 = .ok (.iaload, 1) := by decide +kernel
theorem d_W_law_1592 : decode (ab_bc mt_W_law) 1592 = .ok (.aload_n 0, 1) := by decide +kernel
theorem d_W_law_1593 : decode (ab_bc mt_W_law) 1593 = .ok (.iload 4, 2) := by decide +kernel
theorem d_W_law_1595 : decode (ab_bc mt_W_law) 1595 = .ok (.iconst 3, 1) := by decide +kernel
theorem d_W_law_1596 : decode (ab_bc mt_W_law) 1596 = .ok (.iadd, 1) := by decide +kernel
theorem d_W_law_1597 : decode (ab_bc mt_W_law) 1597 = .ok (.iaload, 1) := by decide +kernel
theorem d_W_law_1598 : decode (ab_bc mt_W_law) 1598 = .ok (.invokevirtual 180, 3) := by decide +kernel
theorem d_W_law_1601 : decode (ab_bc mt_W_law) 1601 = .ok (.istore 6, 2) := by decide +kernel
theorem d_W_law_1603 : decode (ab_bc mt_W_law) 1603 = .ok (.aload_n 2, 1) := by decide +kernel
theorem d_W_law_1604 : decode (ab_bc mt_W_law) 1604 = .ok (.invokevirtual 84, 3) := by decide +kernel
theorem d_W_law_1607 : decode (ab_bc mt_W_law) 1607 = .ok (.iload 5, 2) := by decide +kernel
theorem d_W_law_1609 : decode (ab_bc mt_W_law) 1609 = .ok (.if_icmp .eq 5, 3) := by decide +kernel
theorem d_W_law_1612 : decode (ab_bc mt_W_law) 1612 = .ok (.iconst 0, 1) := by decide +kernel
theorem d_W_law_1613 : decode (ab_bc mt_W_law) 1613 = .ok (.ireturn, 1) := by decide +kernel
theorem d_W_law_1614 : decode (ab_bc mt_W_law) 1614 = .ok (.iload 5, 2) := by decide +kernel
theorem d_W_law_1616 : decode (ab_bc mt_W_law) 1616 = .ok (.ifCond .ne 15, 3) := by decide +kernel
theorem d_W_law_1619 : decode (ab_bc mt_W_law) 1619 = .ok (.aload_n 3, 1) := by decide +kernel
theorem d_W_law_1620 : decode (ab_bc mt_W_law) 1620 = .ok (.iconst 0, 1) := by decide +kernel
theorem d_W_law_1621 : decode (ab_bc mt_W_law) 1621 = .ok (.laload, 1) := by decide +kernel
theorem d_W_law_1622 : decode (ab_bc mt_W_law) 1622 = .ok (.iload 6, 2) := by decide +kernel
theorem d_W_law_1624 : decode (ab_bc mt_W_law) 1624 = .ok (.i2l, 1) := by decide +kernel
theorem d_W_law_1625 : decode (ab_bc mt_W_law) 1625 = .ok (.lcmp, 1) := by decide +kernel
theorem d_W_law_1626 : decode (ab_bc mt_W_law) 1626 = .ok (.ifCond .eq 5, 3) := by decide +kernel
theorem d_W_law_1629 : decode (ab_bc mt_W_law) 1629 = .ok (.iconst 0, 1) := by decide +kernel
theorem d_W_law_1630 : decode (ab_bc mt_W_law) 1630 = .ok (.ireturn, 1) := by decide +kernel
theorem d_W_law_1631 : decode (ab_bc mt_W_law) 1631 = .ok (.goto 27, 3) := by decide +kernel
theorem d_W_law_1634 : decode (ab_bc mt_W_law) 1634 = .ok (.aload_n 1, 1) := by decide +kernel
theorem d_W_law_1635 : decode (ab_bc mt_W_law) 1635 = .ok (.invokevirtual 181, 3) := by decide +kernel
theorem d_W_law_1638 : decode (ab_bc mt_W_law) 1638 = .ok (.aload_n 2, 1) := by decide +kernel
theorem d_W_law_1639 : decode (ab_bc mt_W_law) 1639 = .ok (.invokevirtual 184, 3) := by decide +kernel
theorem d_W_law_1642 : decode (ab_bc mt_W_law) 1642 = .ok (.goto 16, 3) := by decide +kernel
theorem d_W_law_1645 : decode (ab_bc mt_W_law) 1645 = .ok (.aload_n 1, 1) := by decide +kernel
theorem d_W_law_1646 : decode (ab_bc mt_W_law) 1646 = .ok (.invokevirtual 185, 3) := by decide +kernel
theorem d_W_law_1649 : decode (ab_bc mt_W_law) 1649 = .ok (.aload_n 2, 1) := by decide +kernel
theorem d_W_law_1650 : decode (ab_bc mt_W_law) 1650 = .ok (.invokevirtual 189, 3) := by decide +kernel
theorem d_W_law_1653 : decode (ab_bc mt_W_law) 1653 = .ok (.if_icmp .eq 5, 3) := by decide +kernel
theorem d_W_law_1656 : decode (ab_bc mt_W_law) 1656 = .ok (.iconst 0, 1) := by decide +kernel
theorem d_W_law_1657 : decode (ab_bc mt_W_law) 1657 = .ok (.ireturn, 1) := by decide +kernel
theorem d_W_law_1658 : decode (ab_bc mt_W_law) 1658 = .ok (.iinc 4 6, 3) := by decide +kernel
theorem d_W_law_1661 : decode (ab_bc mt_W_law) 1661 = .ok (.goto (-1638), 3) := by decide +kernel
theorem d_W_law_1664 : decode (ab_bc mt_W_law) 1664 = .ok (.iconst 1, 1) := by decide +kernel
theorem d_W_law_1665 : decode (ab_bc mt_W_law) 1665 = .ok (.ireturn, 1) := by decide +kernel
