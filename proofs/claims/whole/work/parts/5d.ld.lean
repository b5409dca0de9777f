theorem rd_Law_law_1421 : decode mb_Law_law 1421 = .ok (.i2l, 1) := by decide +kernel
theorem rd_Law_law_1422 : decode mb_Law_law 1422 = .ok (.lcmp, 1) := by decide +kernel
theorem rd_Law_law_1423 : decode mb_Law_law 1423 = .ok (.ifCond .eq 5, 3) := by decide +kernel
theorem rd_Law_law_1428 : decode mb_Law_law 1428 = .ok (.goto 1356, 3) := by decide +kernel
theorem rd_Law_law_1431 : decode mb_Law_law 1431 = .ok (.aload_n 1, 1) := by decide +kernel
theorem rd_Law_law_1432 : decode mb_Law_law 1432 = .ok (.aload_n 0, 1) := by decide +kernel
theorem rd_Law_law_1433 : decode mb_Law_law 1433 = .ok (.iload 4, 2) := by decide +kernel
theorem rd_Law_law_1435 : decode mb_Law_law 1435 = .ok (.iconst 1, 1) := by decide +kernel
theorem rd_Law_law_1436 : decode mb_Law_law 1436 = .ok (.iadd, 1) := by decide +kernel
theorem rd_Law_law_1437 : decode mb_Law_law 1437 = .ok (.iaload, 1) := by decide +kernel
theorem rd_Law_law_1438 : decode mb_Law_law 1438 = .ok (.aload_n 3, 1) := by decide +kernel
theorem rd_Law_law_1439 : decode mb_Law_law 1439 = .ok (.invokestatic 238, 3) := by decide +kernel
theorem rd_Law_law_1442 : decode mb_Law_law 1442 = .ok (.istore 5, 2) := by decide +kernel
theorem rd_Law_law_1444 : decode mb_Law_law 1444 = .ok (.aload_n 2, 1) := by decide +kernel
theorem rd_Law_law_1445 : decode mb_Law_law 1445 = .ok (.aload_n 0, 1) := by decide +kernel
theorem rd_Law_law_1446 : decode mb_Law_law 1446 = .ok (.iload 4, 2) := by decide +kernel
theorem rd_Law_law_1448 : decode mb_Law_law 1448 = .ok (.iconst 1, 1) := by decide +kernel
theorem rd_Law_law_1449 : decode mb_Law_law 1449 = .ok (.iadd, 1) := by decide +kernel
theorem rd_Law_law_1450 : decode mb_Law_law 1450 = .ok (.iaload, 1) := by decide +kernel
theorem rd_Law_law_1451 : decode mb_Law_law 1451 = .ok (.invokevirtual 240, 3) := by decide +kernel
theorem rd_Law_law_1454 : decode mb_Law_law 1454 = .ok (.istore 6, 2) := by decide +kernel
theorem rd_Law_law_1456 : decode mb_Law_law 1456 = .ok (.aload_n 2, 1) := by decide +kernel
theorem rd_Law_law_1457 : decode mb_Law_law 1457 = .ok (.invokevirtual 189, 3) := by decide +kernel
theorem rd_Law_law_1460 : decode mb_Law_law 1460 = .ok (.iload 5, 2) := by decide +kernel
theorem rd_Law_law_1462 : decode mb_Law_law 1462 = .ok (.if_icmp .eq 5, 3) := by decide +kernel
theorem rd_Law_law_1467 : decode mb_Law_law 1467 = .ok (.iload 5, 2) := by decide +kernel
theorem rd_Law_law_1469 : decode mb_Law_law 1469 = .ok (.ifCond .ne 15, 3) := by decide +kernel
theorem rd_Law_law_1472 : decode mb_Law_law 1472 = .ok (.aload_n 3, 1) := by decide +kernel
theorem rd_Law_law_1473 : decode mb_Law_law 1473 = .ok (.iconst 0, 1) := by decide +kernel
theorem rd_Law_law_1474 : decode mb_Law_law 1474 = .ok (.laload, 1) := by decide +kernel
theorem rd_Law_law_1475 : decode mb_Law_law 1475 = .ok (.iload 6, 2) := by decide +kernel
theorem rd_Law_law_1477 : decode mb_Law_law 1477 = .ok (.i2l, 1) := by decide +kernel
theorem rd_Law_law_1478 : decode mb_Law_law 1478 = .ok (.lcmp, 1) := by decide +kernel
theorem rd_Law_law_1479 : decode mb_Law_law 1479 = .ok (.ifCond .eq 5, 3) := by decide +kernel
theorem rd_Law_law_1484 : decode mb_Law_law 1484 = .ok (.goto 1300, 3) := by decide +kernel
theorem rd_Law_law_1487 : decode mb_Law_law 1487 = .ok (.aload_n 1, 1) := by decide +kernel
theorem rd_Law_law_1488 : decode mb_Law_law 1488 = .ok (.aload_n 0, 1) := by decide +kernel
theorem rd_Law_law_1489 : decode mb_Law_law 1489 = .ok (.iload 4, 2) := by decide +kernel
theorem rd_Law_law_1491 : decode mb_Law_law 1491 = .ok (.iconst 1, 1) := by decide +kernel
theorem rd_Law_law_1492 : decode mb_Law_law 1492 = .ok (.iadd, 1) := by decide +kernel
theorem rd_Law_law_1493 : decode mb_Law_law 1493 = .ok (.iaload, 1) := by decide +kernel
theorem rd_Law_law_1494 : decode mb_Law_law 1494 = .ok (.aload_n 3, 1) := by decide +kernel
theorem rd_Law_law_1495 : decode mb_Law_law 1495 = .ok (.invokestatic 241, 3) := by decide +kernel
theorem rd_Law_law_1498 : decode mb_Law_law 1498 = .ok (.istore 5, 2) := by decide +kernel
theorem rd_Law_law_1500 : decode mb_Law_law 1500 = .ok (.aload_n 2, 1) := by decide +kernel
theorem rd_Law_law_1501 : decode mb_Law_law 1501 = .ok (.aload_n 0, 1) := by decide +kernel
theorem rd_Law_law_1502 : decode mb_Law_law 1502 = .ok (.iload 4, 2) := by decide +kernel
theorem rd_Law_law_1504 : decode mb_Law_law 1504 = .ok (.iconst 1, 1) := by decide +kernel
theorem rd_Law_law_1505 : decode mb_Law_law 1505 = .ok (.iadd, 1) := by decide +kernel
theorem rd_Law_law_1506 : decode mb_Law_law 1506 = .ok (.iaload, 1) := by decide +kernel
theorem rd_Law_law_1507 : decode mb_Law_law 1507 = .ok (.invokevirtual 243, 3) := by decide +kernel
theorem rd_Law_law_1510 : decode mb_Law_law 1510 = .ok (.istore 6, 2) := by decide +kernel
theorem rd_Law_law_1512 : decode mb_Law_law 1512 = .ok (.aload_n 2, 1) := by decide +kernel
theorem rd_Law_law_1513 : decode mb_Law_law 1513 = .ok (.invokevirtual 189, 3) := by decide +kernel
theorem rd_Law_law_1516 : decode mb_Law_law 1516 = .ok (.iload 5, 2) := by decide +kernel
theorem rd_Law_law_1518 : decode mb_Law_law 1518 = .ok (.if_icmp .eq 5, 3) := by decide +kernel
theorem rd_Law_law_1523 : decode mb_Law_law 1523 = .ok (.iload 5, 2) := by decide +kernel
theorem rd_Law_law_1525 : decode mb_Law_law 1525 = .ok (.ifCond .ne 15, 3) := by decide +kernel
theorem rd_Law_law_1528 : decode mb_Law_law 1528 = .ok (.aload_n 3, 1) := by decide +kernel
theorem rd_Law_law_1529 : decode mb_Law_law 1529 = .ok (.iconst 0, 1) := by decide +kernel
theorem rd_Law_law_1530 : decode mb_Law_law 1530 = .ok (.laload, 1) := by decide +kernel
theorem rd_Law_law_1531 : decode mb_Law_law 1531 = .ok (.iload 6, 2) := by decide +kernel
theorem rd_Law_law_1533 : decode mb_Law_law 1533 = .ok (.i2l, 1) := by decide +kernel
theorem rd_Law_law_1534 : decode mb_Law_law 1534 = .ok (.lcmp, 1) := by decide +kernel
theorem rd_Law_law_1535 : decode mb_Law_law 1535 = .ok (.ifCond .eq 5, 3) := by decide +kernel
theorem rd_Law_law_1540 : decode mb_Law_law 1540 = .ok (.goto 1244, 3) := by decide +kernel
theorem rd_Law_law_1543 : decode mb_Law_law 1543 = .ok (.aload_n 1, 1) := by decide +kernel
theorem rd_Law_law_1544 : decode mb_Law_law 1544 = .ok (.aload_n 0, 1) := by decide +kernel
theorem rd_Law_law_1545 : decode mb_Law_law 1545 = .ok (.iload 4, 2) := by decide +kernel
theorem rd_Law_law_1547 : decode mb_Law_law 1547 = .ok (.iconst 1, 1) := by decide +kernel
theorem rd_Law_law_1548 : decode mb_Law_law 1548 = .ok (.iadd, 1) := by decide +kernel
theorem rd_Law_law_1549 : decode mb_Law_law 1549 = .ok (.iaload, 1) := by decide +kernel
theorem rd_Law_law_1550 : decode mb_Law_law 1550 = .ok (.aload_n 3, 1) := by decide +kernel
theorem rd_Law_law_1551 : decode mb_Law_law 1551 = .ok (.invokestatic 244, 3) := by decide +kernel
theorem rd_Law_law_1554 : decode mb_Law_law 1554 = .ok (.istore 5, 2) := by decide +kernel
theorem rd_Law_law_1556 : decode mb_Law_law 1556 = .ok (.aload_n 2, 1) := by decide +kernel
theorem rd_Law_law_1557 : decode mb_Law_law 1557 = .ok (.aload_n 0, 1) := by decide +kernel
theorem rd_Law_law_1558 : decode mb_Law_law 1558 = .ok (.iload 4, 2) := by decide +kernel
theorem rd_Law_law_1560 : decode mb_Law_law 1560 = .ok (.iconst 1, 1) := by decide +kernel
theorem rd_Law_law_1561 : decode mb_Law_law 1561 = .ok (.iadd, 1) := by decide +kernel
theorem rd_Law_law_1562 : decode mb_Law_law 1562 = .ok (.iaload, 1) := by decide +kernel
theorem rd_Law_law_1563 : decode mb_Law_law 1563 = .ok (.invokevirtual 246, 3) := by decide +kernel
theorem rd_Law_law_1566 : decode mb_Law_law 1566 = .ok (.istore 6, 2) := by decide +kernel
theorem rd_Law_law_1568 : decode mb_Law_law 1568 = .ok (.aload_n 2, 1) := by decide +kernel
theorem rd_Law_law_1569 : decode mb_Law_law 1569 = .ok (.invokevirtual 189, 3) := by decide +kernel
theorem rd_Law_law_1572 : decode mb_Law_law 1572 = .ok (.iload 5, 2) := by decide +kernel
theorem rd_Law_law_1574 : decode mb_Law_law 1574 = .ok (.if_icmp .eq 5, 3) := by decide +kernel
theorem rd_Law_law_1579 : decode mb_Law_law 1579 = .ok (.iload 5, 2) := by decide +kernel
theorem rd_Law_law_1581 : decode mb_Law_law 1581 = .ok (.ifCond .ne 15, 3) := by decide +kernel
theorem rd_Law_law_1584 : decode mb_Law_law 1584 = .ok (.aload_n 3, 1) := by decide +kernel
theorem rd_Law_law_1585 : decode mb_Law_law 1585 = .ok (.iconst 0, 1) := by decide +kernel
theorem rd_Law_law_1586 : decode mb_Law_law 1586 = .ok (.laload, 1) := by decide +kernel
theorem rd_Law_law_1587 : decode mb_Law_law 1587 = .ok (.iload 6, 2) := by decide +kernel
theorem rd_Law_law_1589 : decode mb_Law_law 1589 = .ok (.i2l, 1) := by decide +kernel
theorem rd_Law_law_1590 : decode mb_Law_law 1590 = .ok (.lcmp, 1) := by decide +kernel
theorem rd_Law_law_1591 : decode mb_Law_law 1591 = .ok (.ifCond .eq 5, 3) := by decide +kernel
theorem rd_Law_law_1596 : decode mb_Law_law 1596 = .ok (.goto 1188, 3) := by decide +kernel
theorem rd_Law_law_1599 : decode mb_Law_law 1599 = .ok (.aload_n 1, 1) := by decide +kernel
theorem rd_Law_law_1600 : decode mb_Law_law 1600 = .ok (.aload_n 0, 1) := by decide +kernel
theorem rd_Law_law_1601 : decode mb_Law_law 1601 = .ok (.iload 4, 2) := by decide +kernel
theorem rd_Law_law_1603 : decode mb_Law_law 1603 = .ok (.iconst 1, 1) := by decide +kernel
theorem rd_Law_law_1604 : decode mb_Law_law 1604 = .ok (.iadd, 1) := by decide +kernel
theorem rd_Law_law_1605 : decode mb_Law_law 1605 = .ok (.iaload, 1) := by decide +kernel
theorem rd_Law_law_1606 : decode mb_Law_law 1606 = .ok (.aload_n 3, 1) := by decide +kernel
theorem rd_Law_law_1607 : decode mb_Law_law 1607 = .ok (.invokestatic 247, 3) := by decide +kernel
theorem rd_Law_law_1610 : decode mb_Law_law 1610 = .ok (.istore 5, 2) := by decide +kernel
theorem rd_Law_law_1612 : decode mb_Law_law 1612 = .ok (.aload_n 2, 1) := by decide +kernel
theorem rd_Law_law_1613 : decode mb_Law_law 1613 = .ok (.aload_n 0, 1) := by decide +kernel
theorem rd_Law_law_1614 : decode mb_Law_law 1614 = .ok (.iload 4, 2) := by decide +kernel
theorem rd_Law_law_1616 : decode mb_Law_law 1616 = .ok (.iconst 1, 1) := by decide +kernel
theorem rd_Law_law_1617 : decode mb_Law_law 1617 = .ok (.iadd, 1) := by decide +kernel
theorem rd_Law_law_1618 : decode mb_Law_law 1618 = .ok (.iaload, 1) := by decide +kernel
theorem rd_Law_law_1619 : decode mb_Law_law 1619 = .ok (.invokevirtual 249, 3) := by decide +kernel
theorem rd_Law_law_1622 : decode mb_Law_law 1622 = .ok (.istore 6, 2) := by decide +kernel
theorem rd_Law_law_1624 : decode mb_Law_law 1624 = .ok (.aload_n 2, 1) := by decide +kernel
theorem rd_Law_law_1625 : decode mb_Law_law 1625 = .ok (.invokevirtual 189, 3) := by decide +kernel
theorem rd_Law_law_1628 : decode mb_Law_law 1628 = .ok (.iload 5, 2) := by decide +kernel
theorem rd_Law_law_1630 : decode mb_Law_law 1630 = .ok (.if_icmp .eq 5, 3) := by decide +kernel
theorem rd_Law_law_1635 : decode mb_Law_law 1635 = .ok (.iload 5, 2) := by decide +kernel
theorem rd_Law_law_1637 : decode mb_Law_law 1637 = .ok (.ifCond .ne 15, 3) := by decide +kernel
theorem rd_Law_law_1640 : decode mb_Law_law 1640 = .ok (.aload_n 3, 1) := by decide +kernel
theorem rd_Law_law_1641 : decode mb_Law_law 1641 = .ok (.iconst 0, 1) := by decide +kernel
theorem rd_Law_law_1642 : decode mb_Law_law 1642 = .ok (.laload, 1) := by decide +kernel
theorem rd_Law_law_1643 : decode mb_Law_law 1643 = .ok (.iload 6, 2) := by decide +kernel
theorem rd_Law_law_1645 : decode mb_Law_law 1645 = .ok (.i2l, 1) := by decide +kernel
theorem rd_Law_law_1646 : decode mb_Law_law 1646 = .ok (.lcmp, 1) := by decide +kernel
theorem rd_Law_law_1647 : decode mb_Law_law 1647 = .ok (.ifCond .eq 5, 3) := by decide +kernel
theorem rd_Law_law_1652 : decode mb_Law_law 1652 = .ok (.goto 1132, 3) := by decide +kernel
theorem rd_Law_law_1655 : decode mb_Law_law 1655 = .ok (.aload_n 1, 1) := by decide +kernel
theorem rd_Law_law_1656 : decode mb_Law_law 1656 = .ok (.aload_n 0, 1) := by decide +kernel
theorem rd_Law_law_1657 : decode mb_Law_law 1657 = .ok (.iload 4, 2) := by decide +kernel
theorem rd_Law_law_1659 : decode mb_Law_law 1659 = .ok (.iconst 1, 1) := by decide +kernel
theorem rd_Law_law_1660 : decode mb_Law_law 1660 = .ok (.iadd, 1) := by decide +kernel
theorem rd_Law_law_1661 : decode mb_Law_law 1661 = .ok (.iaload, 1) := by decide +kernel
theorem rd_Law_law_1662 : decode mb_Law_law 1662 = .ok (.aload_n 3, 1) := by decide +kernel
theorem rd_Law_law_1663 : decode mb_Law_law 1663 = .ok (.invokestatic 250, 3) := by decide +kernel
theorem rd_Law_law_1666 : decode mb_Law_law 1666 = .ok (.istore 5, 2) := by decide +kernel
theorem rd_Law_law_1668 : decode mb_Law_law 1668 = .ok (.aload_n 2, 1) := by decide +kernel
theorem rd_Law_law_1669 : decode mb_Law_law 1669 = .ok (.aload_n 0, 1) := by decide +kernel
theorem rd_Law_law_1670 : decode mb_Law_law 1670 = .ok (.iload 4, 2) := by decide +kernel
theorem rd_Law_law_1672 : decode mb_Law_law 1672 = .ok (.iconst 1, 1) := by decide +kernel
theorem rd_Law_law_1673 : decode mb_Law_law 1673 = .ok (.iadd, 1) := by decide +kernel
theorem rd_Law_law_1674 : decode mb_Law_law 1674 = .ok (.iaload, 1) := by decide +kernel
theorem rd_Law_law_1675 : decode mb_Law_law 1675 = .ok (.invokevirtual 252, 3) := by decide +kernel
theorem rd_Law_law_1678 : decode mb_Law_law 1678 = .ok (.istore 6, 2) := by decide +kernel
theorem rd_Law_law_1680 : decode mb_Law_law 1680 = .ok (.aload_n 2, 1) := by decide +kernel
theorem rd_Law_law_1681 : decode mb_Law_law 1681 = .ok (.invokevirtual 189, 3) := by decide +kernel
theorem rd_Law_law_1684 : decode mb_Law_law 1684 = .ok (.iload 5, 2) := by decide +kernel
theorem rd_Law_law_1686 : decode mb_Law_law 1686 = .ok (.if_icmp .eq 5, 3) := by decide +kernel
theorem rd_Law_law_1691 : decode mb_Law_law 1691 = .ok (.iload 5, 2) := by decide +kernel
theorem rd_Law_law_1693 : decode mb_Law_law 1693 = .ok (.ifCond .ne 15, 3) := by decide +kernel
theorem rd_Law_law_1696 : decode mb_Law_law 1696 = .ok (.aload_n 3, 1) := by decide +kernel
theorem rd_Law_law_1697 : decode mb_Law_law 1697 = .ok (.iconst 0, 1) := by decide +kernel
theorem rd_Law_law_1698 : decode mb_Law_law 1698 = .ok (.laload, 1) := by decide +kernel
theorem rd_Law_law_1699 : decode mb_Law_law 1699 = .ok (.iload 6, 2) := by decide +kernel
theorem rd_Law_law_1701 : decode mb_Law_law 1701 = .ok (.i2l, 1) := by decide +kernel
theorem rd_Law_law_1702 : decode mb_Law_law 1702 = .ok (.lcmp, 1) := by decide +kernel
theorem rd_Law_law_1703 : decode mb_Law_law 1703 = .ok (.ifCond .eq 5, 3) := by decide +kernel
theorem rd_Law_law_1708 : decode mb_Law_law 1708 = .ok (.goto 1076, 3) := by decide +kernel
theorem rd_Law_law_1711 : decode mb_Law_law 1711 = .ok (.aload_n 1, 1) := by decide +kernel
theorem rd_Law_law_1712 : decode mb_Law_law 1712 = .ok (.aload_n 0, 1) := by decide +kernel
theorem rd_Law_law_1713 : decode mb_Law_law 1713 = .ok (.iload 4, 2) := by decide +kernel
theorem rd_Law_law_1715 : decode mb_Law_law 1715 = .ok (.iconst 1, 1) := by decide +kernel
theorem rd_Law_law_1716 : decode mb_Law_law 1716 = .ok (.iadd, 1) := by decide +kernel
theorem rd_Law_law_1717 : decode mb_Law_law 1717 = .ok (.iaload, 1) := by decide +kernel
theorem rd_Law_law_1718 : decode mb_Law_law 1718 = .ok (.aload_n 3, 1) := by decide +kernel
theorem rd_Law_law_1719 : decode mb_Law_law 1719 = .ok (.invokestatic 253, 3) := by decide +kernel
theorem rd_Law_law_1722 : decode mb_Law_law 1722 = .ok (.istore 5, 2) := by decide +kernel
theorem rd_Law_law_1724 : decode mb_Law_law 1724 = .ok (.aload_n 2, 1) := by decide +kernel
theorem rd_Law_law_1725 : decode mb_Law_law 1725 = .ok (.aload_n 0, 1) := by decide +kernel
theorem rd_Law_law_1726 : decode mb_Law_law 1726 = .ok (.iload 4, 2) := by decide +kernel
theorem rd_Law_law_1728 : decode mb_Law_law 1728 = .ok (.iconst 1, 1) := by decide +kernel
theorem rd_Law_law_1729 : decode mb_Law_law 1729 = .ok (.iadd, 1) := by decide +kernel
theorem rd_Law_law_1730 : decode mb_Law_law 1730 = .ok (.iaload, 1) := by decide +kernel
theorem rd_Law_law_1731 : decode mb_Law_law 1731 = .ok (.invokevirtual 255, 3) := by decide +kernel
theorem rd_Law_law_1734 : decode mb_Law_law 1734 = .ok (.istore 6, 2) := by decide +kernel
theorem rd_Law_law_1736 : decode mb_Law_law 1736 = .ok (.aload_n 2, 1) := by decide +kernel
theorem rd_Law_law_1737 : decode mb_Law_law 1737 = .ok (.invokevirtual 189, 3) := by decide +kernel
theorem rd_Law_law_1740 : decode mb_Law_law 1740 = .ok (.iload 5, 2) := by decide +kernel
theorem rd_Law_law_1742 : decode mb_Law_law 1742 = .ok (.if_icmp .eq 5, 3) := by decide +kernel
theorem rd_Law_law_1747 : decode mb_Law_law 1747 = .ok (.iload 5, 2) := by decide +kernel
theorem rd_Law_law_1749 : decode mb_Law_law 1749 = .ok (.ifCond .ne 15, 3) := by decide +kernel
theorem rd_Law_law_1752 : decode mb_Law_law 1752 = .ok (.aload_n 3, 1) := by decide +kernel
theorem rd_Law_law_1753 : decode mb_Law_law 1753 = .ok (.iconst 0, 1) := by decide +kernel
theorem rd_Law_law_1754 : decode mb_Law_law 1754 = .ok (.laload, 1) := by decide +kernel
theorem rd_Law_law_1755 : decode mb_Law_law 1755 = .ok (.iload 6, 2) := by decide +kernel
theorem rd_Law_law_1757 : decode mb_Law_law 1757 = .ok (.i2l, 1) := by decide +kernel
theorem rd_Law_law_1758 : decode mb_Law_law 1758 = .ok (.lcmp, 1) := by decide +kernel
theorem rd_Law_law_1759 : decode mb_Law_law 1759 = .ok (.ifCond .eq 5, 3) := by decide +kernel
theorem rd_Law_law_1764 : decode mb_Law_law 1764 = .ok (.goto 1020, 3) := by decide +kernel
theorem rd_Law_law_1767 : decode mb_Law_law 1767 = .ok (.aload_n 1, 1) := by decide +kernel
theorem rd_Law_law_1768 : decode mb_Law_law 1768 = .ok (.aload_n 0, 1) := by decide +kernel
theorem rd_Law_law_1769 : decode mb_Law_law 1769 = .ok (.iload 4, 2) := by decide +kernel
theorem rd_Law_law_1771 : decode mb_Law_law 1771 = .ok (.iconst 1, 1) := by decide +kernel
theorem rd_Law_law_1772 : decode mb_Law_law 1772 = .ok (.iadd, 1) := by decide +kernel
theorem rd_Law_law_1773 : decode mb_Law_law 1773 = .ok (.iaload, 1) := by decide +kernel
theorem rd_Law_law_1774 : decode mb_Law_law 1774 = .ok (.aload_n 3, 1) := by decide +kernel
theorem rd_Law_law_1775 : decode mb_Law_law 1775 = .ok (.invokestatic 256, 3) := by decide +kernel
theorem rd_Law_law_1778 : decode mb_Law_law 1778 = .ok (.istore 5, 2) := by decide +kernel
theorem rd_Law_law_1780 : decode mb_Law_law 1780 = .ok (.aload_n 2, 1) := by decide +kernel
theorem rd_Law_law_1781 : decode mb_Law_law 1781 = .ok (.aload_n 0, 1) := by decide +kernel
theorem rd_Law_law_1782 : decode mb_Law_law 1782 = .ok (.iload 4, 2) := by decide +kernel
theorem rd_Law_law_1784 : decode mb_Law_law 1784 = .ok (.iconst 1, 1) := by decide +kernel
theorem rd_Law_law_1785 : decode mb_Law_law 1785 = .ok (.iadd, 1) := by decide +kernel
theorem rd_Law_law_1786 : decode mb_Law_law 1786 = .ok (.iaload, 1) := by decide +kernel
theorem rd_Law_law_1787 : decode mb_Law_law 1787 = .ok (.invokevirtual 258, 3) := by decide +kernel
theorem rd_Law_law_1790 : decode mb_Law_law 1790 = .ok (.istore 6, 2) := by decide +kernel
theorem rd_Law_law_1792 : decode mb_Law_law 1792 = .ok (.aload_n 2, 1) := by decide +kernel
theorem rd_Law_law_1793 : decode mb_Law_law 1793 = .ok (.invokevirtual 189, 3) := by decide +kernel
theorem rd_Law_law_1796 : decode mb_Law_law 1796 = .ok (.iload 5, 2) := by decide +kernel
theorem rd_Law_law_1798 : decode mb_Law_law 1798 = .ok (.if_icmp .eq 5, 3) := by decide +kernel
theorem rd_Law_law_1803 : decode mb_Law_law 1803 = .ok (.iload 5, 2) := by decide +kernel
theorem rd_Law_law_1805 : decode mb_Law_law 1805 = .ok (.ifCond .ne 15, 3) := by decide +kernel
theorem rd_Law_law_1808 : decode mb_Law_law 1808 = .ok (.aload_n 3, 1) := by decide +kernel
theorem rd_Law_law_1809 : decode mb_Law_law 1809 = .ok (.iconst 0, 1) := by decide +kernel
theorem rd_Law_law_1810 : decode mb_Law_law 1810 = .ok (.laload, 1) := by decide +kernel
theorem rd_Law_law_1811 : decode mb_Law_law 1811 = .ok (.iload 6, 2) := by decide +kernel
theorem rd_Law_law_1813 : decode mb_Law_law 1813 = .ok (.i2l, 1) := by decide +kernel
theorem rd_Law_law_1814 : decode mb_Law_law 1814 = .ok (.lcmp, 1) := by decide +kernel
theorem rd_Law_law_1815 : decode mb_Law_law 1815 = .ok (.ifCond .eq 5, 3) := by decide +kernel
