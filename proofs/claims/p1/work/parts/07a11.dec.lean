theorem d_law_1503 : decode code 1503 = .ok (.iload 5, 2) := by decide +kernel
theorem d_law_1505 : decode code 1505 = .ok (.iconst 1, 1) := by decide +kernel
theorem d_law_1506 : decode code 1506 = .ok (.iadd, 1) := by decide +kernel
theorem d_law_1507 : decode code 1507 = .ok (.iaload, 1) := by decide +kernel
theorem d_law_1508 : decode code 1508 = .ok (.invokevirtual 237, 3) := by decide +kernel
theorem d_law_1511 : decode code 1511 = .ok (.if_icmp .eq 1561, 3) := by decide +kernel
theorem d_law_1516 : decode code 1516 = .ok (.aload_n 1, 1) := by decide +kernel
theorem d_law_1517 : decode code 1517 = .ok (.aload_n 0, 1) := by decide +kernel
theorem d_law_1518 : decode code 1518 = .ok (.iload 5, 2) := by decide +kernel
theorem d_law_1520 : decode code 1520 = .ok (.iconst 1, 1) := by decide +kernel
theorem d_law_1521 : decode code 1521 = .ok (.iadd, 1) := by decide +kernel
theorem d_law_1522 : decode code 1522 = .ok (.iaload, 1) := by decide +kernel
theorem d_law_1523 : decode code 1523 = .ok (.aload_n 3, 1) := by decide +kernel
theorem d_law_1524 : decode code 1524 = .ok (.invokestatic 238, 3) := by decide +kernel
theorem d_law_1527 : decode code 1527 = .ok (.istore 6, 2) := by decide +kernel
theorem d_law_1529 : decode code 1529 = .ok (.aload_n 2, 1) := by decide +kernel
theorem d_law_1530 : decode code 1530 = .ok (.aload_n 0, 1) := by decide +kernel
theorem d_law_1531 : decode code 1531 = .ok (.iload 5, 2) := by decide +kernel
theorem d_law_1533 : decode code 1533 = .ok (.iconst 1, 1) := by decide +kernel
theorem d_law_1534 : decode code 1534 = .ok (.iadd, 1) := by decide +kernel
theorem d_law_1535 : decode code 1535 = .ok (.iaload, 1) := by decide +kernel
theorem d_law_1536 : decode code 1536 = .ok (.invokevirtual 240, 3) := by decide +kernel
theorem d_law_1539 : decode code 1539 = .ok (.istore 7, 2) := by decide +kernel
theorem d_law_1541 : decode code 1541 = .ok (.aload_n 2, 1) := by decide +kernel
theorem d_law_1542 : decode code 1542 = .ok (.invokevirtual 160, 3) := by decide +kernel
theorem d_law_1545 : decode code 1545 = .ok (.iload 6, 2) := by decide +kernel
theorem d_law_1547 : decode code 1547 = .ok (.if_icmp .eq 5, 3) := by decide +kernel
theorem d_law_1552 : decode code 1552 = .ok (.iload 6, 2) := by decide +kernel
theorem d_law_1554 : decode code 1554 = .ok (.ifCond .ne 15, 3) := by decide +kernel
theorem d_law_1569 : decode code 1569 = .ok (.goto 1503, 3) := by decide +kernel
theorem d_law_1572 : decode code 1572 = .ok (.aload_n 1, 1) := by decide +kernel
theorem d_law_1573 : decode code 1573 = .ok (.aload_n 0, 1) := by decide +kernel
theorem d_law_1574 : decode code 1574 = .ok (.iload 5, 2) := by decide +kernel
theorem d_law_1576 : decode code 1576 = .ok (.iconst 1, 1) := by decide +kernel
theorem d_law_1577 : decode code 1577 = .ok (.iadd, 1) := by decide +kernel
theorem d_law_1578 : decode code 1578 = .ok (.iaload, 1) := by decide +kernel
theorem d_law_1579 : decode code 1579 = .ok (.aload_n 0, 1) := by decide +kernel
theorem d_law_1580 : decode code 1580 = .ok (.iload 5, 2) := by decide +kernel
theorem d_law_1582 : decode code 1582 = .ok (.iconst 2, 1) := by decide +kernel
theorem d_law_1583 : decode code 1583 = .ok (.iadd, 1) := by decide +kernel
theorem d_law_1584 : decode code 1584 = .ok (.iaload, 1) := by decide +kernel
theorem d_law_1585 : decode code 1585 = .ok (.aload_n 3, 1) := by decide +kernel
theorem d_law_1586 : decode code 1586 = .ok (.invokestatic 241, 3) := by decide +kernel
theorem d_law_1589 : decode code 1589 = .ok (.istore 6, 2) := by decide +kernel
theorem d_law_1591 : decode code 1591 = .ok (.aload_n 2, 1) := by decide +kernel
theorem d_law_1592 : decode code 1592 = .ok (.aload_n 0, 1) := by decide +kernel
theorem d_law_1593 : decode code 1593 = .ok (.iload 5, 2) := by decide +kernel
theorem d_law_1595 : decode code 1595 = .ok (.iconst 1, 1) := by decide +kernel
theorem d_law_1596 : decode code 1596 = .ok (.iadd, 1) := by decide +kernel
theorem d_law_1597 : decode code 1597 = .ok (.iaload, 1) := by decide +kernel
theorem d_law_1598 : decode code 1598 = .ok (.aload_n 0, 1) := by decide +kernel
theorem d_law_1599 : decode code 1599 = .ok (.iload 5, 2) := by decide +kernel
theorem d_law_1601 : decode code 1601 = .ok (.iconst 2, 1) := by decide +kernel
theorem d_law_1602 : decode code 1602 = .ok (.iadd, 1) := by decide +kernel
theorem d_law_1603 : decode code 1603 = .ok (.iaload, 1) := by decide +kernel
theorem d_law_1604 : decode code 1604 = .ok (.invokevirtual 243, 3) := by decide +kernel
theorem d_law_1607 : decode code 1607 = .ok (.istore 7, 2) := by decide +kernel
theorem d_law_1609 : decode code 1609 = .ok (.aload_n 2, 1) := by decide +kernel
theorem d_law_1610 : decode code 1610 = .ok (.invokevirtual 160, 3) := by decide +kernel
theorem d_law_1613 : decode code 1613 = .ok (.iload 6, 2) := by decide +kernel
theorem d_law_1615 : decode code 1615 = .ok (.if_icmp .eq 5, 3) := by decide +kernel
theorem d_law_1620 : decode code 1620 = .ok (.iload 6, 2) := by decide +kernel
theorem d_law_1622 : decode code 1622 = .ok (.ifCond .ne 15, 3) := by decide +kernel
theorem d_law_1637 : decode code 1637 = .ok (.goto 1435, 3) := by decide +kernel
theorem d_law_1640 : decode code 1640 = .ok (.aload_n 1, 1) := by decide +kernel
theorem d_law_1641 : decode code 1641 = .ok (.invokevirtual 244, 3) := by decide +kernel
theorem d_law_1644 : decode code 1644 = .ok (.aload_n 2, 1) := by decide +kernel
theorem d_law_1645 : decode code 1645 = .ok (.invokevirtual 247, 3) := by decide +kernel
theorem d_law_1648 : decode code 1648 = .ok (.if_icmp .eq 1424, 3) := by decide +kernel
theorem d_law_1653 : decode code 1653 = .ok (.aload_n 1, 1) := by decide +kernel
theorem d_law_1654 : decode code 1654 = .ok (.aload_n 0, 1) := by decide +kernel
theorem d_law_1655 : decode code 1655 = .ok (.iload 5, 2) := by decide +kernel
theorem d_law_1657 : decode code 1657 = .ok (.iconst 1, 1) := by decide +kernel
theorem d_law_1658 : decode code 1658 = .ok (.iadd, 1) := by decide +kernel
theorem d_law_1659 : decode code 1659 = .ok (.iaload, 1) := by decide +kernel
theorem d_law_1660 : decode code 1660 = .ok (.aload_n 0, 1) := by decide +kernel
theorem d_law_1661 : decode code 1661 = .ok (.iload 5, 2) := by decide +kernel
theorem d_law_1663 : decode code 1663 = .ok (.iconst 2, 1) := by decide +kernel
theorem d_law_1664 : decode code 1664 = .ok (.iadd, 1) := by decide +kernel
theorem d_law_1665 : decode code 1665 = .ok (.iaload, 1) := by decide +kernel
theorem d_law_1666 : decode code 1666 = .ok (.aload_n 3, 1) := by decide +kernel
theorem d_law_1667 : decode code 1667 = .ok (.invokestatic 248, 3) := by decide +kernel
theorem d_law_1670 : decode code 1670 = .ok (.istore 6, 2) := by decide +kernel
theorem d_law_1672 : decode code 1672 = .ok (.aload_n 2, 1) := by decide +kernel
theorem d_law_1673 : decode code 1673 = .ok (.aload_n 0, 1) := by decide +kernel
theorem d_law_1674 : decode code 1674 = .ok (.iload 5, 2) := by decide +kernel
theorem d_law_1676 : decode code 1676 = .ok (.iconst 1, 1) := by decide +kernel
theorem d_law_1677 : decode code 1677 = .ok (.iadd, 1) := by decide +kernel
theorem d_law_1678 : decode code 1678 = .ok (.iaload, 1) := by decide +kernel
theorem d_law_1679 : decode code 1679 = .ok (.aload_n 0, 1) := by decide +kernel
theorem d_law_1680 : decode code 1680 = .ok (.iload 5, 2) := by decide +kernel
theorem d_law_1682 : decode code 1682 = .ok (.iconst 2, 1) := by decide +kernel
theorem d_law_1683 : decode code 1683 = .ok (.iadd, 1) := by decide +kernel
theorem d_law_1684 : decode code 1684 = .ok (.iaload, 1) := by decide +kernel
theorem d_law_1685 : decode code 1685 = .ok (.invokevirtual 250, 3) := by decide +kernel
theorem d_law_1688 : decode code 1688 = .ok (.istore 7, 2) := by decide +kernel
theorem d_law_1690 : decode code 1690 = .ok (.aload_n 2, 1) := by decide +kernel
theorem d_law_1691 : decode code 1691 = .ok (.invokevirtual 160, 3) := by decide +kernel
theorem d_law_1694 : decode code 1694 = .ok (.iload 6, 2) := by decide +kernel
theorem d_law_1696 : decode code 1696 = .ok (.if_icmp .eq 5, 3) := by decide +kernel
theorem d_law_1701 : decode code 1701 = .ok (.iload 6, 2) := by decide +kernel
theorem d_law_1703 : decode code 1703 = .ok (.ifCond .ne 15, 3) := by decide +kernel
theorem d_law_1718 : decode code 1718 = .ok (.goto 1354, 3) := by decide +kernel
theorem d_law_1721 : decode code 1721 = .ok (.aload_n 1, 1) := by decide +kernel
theorem d_law_1722 : decode code 1722 = .ok (.invokevirtual 251, 3) := by decide +kernel
theorem d_law_1725 : decode code 1725 = .ok (.aload_n 2, 1) := by decide +kernel
theorem d_law_1726 : decode code 1726 = .ok (.invokevirtual 254, 3) := by decide +kernel
theorem d_law_1729 : decode code 1729 = .ok (.if_icmp .eq 1343, 3) := by decide +kernel
theorem d_law_1734 : decode code 1734 = .ok (.aload_n 1, 1) := by decide +kernel
theorem d_law_1735 : decode code 1735 = .ok (.invokevirtual 255, 3) := by decide +kernel
theorem d_law_1738 : decode code 1738 = .ok (.aload_n 2, 1) := by decide +kernel
theorem d_law_1739 : decode code 1739 = .ok (.invokevirtual 258, 3) := by decide +kernel
theorem d_law_1742 : decode code 1742 = .ok (.if_icmp .eq 1330, 3) := by decide +kernel
theorem d_law_1747 : decode code 1747 = .ok (.aload_n 1, 1) := by decide +kernel
theorem d_law_1748 : decode code 1748 = .ok (.aload_n 0, 1) := by decide +kernel
theorem d_law_1749 : decode code 1749 = .ok (.iload 5, 2) := by decide +kernel
theorem d_law_1751 : decode code 1751 = .ok (.iconst 1, 1) := by decide +kernel
theorem d_law_1752 : decode code 1752 = .ok (.iadd, 1) := by decide +kernel
theorem d_law_1753 : decode code 1753 = .ok (.iaload, 1) := by decide +kernel
theorem d_law_1754 : decode code 1754 = .ok (.aload_n 3, 1) := by decide +kernel
theorem d_law_1755 : decode code 1755 = .ok (.invokestatic 259, 3) := by decide +kernel
theorem d_law_1758 : decode code 1758 = .ok (.istore 6, 2) := by decide +kernel
theorem d_law_1760 : decode code 1760 = .ok (.aload_n 2, 1) := by decide +kernel
theorem d_law_1761 : decode code 1761 = .ok (.aload_n 0, 1) := by decide +kernel
theorem d_law_1762 : decode code 1762 = .ok (.iload 5, 2) := by decide +kernel
theorem d_law_1764 : decode code 1764 = .ok (.iconst 1, 1) := by decide +kernel
theorem d_law_1765 : decode code 1765 = .ok (.iadd, 1) := by decide +kernel
theorem d_law_1766 : decode code 1766 = .ok (.iaload, 1) := by decide +kernel
theorem d_law_1767 : decode code 1767 = .ok (.invokevirtual 261, 3) := by decide +kernel
theorem d_law_1770 : decode code 1770 = .ok (.istore 7, 2) := by decide +kernel
theorem d_law_1772 : decode code 1772 = .ok (.aload_n 2, 1) := by decide +kernel
theorem d_law_1773 : decode code 1773 = .ok (.invokevirtual 160, 3) := by decide +kernel
theorem d_law_1776 : decode code 1776 = .ok (.iload 6, 2) := by decide +kernel
theorem d_law_1778 : decode code 1778 = .ok (.if_icmp .eq 5, 3) := by decide +kernel
theorem d_law_1783 : decode code 1783 = .ok (.iload 6, 2) := by decide +kernel
theorem d_law_1785 : decode code 1785 = .ok (.ifCond .ne 15, 3) := by decide +kernel
theorem d_law_1800 : decode code 1800 = .ok (.goto 1272, 3) := by decide +kernel
theorem d_law_1803 : decode code 1803 = .ok (.aload_n 1, 1) := by decide +kernel
theorem d_law_1804 : decode code 1804 = .ok (.invokevirtual 262, 3) := by decide +kernel
theorem d_law_1807 : decode code 1807 = .ok (.aload_n 2, 1) := by decide +kernel
theorem d_law_1808 : decode code 1808 = .ok (.invokevirtual 266, 3) := by decide +kernel
theorem d_law_1811 : decode code 1811 = .ok (.lcmp, 1) := by decide +kernel
theorem d_law_1812 : decode code 1812 = .ok (.ifCond .eq 1260, 3) := by decide +kernel
theorem d_law_1817 : decode code 1817 = .ok (.aload_n 1, 1) := by decide +kernel
theorem d_law_1818 : decode code 1818 = .ok (.aload_n 0, 1) := by decide +kernel
theorem d_law_1819 : decode code 1819 = .ok (.iload 5, 2) := by decide +kernel
theorem d_law_1821 : decode code 1821 = .ok (.iconst 1, 1) := by decide +kernel
theorem d_law_1822 : decode code 1822 = .ok (.iadd, 1) := by decide +kernel
theorem d_law_1823 : decode code 1823 = .ok (.iaload, 1) := by decide +kernel
theorem d_law_1824 : decode code 1824 = .ok (.aload_n 3, 1) := by decide +kernel
