theorem dL_law__1551 : decode cL_law_ 1551 = .ok (.iload 5, 2) := by decide +kernel
theorem dL_law__1553 : decode cL_law_ 1553 = .ok (.ifCond .ne 15, 3) := by decide +kernel
theorem dL_law__1556 : decode cL_law_ 1556 = .ok (.aload_n 3, 1) := by decide +kernel
theorem dL_law__1557 : decode cL_law_ 1557 = .ok (.iconst 0, 1) := by decide +kernel
theorem dL_law__1558 : decode cL_law_ 1558 = .ok (.laload, 1) := by decide +kernel
theorem dL_law__1559 : decode cL_law_ 1559 = .ok (.iload 6, 2) := by decide +kernel
theorem dL_law__1561 : decode cL_law_ 1561 = .ok (.i2l, 1) := by decide +kernel
theorem dL_law__1562 : decode cL_law_ 1562 = .ok (.lcmp, 1) := by decide +kernel
theorem dL_law__1563 : decode cL_law_ 1563 = .ok (.ifCond .eq 5, 3) := by decide +kernel
theorem dL_law__1566 : decode cL_law_ 1566 = .ok (.iconst 0, 1) := by decide +kernel
theorem dL_law__1567 : decode cL_law_ 1567 = .ok (.ireturn, 1) := by decide +kernel
theorem dL_law__1568 : decode cL_law_ 1568 = .ok (.goto 1366, 3) := by decide +kernel
theorem dL_law__1571 : decode cL_law_ 1571 = .ok (.aload_n 1, 1) := by decide +kernel
theorem dL_law__1572 : decode cL_law_ 1572 = .ok (.aload_n 0, 1) := by decide +kernel
theorem dL_law__1573 : decode cL_law_ 1573 = .ok (.iload 4, 2) := by decide +kernel
theorem dL_law__1575 : decode cL_law_ 1575 = .ok (.iconst 1, 1) := by decide +kernel
theorem dL_law__1576 : decode cL_law_ 1576 = .ok (.iadd, 1) := by decide +kernel
theorem dL_law__1577 : decode cL_law_ 1577 = .ok (.iaload, 1) := by decide +kernel
theorem dL_law__1578 : decode cL_law_ 1578 = .ok (.aload_n 0, 1) := by decide +kernel
theorem dL_law__1579 : decode cL_law_ 1579 = .ok (.iload 4, 2) := by decide +kernel
theorem dL_law__1581 : decode cL_law_ 1581 = .ok (.iconst 2, 1) := by decide +kernel
theorem dL_law__1582 : decode cL_law_ 1582 = .ok (.iadd, 1) := by decide +kernel
theorem dL_law__1583 : decode cL_law_ 1583 = .ok (.iaload, 1) := by decide +kernel
theorem dL_law__1584 : decode cL_law_ 1584 = .ok (.aload_n 3, 1) := by decide +kernel
theorem dL_law__1585 : decode cL_law_ 1585 = .ok (.invokestatic 208, 3) := by decide +kernel
theorem dL_law__1588 : decode cL_law_ 1588 = .ok (.istore 5, 2) := by decide +kernel
theorem dL_law__1590 : decode cL_law_ 1590 = .ok (.aload_n 2, 1) := by decide +kernel
theorem dL_law__1591 : decode cL_law_ 1591 = .ok (.aload_n 0, 1) := by decide +kernel
theorem dL_law__1592 : decode cL_law_ 1592 = .ok (.iload 4, 2) := by decide +kernel
theorem dL_law__1594 : decode cL_law_ 1594 = .ok (.iconst 1, 1) := by decide +kernel
theorem dL_law__1595 : decode cL_law_ 1595 = .ok (.iadd, 1) := by decide +kernel
theorem dL_law__1596 : decode cL_law_ 1596 = .ok (.iaload, 1) := by decide +kernel
theorem dL_law__1597 : decode cL_law_ 1597 = .ok (.aload_n 0, 1) := by decide +kernel
theorem dL_law__1598 : decode cL_law_ 1598 = .ok (.iload 4, 2) := by decide +kernel
theorem dL_law__1600 : decode cL_law_ 1600 = .ok (.iconst 2, 1) := by decide +kernel
theorem dL_law__1601 : decode cL_law_ 1601 = .ok (.iadd, 1) := by decide +kernel
theorem dL_law__1602 : decode cL_law_ 1602 = .ok (.iaload, 1) := by decide +kernel
theorem dL_law__1603 : decode cL_law_ 1603 = .ok (.invokevirtual 210, 3) := by decide +kernel
theorem dL_law__1606 : decode cL_law_ 1606 = .ok (.istore 6, 2) := by decide +kernel
theorem dL_law__1608 : decode cL_law_ 1608 = .ok (.aload_n 2, 1) := by decide +kernel
theorem dL_law__1609 : decode cL_law_ 1609 = .ok (.invokevirtual 147, 3) := by decide +kernel
theorem dL_law__1612 : decode cL_law_ 1612 = .ok (.iload 5, 2) := by decide +kernel
theorem dL_law__1614 : decode cL_law_ 1614 = .ok (.if_icmp .eq 5, 3) := by decide +kernel
theorem dL_law__1617 : decode cL_law_ 1617 = .ok (.iconst 0, 1) := by decide +kernel
theorem dL_law__1618 : decode cL_law_ 1618 = .ok (.ireturn, 1) := by decide +kernel
theorem dL_law__1619 : decode cL_law_ 1619 = .ok (.iload 5, 2) := by decide +kernel
theorem dL_law__1621 : decode cL_law_ 1621 = .ok (.ifCond .ne 15, 3) := by decide +kernel
theorem dL_law__1624 : decode cL_law_ 1624 = .ok (.aload_n 3, 1) := by decide +kernel
theorem dL_law__1625 : decode cL_law_ 1625 = .ok (.iconst 0, 1) := by decide +kernel
theorem dL_law__1626 : decode cL_law_ 1626 = .ok (.laload, 1) := by decide +kernel
theorem dL_law__1627 : decode cL_law_ 1627 = .ok (.iload 6, 2) := by decide +kernel
theorem dL_law__1629 : decode cL_law_ 1629 = .ok (.i2l, 1) := by decide +kernel
theorem dL_law__1630 : decode cL_law_ 1630 = .ok (.lcmp, 1) := by decide +kernel
theorem dL_law__1631 : decode cL_law_ 1631 = .ok (.ifCond .eq 5, 3) := by decide +kernel
theorem dL_law__1634 : decode cL_law_ 1634 = .ok (.iconst 0, 1) := by decide +kernel
theorem dL_law__1635 : decode cL_law_ 1635 = .ok (.ireturn, 1) := by decide +kernel
theorem dL_law__1636 : decode cL_law_ 1636 = .ok (.goto 1298, 3) := by decide +kernel
theorem dL_law__1639 : decode cL_law_ 1639 = .ok (.aload_n 1, 1) := by decide +kernel
theorem dL_law__1640 : decode cL_law_ 1640 = .ok (.aload_n 0, 1) := by decide +kernel
theorem dL_law__1641 : decode cL_law_ 1641 = .ok (.iload 4, 2) := by decide +kernel
theorem dL_law__1643 : decode cL_law_ 1643 = .ok (.iconst 1, 1) := by decide +kernel
theorem dL_law__1644 : decode cL_law_ 1644 = .ok (.iadd, 1) := by decide +kernel
theorem dL_law__1645 : decode cL_law_ 1645 = .ok (.iaload, 1) := by decide +kernel
theorem dL_law__1646 : decode cL_law_ 1646 = .ok (.aload_n 0, 1) := by decide +kernel
theorem dL_law__1647 : decode cL_law_ 1647 = .ok (.iload 4, 2) := by decide +kernel
theorem dL_law__1649 : decode cL_law_ 1649 = .ok (.iconst 2, 1) := by decide +kernel
theorem dL_law__1650 : decode cL_law_ 1650 = .ok (.iadd, 1) := by decide +kernel
theorem dL_law__1651 : decode cL_law_ 1651 = .ok (.iaload, 1) := by decide +kernel
theorem dL_law__1652 : decode cL_law_ 1652 = .ok (.aload_n 3, 1) := by decide +kernel
theorem dL_law__1653 : decode cL_law_ 1653 = .ok (.invokestatic 211, 3) := by decide +kernel
theorem dL_law__1656 : decode cL_law_ 1656 = .ok (.istore 5, 2) := by decide +kernel
theorem dL_law__1658 : decode cL_law_ 1658 = .ok (.aload_n 2, 1) := by decide +kernel
theorem dL_law__1659 : decode cL_law_ 1659 = .ok (.aload_n 0, 1) := by decide +kernel
theorem dL_law__1660 : decode cL_law_ 1660 = .ok (.iload 4, 2) := by decide +kernel
theorem dL_law__1662 : decode cL_law_ 1662 = .ok (.iconst 1, 1) := by decide +kernel
theorem dL_law__1663 : decode cL_law_ 1663 = .ok (.iadd, 1) := by decide +kernel
theorem dL_law__1664 : decode cL_law_ 1664 = .ok (.iaload, 1) := by decide +kernel
theorem dL_law__1665 : decode cL_law_ 1665 = .ok (.aload_n 0, 1) := by decide +kernel
theorem dL_law__1666 : decode cL_law_ 1666 = .ok (.iload 4, 2) := by decide +kernel
theorem dL_law__1668 : decode cL_law_ 1668 = .ok (.iconst 2, 1) := by decide +kernel
theorem dL_law__1669 : decode cL_law_ 1669 = .ok (.iadd, 1) := by decide +kernel
theorem dL_law__1670 : decode cL_law_ 1670 = .ok (.iaload, 1) := by decide +kernel
theorem dL_law__1671 : decode cL_law_ 1671 = .ok (.invokevirtual 213, 3) := by decide +kernel
theorem dL_law__1674 : decode cL_law_ 1674 = .ok (.istore 6, 2) := by decide +kernel
theorem dL_law__1676 : decode cL_law_ 1676 = .ok (.aload_n 2, 1) := by decide +kernel
theorem dL_law__1677 : decode cL_law_ 1677 = .ok (.invokevirtual 147, 3) := by decide +kernel
theorem dL_law__1680 : decode cL_law_ 1680 = .ok (.iload 5, 2) := by decide +kernel
theorem dL_law__1682 : decode cL_law_ 1682 = .ok (.if_icmp .eq 5, 3) := by decide +kernel
theorem dL_law__1685 : decode cL_law_ 1685 = .ok (.iconst 0, 1) := by decide +kernel
theorem dL_law__1686 : decode cL_law_ 1686 = .ok (.ireturn, 1) := by decide +kernel
theorem dL_law__1687 : decode cL_law_ 1687 = .ok (.iload 5, 2) := by decide +kernel
theorem dL_law__1689 : decode cL_law_ 1689 = .ok (.ifCond .ne 15, 3) := by decide +kernel
theorem dL_law__1692 : decode cL_law_ 1692 = .ok (.aload_n 3, 1) := by decide +kernel
theorem dL_law__1693 : decode cL_law_ 1693 = .ok (.iconst 0, 1) := by decide +kernel
theorem dL_law__1694 : decode cL_law_ 1694 = .ok (.laload, 1) := by decide +kernel
theorem dL_law__1695 : decode cL_law_ 1695 = .ok (.iload 6, 2) := by decide +kernel
theorem dL_law__1697 : decode cL_law_ 1697 = .ok (.i2l, 1) := by decide +kernel
theorem dL_law__1698 : decode cL_law_ 1698 = .ok (.lcmp, 1) := by decide +kernel
theorem dL_law__1699 : decode cL_law_ 1699 = .ok (.ifCond .eq 5, 3) := by decide +kernel
theorem dL_law__1702 : decode cL_law_ 1702 = .ok (.iconst 0, 1) := by decide +kernel
theorem dL_law__1703 : decode cL_law_ 1703 = .ok (.ireturn, 1) := by decide +kernel
theorem dL_law__1704 : decode cL_law_ 1704 = .ok (.goto 1230, 3) := by decide +kernel
theorem dL_law__1707 : decode cL_law_ 1707 = .ok (.aload_n 1, 1) := by decide +kernel
theorem dL_law__1708 : decode cL_law_ 1708 = .ok (.aload_n 0, 1) := by decide +kernel
theorem dL_law__1709 : decode cL_law_ 1709 = .ok (.iload 4, 2) := by decide +kernel
theorem dL_law__1711 : decode cL_law_ 1711 = .ok (.iconst 1, 1) := by decide +kernel
theorem dL_law__1712 : decode cL_law_ 1712 = .ok (.iadd, 1) := by decide +kernel
theorem dL_law__1713 : decode cL_law_ 1713 = .ok (.iaload, 1) := by decide +kernel
theorem dL_law__1714 : decode cL_law_ 1714 = .ok (.aload_n 0, 1) := by decide +kernel
theorem dL_law__1715 : decode cL_law_ 1715 = .ok (.iload 4, 2) := by decide +kernel
theorem dL_law__1717 : decode cL_law_ 1717 = .ok (.iconst 2, 1) := by decide +kernel
theorem dL_law__1718 : decode cL_law_ 1718 = .ok (.iadd, 1) := by decide +kernel
theorem dL_law__1719 : decode cL_law_ 1719 = .ok (.iaload, 1) := by decide +kernel
theorem dL_law__1720 : decode cL_law_ 1720 = .ok (.aload_n 3, 1) := by decide +kernel
theorem dL_law__1721 : decode cL_law_ 1721 = .ok (.invokestatic 214, 3) := by decide +kernel
theorem dL_law__1724 : decode cL_law_ 1724 = .ok (.istore 5, 2) := by decide +kernel
theorem dL_law__1726 : decode cL_law_ 1726 = .ok (.aload_n 2, 1) := by decide +kernel
theorem dL_law__1727 : decode cL_law_ 1727 = .ok (.aload_n 0, 1) := by decide +kernel
theorem dL_law__1728 : decode cL_law_ 1728 = .ok (.iload 4, 2) := by decide +kernel
theorem dL_law__1730 : decode cL_law_ 1730 = .ok (.iconst 1, 1) := by decide +kernel
theorem dL_law__1731 : decode cL_law_ 1731 = .ok (.iadd, 1) := by decide +kernel
theorem dL_law__1732 : decode cL_law_ 1732 = .ok (.iaload, 1) := by decide +kernel
theorem dL_law__1733 : decode cL_law_ 1733 = .ok (.aload_n 0, 1) := by decide +kernel
theorem dL_law__1734 : decode cL_law_ 1734 = .ok (.iload 4, 2) := by decide +kernel
theorem dL_law__1736 : decode cL_law_ 1736 = .ok (.iconst 2, 1) := by decide +kernel
theorem dL_law__1737 : decode cL_law_ 1737 = .ok (.iadd, 1) := by decide +kernel
theorem dL_law__1738 : decode cL_law_ 1738 = .ok (.iaload, 1) := by decide +kernel
theorem dL_law__1739 : decode cL_law_ 1739 = .ok (.invokevirtual 216, 3) := by decide +kernel
theorem dL_law__1742 : decode cL_law_ 1742 = .ok (.istore 6, 2) := by decide +kernel
theorem dL_law__1744 : decode cL_law_ 1744 = .ok (.aload_n 2, 1) := by decide +kernel
theorem dL_law__1745 : decode cL_law_ 1745 = .ok (.invokevirtual 147, 3) := by decide +kernel
theorem dL_law__1748 : decode cL_law_ 1748 = .ok (.iload 5, 2) := by decide +kernel
theorem dL_law__1750 : decode cL_law_ 1750 = .ok (.if_icmp .eq 5, 3) := by decide +kernel
theorem dL_law__1753 : decode cL_law_ 1753 = .ok (.iconst 0, 1) := by decide +kernel
theorem dL_law__1754 : decode cL_law_ 1754 = .ok (.ireturn, 1) := by decide +kernel
theorem dL_law__1755 : decode cL_law_ 1755 = .ok (.iload 5, 2) := by decide +kernel
theorem dL_law__1757 : decode cL_law_ 1757 = .ok (.ifCond .ne 15, 3) := by decide +kernel
theorem dL_law__1760 : decode cL_law_ 1760 = .ok (.aload_n 3, 1) := by decide +kernel
theorem dL_law__1761 : decode cL_law_ 1761 = .ok (.iconst 0, 1) := by decide +kernel
theorem dL_law__1762 : decode cL_law_ 1762 = .ok (.laload, 1) := by decide +kernel
theorem dL_law__1763 : decode cL_law_ 1763 = .ok (.iload 6, 2) := by decide +kernel
theorem dL_law__1765 : decode cL_law_ 1765 = .ok (.i2l, 1) := by decide +kernel
theorem dL_law__1766 : decode cL_law_ 1766 = .ok (.lcmp, 1) := by decide +kernel
theorem dL_law__1767 : decode cL_law_ 1767 = .ok (.ifCond .eq 5, 3) := by decide +kernel
theorem dL_law__1770 : decode cL_law_ 1770 = .ok (.iconst 0, 1) := by decide +kernel
theorem dL_law__1771 : decode cL_law_ 1771 = .ok (.ireturn, 1) := by decide +kernel
theorem dL_law__1772 : decode cL_law_ 1772 = .ok (.goto 1162, 3) := by decide +kernel
theorem dL_law__1775 : decode cL_law_ 1775 = .ok (.aload_n 1, 1) := by decide +kernel
theorem dL_law__1776 : decode cL_law_ 1776 = .ok (.aload_n 0, 1) := by decide +kernel
theorem dL_law__1777 : decode cL_law_ 1777 = .ok (.iload 4, 2) := by decide +kernel
theorem dL_law__1779 : decode cL_law_ 1779 = .ok (.iconst 1, 1) := by decide +kernel
theorem dL_law__1780 : decode cL_law_ 1780 = .ok (.iadd, 1) := by decide +kernel
theorem dL_law__1781 : decode cL_law_ 1781 = .ok (.iaload, 1) := by decide +kernel
theorem dL_law__1782 : decode cL_law_ 1782 = .ok (.aload_n 0, 1) := by decide +kernel
theorem dL_law__1783 : decode cL_law_ 1783 = .ok (.iload 4, 2) := by decide +kernel
theorem dL_law__1785 : decode cL_law_ 1785 = .ok (.iconst 2, 1) := by decide +kernel
theorem dL_law__1786 : decode cL_law_ 1786 = .ok (.iadd, 1) := by decide +kernel
theorem dL_law__1787 : decode cL_law_ 1787 = .ok (.iaload, 1) := by decide +kernel
theorem dL_law__1788 : decode cL_law_ 1788 = .ok (.aload_n 3, 1) := by decide +kernel
theorem dL_law__1789 : decode cL_law_ 1789 = .ok (.invokestatic 217, 3) := by decide +kernel
theorem dL_law__1792 : decode cL_law_ 1792 = .ok (.istore 5, 2) := by decide +kernel
theorem dL_law__1794 : decode cL_law_ 1794 = .ok (.aload_n 2, 1) := by decide +kernel
theorem dL_law__1795 : decode cL_law_ 1795 = .ok (.aload_n 0, 1) := by decide +kernel
theorem dL_law__1796 : decode cL_law_ 1796 = .ok (.iload 4, 2) := by decide +kernel
theorem dL_law__1798 : decode cL_law_ 1798 = .ok (.iconst 1, 1) := by decide +kernel
theorem dL_law__1799 : decode cL_law_ 1799 = .ok (.iadd, 1) := by decide +kernel
theorem dL_law__1800 : decode cL_law_ 1800 = .ok (.iaload, 1) := by decide +kernel
theorem dL_law__1801 : decode cL_law_ 1801 = .ok (.aload_n 0, 1) := by decide +kernel
theorem dL_law__1802 : decode cL_law_ 1802 = .ok (.iload 4, 2) := by decide +kernel
theorem dL_law__1804 : decode cL_law_ 1804 = .ok (.iconst 2, 1) := by decide +kernel
theorem dL_law__1805 : decode cL_law_ 1805 = .ok (.iadd, 1) := by decide +kernel
theorem dL_law__1806 : decode cL_law_ 1806 = .ok (.iaload, 1) := by decide +kernel
theorem dL_law__1807 : decode cL_law_ 1807 = .ok (.invokevirtual 219, 3) := by decide +kernel
theorem dL_law__1810 : decode cL_law_ 1810 = .ok (.istore 6, 2) := by decide +kernel
theorem dL_law__1812 : decode cL_law_ 1812 = .ok (.aload_n 2, 1) := by decide +kernel
theorem dL_law__1813 : decode cL_law_ 1813 = .ok (.invokevirtual 147, 3) := by decide +kernel
theorem dL_law__1816 : decode cL_law_ 1816 = .ok (.iload 5, 2) := by decide +kernel
theorem dL_law__1818 : decode cL_law_ 1818 = .ok (.if_icmp .eq 5, 3) := by decide +kernel
theorem dL_law__1821 : decode cL_law_ 1821 = .ok (.iconst 0, 1) := by decide +kernel
theorem dL_law__1822 : decode cL_law_ 1822 = .ok (.ireturn, 1) := by decide +kernel
theorem dL_law__1823 : decode cL_law_ 1823 = .ok (.iload 5, 2) := by decide +kernel
theorem dL_law__1825 : decode cL_law_ 1825 = .ok (.ifCond .ne 15, 3) := by decide +kernel
theorem dL_law__1828 : decode cL_law_ 1828 = .ok (.aload_n 3, 1) := by decide +kernel
theorem dL_law__1829 : decode cL_law_ 1829 = .ok (.iconst 0, 1) := by decide +kernel
theorem dL_law__1830 : decode cL_law_ 1830 = .ok (.laload, 1) := by decide +kernel
theorem dL_law__1831 : decode cL_law_ 1831 = .ok (.iload 6, 2) := by decide +kernel
theorem dL_law__1833 : decode cL_law_ 1833 = .ok (.i2l, 1) := by decide +kernel
theorem dL_law__1834 : decode cL_law_ 1834 = .ok (.lcmp, 1) := by decide +kernel
theorem dL_law__1835 : decode cL_law_ 1835 = .ok (.ifCond .eq 5, 3) := by decide +kernel
theorem dL_law__1838 : decode cL_law_ 1838 = .ok (.iconst 0, 1) := by decide +kernel
theorem dL_law__1839 : decode cL_law_ 1839 = .ok (.ireturn, 1) := by decide +kernel
theorem dL_law__1840 : decode cL_law_ 1840 = .ok (.goto 1094, 3) := by decide +kernel
theorem dL_law__1843 : decode cL_law_ 1843 = .ok (.aload_n 1, 1) := by decide +kernel
theorem dL_law__1844 : decode cL_law_ 1844 = .ok (.aload_n 0, 1) := by decide +kernel
theorem dL_law__1845 : decode cL_law_ 1845 = .ok (.iload 4, 2) := by decide +kernel
theorem dL_law__1847 : decode cL_law_ 1847 = .ok (.iconst 1, 1) := by decide +kernel
theorem dL_law__1848 : decode cL_law_ 1848 = .ok (.iadd, 1) := by decide +kernel
theorem dL_law__1849 : decode cL_law_ 1849 = .ok (.iaload, 1) := by decide +kernel
theorem dL_law__1850 : decode cL_law_ 1850 = .ok (.aload_n 0, 1) := by decide +kernel
theorem dL_law__1851 : decode cL_law_ 1851 = .ok (.iload 4, 2) := by decide +kernel
theorem dL_law__1853 : decode cL_law_ 1853 = .ok (.iconst 2, 1) := by decide +kernel
theorem dL_law__1854 : decode cL_law_ 1854 = .ok (.iadd, 1) := by decide +kernel
theorem dL_law__1855 : decode cL_law_ 1855 = .ok (.iaload, 1) := by decide +kernel
theorem dL_law__1856 : decode cL_law_ 1856 = .ok (.aload_n 0, 1) := by decide +kernel
theorem dL_law__1857 : decode cL_law_ 1857 = .ok (.iload 4, 2) := by decide +kernel
theorem dL_law__1859 : decode cL_law_ 1859 = .ok (.iconst 3, 1) := by decide +kernel
theorem dL_law__1860 : decode cL_law_ 1860 = .ok (.iadd, 1) := by decide +kernel
theorem dL_law__1861 : decode cL_law_ 1861 = .ok (.iaload, 1) := by decide +kernel
theorem dL_law__1862 : decode cL_law_ 1862 = .ok (.aload_n 3, 1) := by decide +kernel
theorem dL_law__1863 : decode cL_law_ 1863 = .ok (.invokestatic 220, 3) := by decide +kernel
theorem dL_law__1866 : decode cL_law_ 1866 = .ok (.istore 5, 2) := by decide +kernel
theorem dL_law__1868 : decode cL_law_ 1868 = .ok (.aload_n 2, 1) := by decide +kernel
theorem dL_law__1869 : decode cL_law_ 1869 = .ok (.aload_n 0, 1) := by decide +kernel
theorem dL_law__1870 : decode cL_law_ 1870 = .ok (.iload 4, 2) := by decide +kernel
theorem dL_law__1872 : decode cL_law_ 1872 = .ok (.iconst 1, 1) := by decide +kernel
theorem dL_law__1873 : decode cL_law_ 1873 = .ok (.iadd, 1) := by decide +kernel
theorem dL_law__1874 : decode cL_law_ 1874 = .ok (.iaload, 1) := by decide +kernel
theorem dL_law__1875 : decode cL_law_ 1875 = .ok (.aload_n 0, 1) := by decide +kernel
theorem dL_law__1876 : decode cL_law_ 1876 = .ok (.iload 4, 2) := by decide +kernel
theorem dL_law__1878 : decode cL_law_ 1878 = .ok (.iconst 2, 1) := by decide +kernel
theorem dL_law__1879 : decode cL_law_ 1879 = .ok (.iadd, 1) := by decide +kernel
theorem dL_law__1880 : decode cL_law_ 1880 = .ok (.iaload, 1) := by decide +kernel
theorem dL_law__1881 : decode cL_law_ 1881 = .ok (.aload_n 0, 1) := by decide +kernel
theorem dL_law__1882 : decode cL_law_ 1882 = .ok (.iload 4, 2) := by decide +kernel
theorem dL_law__1884 : decode cL_law_ 1884 = .ok (.iconst 3, 1) := by decide +kernel
theorem dL_law__1885 : decode cL_law_ 1885 = .ok (.iadd, 1) := by decide +kernel
theorem dL_law__1886 : decode cL_law_ 1886 = .ok (.iaload, 1) := by decide +kernel
theorem dL_law__1887 : decode cL_law_ 1887 = .ok (.invokevirtual 222, 3) := by decide +kernel
theorem dL_law__1890 : decode cL_law_ 1890 = .ok (.istore 6, 2) := by decide +kernel
theorem dL_law__1892 : decode cL_law_ 1892 = .ok (.aload_n 2, 1) := by decide +kernel
theorem dL_law__1893 : decode cL_law_ 1893 = .ok (.invokevirtual 147, 3) := by decide +kernel
theorem dL_law__1896 : decode cL_law_ 1896 = .ok (.iload 5, 2) := by decide +kernel
theorem dL_law__1898 : decode cL_law_ 1898 = .ok (.if_icmp .eq 5, 3) := by decide +kernel
theorem dL_law__1901 : decode cL_law_ 1901 = .ok (.iconst 0, 1) := by decide +kernel
theorem dL_law__1902 : decode cL_law_ 1902 = .ok (.ireturn, 1) := by decide +kernel
theorem dL_law__1903 : decode cL_law_ 1903 = .ok (.iload 5, 2) := by decide +kernel
theorem dL_law__1905 : decode cL_law_ 1905 = .ok (.ifCond .ne 15, 3) := by decide +kernel
theorem dL_law__1908 : decode cL_law_ 1908 = .ok (.aload_n 3, 1) := by decide +kernel
theorem dL_law__1909 : decode cL_law_ 1909 = .ok (.iconst 0, 1) := by decide +kernel
theorem dL_law__1910 : decode cL_law_ 1910 = .ok (.laload, 1) := by decide +kernel
theorem dL_law__1911 : decode cL_law_ 1911 = .ok (.iload 6, 2) := by decide +kernel
theorem dL_law__1913 : decode cL_law_ 1913 = .ok (.i2l, 1) := by decide +kernel
theorem dL_law__1914 : decode cL_law_ 1914 = .ok (.lcmp, 1) := by decide +kernel
theorem dL_law__1915 : decode cL_law_ 1915 = .ok (.ifCond .eq 5, 3) := by decide +kernel
theorem dL_law__1918 : decode cL_law_ 1918 = .ok (.iconst 0, 1) := by decide +kernel
theorem dL_law__1919 : decode cL_law_ 1919 = .ok (.ireturn, 1) := by decide +kernel
theorem dL_law__1920 : decode cL_law_ 1920 = .ok (.goto 1014, 3) := by decide +kernel
theorem dL_law__1923 : decode cL_law_ 1923 = .ok (.aload_n 1, 1) := by decide +kernel
theorem dL_law__1924 : decode cL_law_ 1924 = .ok (.aload_n 0, 1) := by decide +kernel
theorem dL_law__1925 : decode cL_law_ 1925 = .ok (.iload 4, 2) := by decide +kernel
theorem dL_law__1927 : decode cL_law_ 1927 = .ok (.iconst 1, 1) := by decide +kernel
theorem dL_law__1928 : decode cL_law_ 1928 = .ok (.iadd, 1) := by decide +kernel
theorem dL_law__1929 : decode cL_law_ 1929 = .ok (.iaload, 1) := by decide +kernel
theorem dL_law__1930 : decode cL_law_ 1930 = .ok (.aload_n 3, 1) := by decide +kernel
theorem dL_law__1931 : decode cL_law_ 1931 = .ok (.invokestatic 223, 3) := by decide +kernel
theorem dL_law__1934 : decode cL_law_ 1934 = .ok (.istore 5, 2) := by decide +kernel
theorem dL_law__1936 : decode cL_law_ 1936 = .ok (.aload_n 2, 1) := by decide +kernel
theorem dL_law__1937 : decode cL_law_ 1937 = .ok (.aload_n 0, 1) := by decide +kernel
theorem dL_law__1938 : decode cL_law_ 1938 = .ok (.iload 4, 2) := by decide +kernel
theorem dL_law__1940 : decode cL_law_ 1940 = .ok (.iconst 1, 1) := by decide +kernel
theorem dL_law__1941 : decode cL_law_ 1941 = .ok (.iadd, 1) := by decide +kernel
theorem dL_law__1942 : decode cL_law_ 1942 = .ok (.iaload, 1) := by decide +kernel
theorem dL_law__1943 : decode cL_law_ 1943 = .ok (.invokevirtual 225, 3) := by decide +kernel
theorem dL_law__1946 : decode cL_law_ 1946 = .ok (.istore 6, 2) := by decide +kernel
theorem dL_law__1948 : decode cL_law_ 1948 = .ok (.aload_n 2, 1) := by decide +kernel
theorem dL_law__1949 : decode cL_law_ 1949 = .ok (.invokevirtual 147, 3) := by decide +kernel
theorem dL_law__1952 : decode cL_law_ 1952 = .ok (.iload 5, 2) := by decide +kernel
theorem dL_law__1954 : decode cL_law_ 1954 = .ok (.if_icmp .eq 5, 3) := by decide +kernel
theorem dL_law__1957 : decode cL_law_ 1957 = .ok (.iconst 0, 1) := by decide +kernel
theorem dL_law__1958 : decode cL_law_ 1958 = .ok (.ireturn, 1) := by decide +kernel
theorem dL_law__1959 : decode cL_law_ 1959 = .ok (.iload 5, 2) := by decide +kernel
theorem dL_law__1961 : decode cL_law_ 1961 = .ok (.ifCond .ne 15, 3) := by decide +kernel
theorem dL_law__1964 : decode cL_law_ 1964 = .ok (.aload_n 3, 1) := by decide +kernel
theorem dL_law__1965 : decode cL_law_ 1965 = .ok (.iconst 0, 1) := by decide +kernel
theorem dL_law__1966 : decode cL_law_ 1966 = .ok (.laload, 1) := by decide +kernel
theorem dL_law__1967 : decode cL_law_ 1967 = .ok (.iload 6, 2) := by decide +kernel
theorem dL_law__1969 : decode cL_law_ 1969 = .ok (.i2l, 1) := by decide +kernel
theorem dL_law__1970 : decode cL_law_ 1970 = .ok (.lcmp, 1) := by decide +kernel
theorem dL_law__1971 : decode cL_law_ 1971 = .ok (.ifCond .eq 5, 3) := by decide +kernel
theorem dL_law__1974 : decode cL_law_ 1974 = .ok (.iconst 0, 1) := by decide +kernel
theorem dL_law__1975 : decode cL_law_ 1975 = .ok (.ireturn, 1) := by decide +kernel
theorem dL_law__1976 : decode cL_law_ 1976 = .ok (.goto 958, 3) := by decide +kernel
theorem dL_law__1979 : decode cL_law_ 1979 = .ok (.aload_n 1, 1) := by decide +kernel
theorem dL_law__1980 : decode cL_law_ 1980 = .ok (.invokevirtual 226, 3) := by decide +kernel
theorem dL_law__1983 : decode cL_law_ 1983 = .ok (.aload_n 2, 1) := by decide +kernel
theorem dL_law__1984 : decode cL_law_ 1984 = .ok (.invokevirtual 229, 3) := by decide +kernel
theorem dL_law__1987 : decode cL_law_ 1987 = .ok (.if_icmp .eq 947, 3) := by decide +kernel
theorem dL_law__1990 : decode cL_law_ 1990 = .ok (.iconst 0, 1) := by decide +kernel
theorem dL_law__1991 : decode cL_law_ 1991 = .ok (.ireturn, 1) := by decide +kernel
theorem dL_law__1992 : decode cL_law_ 1992 = .ok (.aload_n 1, 1) := by decide +kernel
theorem dL_law__1993 : decode cL_law_ 1993 = .ok (.aload_n 0, 1) := by decide +kernel
theorem dL_law__1994 : decode cL_law_ 1994 = .ok (.iload 4, 2) := by decide +kernel
theorem dL_law__1996 : decode cL_law_ 1996 = .ok (.iconst 1, 1) := by decide +kernel
theorem dL_law__1997 : decode cL_law_ 1997 = .ok (.iadd, 1) := by decide +kernel
theorem dL_law__1998 : decode cL_law_ 1998 = .ok (.iaload, 1) := by decide +kernel
theorem dL_law__1999 : decode cL_law_ 1999 = .ok (.aload_n 0, 1) := by decide +kernel
theorem dL_law__2000 : decode cL_law_ 2000 = .ok (.iload 4, 2) := by decide +kernel
theorem dL_law__2002 : decode cL_law_ 2002 = .ok (.iconst 2, 1) := by decide +kernel
theorem dL_law__2003 : decode cL_law_ 2003 = .ok (.iadd, 1) := by decide +kernel
theorem dL_law__2004 : decode cL_law_ 2004 = .ok (.iaload, 1) := by decide +kernel
theorem dL_law__2005 : decode cL_law_ 2005 = .ok (.aload_n 0, 1) := by decide +kernel
theorem dL_law__2006 : decode cL_law_ 2006 = .ok (.iload 4, 2) := by decide +kernel
theorem dL_law__2008 : decode cL_law_ 2008 = .ok (.iconst 3, 1) := by decide +kernel
theorem dL_law__2009 : decode cL_law_ 2009 = .ok (.iadd, 1) := by decide +kernel
theorem dL_law__2010 : decode cL_law_ 2010 = .ok (.iaload, 1) := by decide +kernel
theorem dL_law__2011 : decode cL_law_ 2011 = .ok (.aload_n 0, 1) := by decide +kernel
theorem dL_law__2012 : decode cL_law_ 2012 = .ok (.iload 4, 2) := by decide +kernel
theorem dL_law__2014 : decode cL_law_ 2014 = .ok (.iconst 4, 1) := by decide +kernel
theorem dL_law__2015 : decode cL_law_ 2015 = .ok (.iadd, 1) := by decide +kernel
theorem dL_law__2016 : decode cL_law_ 2016 = .ok (.iaload, 1) := by decide +kernel
theorem dL_law__2017 : decode cL_law_ 2017 = .ok (.aload_n 0, 1) := by decide +kernel
theorem dL_law__2018 : decode cL_law_ 2018 = .ok (.iload 4, 2) := by decide +kernel
theorem dL_law__2020 : decode cL_law_ 2020 = .ok (.iconst 5, 1) := by decide +kernel
theorem dL_law__2021 : decode cL_law_ 2021 = .ok (.iadd, 1) := by decide +kernel
theorem dL_law__2022 : decode cL_law_ 2022 = .ok (.iaload, 1) := by decide +kernel
theorem dL_law__2023 : decode cL_law_ 2023 = .ok (.ifCond .eq 7, 3) := by decide +kernel
theorem dL_law__2026 : decode cL_law_ 2026 = .ok (.iconst 1, 1) := by decide +kernel
theorem dL_law__2027 : decode cL_law_ 2027 = .ok (.goto 4, 3) := by decide +kernel
theorem dL_law__2030 : decode cL_law_ 2030 = .ok (.iconst 0, 1) := by decide +kernel
theorem dL_law__2031 : decode cL_law_ 2031 = .ok (.aload_n 3, 1) := by decide +kernel
theorem dL_law__2032 : decode cL_law_ 2032 = .ok (.invokestatic 230, 3) := by decide +kernel
theorem dL_law__2035 : decode cL_law_ 2035 = .ok (.istore 5, 2) := by decide +kernel
theorem dL_law__2037 : decode cL_law_ 2037 = .ok (.aload_n 2, 1) := by decide +kernel
theorem dL_law__2038 : decode cL_law_ 2038 = .ok (.aload_n 0, 1) := by decide +kernel
theorem dL_law__2039 : decode cL_law_ 2039 = .ok (.iload 4, 2) := by decide +kernel
theorem dL_law__2041 : decode cL_law_ 2041 = .ok (.iconst 1, 1) := by decide +kernel
theorem dL_law__2042 : decode cL_law_ 2042 = .ok (.iadd, 1) := by decide +kernel
theorem dL_law__2043 : decode cL_law_ 2043 = .ok (.iaload, 1) := by decide +kernel
theorem dL_law__2044 : decode cL_law_ 2044 = .ok (.aload_n 0, 1) := by decide +kernel
theorem dL_law__2045 : decode cL_law_ 2045 = .ok (.iload 4, 2) := by decide +kernel
theorem dL_law__2047 : decode cL_law_ 2047 = .ok (.iconst 2, 1) := by decide +kernel
theorem dL_law__2048 : decode cL_law_ 2048 = .ok (.iadd, 1) := by decide +kernel
theorem dL_law__2049 : decode cL_law_ 2049 = .ok (.iaload, 1) := by decide +kernel
theorem dL_law__2050 : decode cL_law_ 2050 = .ok (.aload_n 0, 1) := by decide +kernel
theorem dL_law__2051 : decode cL_law_ 2051 = .ok (.iload 4, 2) := by decide +kernel
theorem dL_law__2053 : decode cL_law_ 2053 = .ok (.iconst 3, 1) := by decide +kernel
theorem dL_law__2054 : decode cL_law_ 2054 = .ok (.iadd, 1) := by decide +kernel
theorem dL_law__2055 : decode cL_law_ 2055 = .ok (.iaload, 1) := by decide +kernel
theorem dL_law__2056 : decode cL_law_ 2056 = .ok (.aload_n 0, 1) := by decide +kernel
theorem dL_law__2057 : decode cL_law_ 2057 = .ok (.iload 4, 2) := by decide +kernel
theorem dL_law__2059 : decode cL_law_ 2059 = .ok (.iconst 4, 1) := by decide +kernel
theorem dL_law__2060 : decode cL_law_ 2060 = .ok (.iadd, 1) := by decide +kernel
theorem dL_law__2061 : decode cL_law_ 2061 = .ok (.iaload, 1) := by decide +kernel
theorem dL_law__2062 : decode cL_law_ 2062 = .ok (.aload_n 0, 1) := by decide +kernel
theorem dL_law__2063 : decode cL_law_ 2063 = .ok (.iload 4, 2) := by decide +kernel
theorem dL_law__2065 : decode cL_law_ 2065 = .ok (.iconst 5, 1) := by decide +kernel
theorem dL_law__2066 : decode cL_law_ 2066 = .ok (.iadd, 1) := by decide +kernel
theorem dL_law__2067 : decode cL_law_ 2067 = .ok (.iaload, 1) := by decide +kernel
theorem dL_law__2068 : decode cL_law_ 2068 = .ok (.ifCond .eq 7, 3) := by decide +kernel
theorem dL_law__2071 : decode cL_law_ 2071 = .ok (.iconst 1, 1) := by decide +kernel
theorem dL_law__2072 : decode cL_law_ 2072 = .ok (.goto 4, 3) := by decide +kernel
theorem dL_law__2075 : decode cL_law_ 2075 = .ok (.iconst 0, 1) := by decide +kernel
theorem dL_law__2076 : decode cL_law_ 2076 = .ok (.invokevirtual 232, 3) := by decide +kernel
theorem dL_law__2079 : decode cL_law_ 2079 = .ok (.istore 6, 2) := by decide +kernel
theorem dL_law__2081 : decode cL_law_ 2081 = .ok (.aload_n 2, 1) := by decide +kernel
theorem dL_law__2082 : decode cL_law_ 2082 = .ok (.invokevirtual 147, 3) := by decide +kernel
theorem dL_law__2085 : decode cL_law_ 2085 = .ok (.iload 5, 2) := by decide +kernel
theorem dL_law__2087 : decode cL_law_ 2087 = .ok (.if_icmp .eq 5, 3) := by decide +kernel
theorem dL_law__2090 : decode cL_law_ 2090 = .ok (.iconst 0, 1) := by decide +kernel
theorem dL_law__2091 : decode cL_law_ 2091 = .ok (.ireturn, 1) := by decide +kernel
theorem dL_law__2092 : decode cL_law_ 2092 = .ok (.iload 5, 2) := by decide +kernel
theorem dL_law__2094 : decode cL_law_ 2094 = .ok (.ifCond .ne 15, 3) := by decide +kernel
theorem dL_law__2097 : decode cL_law_ 2097 = .ok (.aload_n 3, 1) := by decide +kernel
theorem dL_law__2098 : decode cL_law_ 2098 = .ok (.iconst 0, 1) := by decide +kernel
theorem dL_law__2099 : decode cL_law_ 2099 = .ok (.laload, 1) := by decide +kernel
theorem dL_law__2100 : decode cL_law_ 2100 = .ok (.iload 6, 2) := by decide +kernel
theorem dL_law__2102 : decode cL_law_ 2102 = .ok (.i2l, 1) := by decide +kernel
theorem dL_law__2103 : decode cL_law_ 2103 = .ok (.lcmp, 1) := by decide +kernel
theorem dL_law__2104 : decode cL_law_ 2104 = .ok (.ifCond .eq 5, 3) := by decide +kernel
theorem dL_law__2107 : decode cL_law_ 2107 = .ok (.iconst 0, 1) := by decide +kernel
theorem dL_law__2108 : decode cL_law_ 2108 = .ok (.ireturn, 1) := by decide +kernel
theorem dL_law__2109 : decode cL_law_ 2109 = .ok (.goto 825, 3) := by decide +kernel
theorem dL_law__2112 : decode cL_law_ 2112 = .ok (.aload_n 1, 1) := by decide +kernel
theorem dL_law__2113 : decode cL_law_ 2113 = .ok (.aload_n 0, 1) := by decide +kernel
theorem dL_law__2114 : decode cL_law_ 2114 = .ok (.iload 4, 2) := by decide +kernel
theorem dL_law__2116 : decode cL_law_ 2116 = .ok (.iconst 1, 1) := by decide +kernel
theorem dL_law__2117 : decode cL_law_ 2117 = .ok (.iadd, 1) := by decide +kernel
theorem dL_law__2118 : decode cL_law_ 2118 = .ok (.iaload, 1) := by decide +kernel
theorem dL_law__2119 : decode cL_law_ 2119 = .ok (.aload_n 0, 1) := by decide +kernel
theorem dL_law__2120 : decode cL_law_ 2120 = .ok (.iload 4, 2) := by decide +kernel
theorem dL_law__2122 : decode cL_law_ 2122 = .ok (.iconst 2, 1) := by decide +kernel
theorem dL_law__2123 : decode cL_law_ 2123 = .ok (.iadd, 1) := by decide +kernel
theorem dL_law__2124 : decode cL_law_ 2124 = .ok (.iaload, 1) := by decide +kernel
theorem dL_law__2125 : decode cL_law_ 2125 = .ok (.aload_n 0, 1) := by decide +kernel
theorem dL_law__2126 : decode cL_law_ 2126 = .ok (.iload 4, 2) := by decide +kernel
theorem dL_law__2128 : decode cL_law_ 2128 = .ok (.iconst 3, 1) := by decide +kernel
theorem dL_law__2129 : decode cL_law_ 2129 = .ok (.iadd, 1) := by decide +kernel
theorem dL_law__2130 : decode cL_law_ 2130 = .ok (.iaload, 1) := by decide +kernel
theorem dL_law__2131 : decode cL_law_ 2131 = .ok (.aload_n 0, 1) := by decide +kernel
theorem dL_law__2132 : decode cL_law_ 2132 = .ok (.iload 4, 2) := by decide +kernel
theorem dL_law__2134 : decode cL_law_ 2134 = .ok (.iconst 4, 1) := by decide +kernel
theorem dL_law__2135 : decode cL_law_ 2135 = .ok (.iadd, 1) := by decide +kernel
theorem dL_law__2136 : decode cL_law_ 2136 = .ok (.iaload, 1) := by decide +kernel
theorem dL_law__2137 : decode cL_law_ 2137 = .ok (.aload_n 3, 1) := by decide +kernel
theorem dL_law__2138 : decode cL_law_ 2138 = .ok (.invokestatic 233, 3) := by decide +kernel
theorem dL_law__2141 : decode cL_law_ 2141 = .ok (.istore 5, 2) := by decide +kernel
theorem dL_law__2143 : decode cL_law_ 2143 = .ok (.aload_n 2, 1) := by decide +kernel
theorem dL_law__2144 : decode cL_law_ 2144 = .ok (.aload_n 0, 1) := by decide +kernel
theorem dL_law__2145 : decode cL_law_ 2145 = .ok (.iload 4, 2) := by decide +kernel
theorem dL_law__2147 : decode cL_law_ 2147 = .ok (.iconst 1, 1) := by decide +kernel
theorem dL_law__2148 : decode cL_law_ 2148 = .ok (.iadd, 1) := by decide +kernel
theorem dL_law__2149 : decode cL_law_ 2149 = .ok (.iaload, 1) := by decide +kernel
theorem dL_law__2150 : decode cL_law_ 2150 = .ok (.aload_n 0, 1) := by decide +kernel
theorem dL_law__2151 : decode cL_law_ 2151 = .ok (.iload 4, 2) := by decide +kernel
theorem dL_law__2153 : decode cL_law_ 2153 = .ok (.iconst 2, 1) := by decide +kernel
theorem dL_law__2154 : decode cL_law_ 2154 = .ok (.iadd, 1) := by decide +kernel
theorem dL_law__2155 : decode cL_law_ 2155 = .ok (.iaload, 1) := by decide +kernel
theorem dL_law__2156 : decode cL_law_ 2156 = .ok (.aload_n 0, 1) := by decide +kernel
theorem dL_law__2157 : decode cL_law_ 2157 = .ok (.iload 4, 2) := by decide +kernel
theorem dL_law__2159 : decode cL_law_ 2159 = .ok (.iconst 3, 1) := by decide +kernel
theorem dL_law__2160 : decode cL_law_ 2160 = .ok (.iadd, 1) := by decide +kernel
theorem dL_law__2161 : decode cL_law_ 2161 = .ok (.iaload, 1) := by decide +kernel
theorem dL_law__2162 : decode cL_law_ 2162 = .ok (.aload_n 0, 1) := by decide +kernel
theorem dL_law__2163 : decode cL_law_ 2163 = .ok (.iload 4, 2) := by decide +kernel
theorem dL_law__2165 : decode cL_law_ 2165 = .ok (.iconst 4, 1) := by decide +kernel
theorem dL_law__2166 : decode cL_law_ 2166 = .ok (.iadd, 1) := by decide +kernel
theorem dL_law__2167 : decode cL_law_ 2167 = .ok (.iaload, 1) := by decide +kernel
theorem dL_law__2168 : decode cL_law_ 2168 = .ok (.invokevirtual 236, 3) := by decide +kernel
theorem dL_law__2171 : decode cL_law_ 2171 = .ok (.istore 6, 2) := by decide +kernel
theorem dL_law__2173 : decode cL_law_ 2173 = .ok (.aload_n 2, 1) := by decide +kernel
theorem dL_law__2174 : decode cL_law_ 2174 = .ok (.invokevirtual 147, 3) := by decide +kernel
theorem dL_law__2177 : decode cL_law_ 2177 = .ok (.iload 5, 2) := by decide +kernel
theorem dL_law__2179 : decode cL_law_ 2179 = .ok (.if_icmp .eq 5, 3) := by decide +kernel
theorem dL_law__2182 : decode cL_law_ 2182 = .ok (.iconst 0, 1) := by decide +kernel
theorem dL_law__2183 : decode cL_law_ 2183 = .ok (.ireturn, 1) := by decide +kernel
theorem dL_law__2184 : decode cL_law_ 2184 = .ok (.iload 5, 2) := by decide +kernel
theorem dL_law__2186 : decode cL_law_ 2186 = .ok (.ifCond .ne 15, 3) := by decide +kernel
theorem dL_law__2189 : decode cL_law_ 2189 = .ok (.aload_n 3, 1) := by decide +kernel
theorem dL_law__2190 : decode cL_law_ 2190 = .ok (.iconst 0, 1) := by decide +kernel
theorem dL_law__2191 : decode cL_law_ 2191 = .ok (.laload, 1) := by decide +kernel
theorem dL_law__2192 : decode cL_law_ 2192 = .ok (.iload 6, 2) := by decide +kernel
theorem dL_law__2194 : decode cL_law_ 2194 = .ok (.i2l, 1) := by decide +kernel
theorem dL_law__2195 : decode cL_law_ 2195 = .ok (.lcmp, 1) := by decide +kernel
theorem dL_law__2196 : decode cL_law_ 2196 = .ok (.ifCond .eq 5, 3) := by decide +kernel
theorem dL_law__2199 : decode cL_law_ 2199 = .ok (.iconst 0, 1) := by decide +kernel
theorem dL_law__2200 : decode cL_law_ 2200 = .ok (.ireturn, 1) := by decide +kernel
theorem dL_law__2201 : decode cL_law_ 2201 = .ok (.goto 733, 3) := by decide +kernel
theorem dL_law__2204 : decode cL_law_ 2204 = .ok (.aload_n 1, 1) := by decide +kernel
theorem dL_law__2205 : decode cL_law_ 2205 = .ok (.aload_n 0, 1) := by decide +kernel
theorem dL_law__2206 : decode cL_law_ 2206 = .ok (.iload 4, 2) := by decide +kernel
theorem dL_law__2208 : decode cL_law_ 2208 = .ok (.iconst 1, 1) := by decide +kernel
theorem dL_law__2209 : decode cL_law_ 2209 = .ok (.iadd, 1) := by decide +kernel
theorem dL_law__2210 : decode cL_law_ 2210 = .ok (.iaload, 1) := by decide +kernel
theorem dL_law__2211 : decode cL_law_ 2211 = .ok (.aload_n 0, 1) := by decide +kernel
theorem dL_law__2212 : decode cL_law_ 2212 = .ok (.iload 4, 2) := by decide +kernel
theorem dL_law__2214 : decode cL_law_ 2214 = .ok (.iconst 2, 1) := by decide +kernel
theorem dL_law__2215 : decode cL_law_ 2215 = .ok (.iadd, 1) := by decide +kernel
theorem dL_law__2216 : decode cL_law_ 2216 = .ok (.iaload, 1) := by decide +kernel
theorem dL_law__2217 : decode cL_law_ 2217 = .ok (.ifCond .eq 7, 3) := by decide +kernel
theorem dL_law__2220 : decode cL_law_ 2220 = .ok (.iconst 1, 1) := by decide +kernel
theorem dL_law__2221 : decode cL_law_ 2221 = .ok (.goto 4, 3) := by decide +kernel
theorem dL_law__2224 : decode cL_law_ 2224 = .ok (.iconst 0, 1) := by decide +kernel
theorem dL_law__2225 : decode cL_law_ 2225 = .ok (.invokevirtual 237, 3) := by decide +kernel
theorem dL_law__2228 : decode cL_law_ 2228 = .ok (.aload_n 2, 1) := by decide +kernel
theorem dL_law__2229 : decode cL_law_ 2229 = .ok (.aload_n 0, 1) := by decide +kernel
theorem dL_law__2230 : decode cL_law_ 2230 = .ok (.iload 4, 2) := by decide +kernel
theorem dL_law__2232 : decode cL_law_ 2232 = .ok (.iconst 1, 1) := by decide +kernel
theorem dL_law__2233 : decode cL_law_ 2233 = .ok (.iadd, 1) := by decide +kernel
theorem dL_law__2234 : decode cL_law_ 2234 = .ok (.iaload, 1) := by decide +kernel
theorem dL_law__2235 : decode cL_law_ 2235 = .ok (.aload_n 0, 1) := by decide +kernel
theorem dL_law__2236 : decode cL_law_ 2236 = .ok (.iload 4, 2) := by decide +kernel
theorem dL_law__2238 : decode cL_law_ 2238 = .ok (.iconst 2, 1) := by decide +kernel
