/-! decode rows: the law -/
theorem d290_1564 : decode code 1564 = .ok (.iadd, 1) := by decide +kernel
theorem d290_1565 : decode code 1565 = .ok (.iaload, 1) := by decide +kernel
theorem d290_1566 : decode code 1566 = .ok (.invokevirtual 245, 3) := by decide +kernel
theorem d290_1569 : decode code 1569 = .ok (.istore 7, 2) := by decide +kernel
theorem d290_1571 : decode code 1571 = .ok (.aload_n 2, 1) := by decide +kernel
theorem d290_1572 : decode code 1572 = .ok (.invokevirtual 172, 3) := by decide +kernel
theorem d290_1575 : decode code 1575 = .ok (.iload 6, 2) := by decide +kernel
theorem d290_1577 : decode code 1577 = .ok (.if_icmp .eq 5, 3) := by decide +kernel
theorem d290_1580 : decode code 1580 = .ok (.iconst 0, 1) := by decide +kernel
theorem d290_1581 : decode code 1581 = .ok (.ireturn, 1) := by decide +kernel
theorem d290_1582 : decode code 1582 = .ok (.iload 6, 2) := by decide +kernel
theorem d290_1584 : decode code 1584 = .ok (.ifCond .ne 15, 3) := by decide +kernel
theorem d290_1587 : decode code 1587 = .ok (.aload_n 3, 1) := by decide +kernel
theorem d290_1588 : decode code 1588 = .ok (.iconst 0, 1) := by decide +kernel
theorem d290_1589 : decode code 1589 = .ok (.laload, 1) := by decide +kernel
theorem d290_1590 : decode code 1590 = .ok (.iload 7, 2) := by decide +kernel
theorem d290_1592 : decode code 1592 = .ok (.i2l, 1) := by decide +kernel
theorem d290_1593 : decode code 1593 = .ok (.lcmp, 1) := by decide +kernel
theorem d290_1594 : decode code 1594 = .ok (.ifCond .eq 5, 3) := by decide +kernel
theorem d290_1597 : decode code 1597 = .ok (.iconst 0, 1) := by decide +kernel
theorem d290_1598 : decode code 1598 = .ok (.ireturn, 1) := by decide +kernel
theorem d290_1599 : decode code 1599 = .ok (.goto 1402, 3) := by decide +kernel
theorem d290_1602 : decode code 1602 = .ok (.aload_n 1, 1) := by decide +kernel
theorem d290_1603 : decode code 1603 = .ok (.aload_n 0, 1) := by decide +kernel
theorem d290_1604 : decode code 1604 = .ok (.iload 5, 2) := by decide +kernel
theorem d290_1606 : decode code 1606 = .ok (.iconst 1, 1) := by decide +kernel
theorem d290_1607 : decode code 1607 = .ok (.iadd, 1) := by decide +kernel
theorem d290_1608 : decode code 1608 = .ok (.iaload, 1) := by decide +kernel
theorem d290_1609 : decode code 1609 = .ok (.aload_n 3, 1) := by decide +kernel
theorem d290_1610 : decode code 1610 = .ok (.invokestatic 246, 3) := by decide +kernel
theorem d290_1613 : decode code 1613 = .ok (.istore 6, 2) := by decide +kernel
theorem d290_1615 : decode code 1615 = .ok (.aload_n 2, 1) := by decide +kernel
theorem d290_1616 : decode code 1616 = .ok (.aload_n 0, 1) := by decide +kernel
theorem d290_1617 : decode code 1617 = .ok (.iload 5, 2) := by decide +kernel
theorem d290_1619 : decode code 1619 = .ok (.iconst 1, 1) := by decide +kernel
theorem d290_1620 : decode code 1620 = .ok (.iadd, 1) := by decide +kernel
theorem d290_1621 : decode code 1621 = .ok (.iaload, 1) := by decide +kernel
theorem d290_1622 : decode code 1622 = .ok (.invokevirtual 248, 3) := by decide +kernel
theorem d290_1625 : decode code 1625 = .ok (.istore 7, 2) := by decide +kernel
theorem d290_1627 : decode code 1627 = .ok (.aload_n 2, 1) := by decide +kernel
theorem d290_1628 : decode code 1628 = .ok (.invokevirtual 172, 3) := by decide +kernel
theorem d290_1631 : decode code 1631 = .ok (.iload 6, 2) := by decide +kernel
theorem d290_1633 : decode code 1633 = .ok (.if_icmp .eq 5, 3) := by decide +kernel
theorem d290_1636 : decode code 1636 = .ok (.iconst 0, 1) := by decide +kernel
theorem d290_1637 : decode code 1637 = .ok (.ireturn, 1) := by decide +kernel
theorem d290_1638 : decode code 1638 = .ok (.iload 6, 2) := by decide +kernel
theorem d290_1640 : decode code 1640 = .ok (.ifCond .ne 15, 3) := by decide +kernel
theorem d290_1643 : decode code 1643 = .ok (.aload_n 3, 1) := by decide +kernel
theorem d290_1644 : decode code 1644 = .ok (.iconst 0, 1) := by decide +kernel
theorem d290_1645 : decode code 1645 = .ok (.laload, 1) := by decide +kernel
theorem d290_1646 : decode code 1646 = .ok (.iload 7, 2) := by decide +kernel
theorem d290_1648 : decode code 1648 = .ok (.i2l, 1) := by decide +kernel
theorem d290_1649 : decode code 1649 = .ok (.lcmp, 1) := by decide +kernel
theorem d290_1650 : decode code 1650 = .ok (.ifCond .eq 5, 3) := by decide +kernel
theorem d290_1653 : decode code 1653 = .ok (.iconst 0, 1) := by decide +kernel
theorem d290_1654 : decode code 1654 = .ok (.ireturn, 1) := by decide +kernel
theorem d290_1655 : decode code 1655 = .ok (.goto 1346, 3) := by decide +kernel
theorem d290_1658 : decode code 1658 = .ok (.aload_n 1, 1) := by decide +kernel
theorem d290_1659 : decode code 1659 = .ok (.aload_n 0, 1) := by decide +kernel
theorem d290_1660 : decode code 1660 = .ok (.iload 5, 2) := by decide +kernel
theorem d290_1662 : decode code 1662 = .ok (.iconst 1, 1) := by decide +kernel
theorem d290_1663 : decode code 1663 = .ok (.iadd, 1) := by decide +kernel
theorem d290_1664 : decode code 1664 = .ok (.iaload, 1) := by decide +kernel
theorem d290_1665 : decode code 1665 = .ok (.aload_n 3, 1) := by decide +kernel
theorem d290_1666 : decode code 1666 = .ok (.invokestatic 249, 3) := by decide +kernel
theorem d290_1669 : decode code 1669 = .ok (.istore 6, 2) := by decide +kernel
theorem d290_1671 : decode code 1671 = .ok (.aload_n 2, 1) := by decide +kernel
theorem d290_1672 : decode code 1672 = .ok (.aload_n 0, 1) := by decide +kernel
theorem d290_1673 : decode code 1673 = .ok (.iload 5, 2) := by decide +kernel
theorem d290_1675 : decode code 1675 = .ok (.iconst 1, 1) := by decide +kernel
theorem d290_1676 : decode code 1676 = .ok (.iadd, 1) := by decide +kernel
theorem d290_1677 : decode code 1677 = .ok (.iaload, 1) := by decide +kernel
theorem d290_1678 : decode code 1678 = .ok (.invokevirtual 251, 3) := by decide +kernel
theorem d290_1681 : decode code 1681 = .ok (.istore 7, 2) := by decide +kernel
theorem d290_1683 : decode code 1683 = .ok (.aload_n 2, 1) := by decide +kernel
theorem d290_1684 : decode code 1684 = .ok (.invokevirtual 172, 3) := by decide +kernel
theorem d290_1687 : decode code 1687 = .ok (.iload 6, 2) := by decide +kernel
theorem d290_1689 : decode code 1689 = .ok (.if_icmp .eq 5, 3) := by decide +kernel
theorem d290_1692 : decode code 1692 = .ok (.iconst 0, 1) := by decide +kernel
theorem d290_1693 : decode code 1693 = .ok (.ireturn, 1) := by decide +kernel
theorem d290_1694 : decode code 1694 = .ok (.iload 6, 2) := by decide +kernel
theorem d290_1696 : decode code 1696 = .ok (.ifCond .ne 15, 3) := by decide +kernel
theorem d290_1699 : decode code 1699 = .ok (.aload_n 3, 1) := by decide +kernel
theorem d290_1700 : decode code 1700 = .ok (.iconst 0, 1) := by decide +kernel
theorem d290_1701 : decode code 1701 = .ok (.laload, 1) := by decide +kernel
theorem d290_1702 : decode code 1702 = .ok (.iload 7, 2) := by decide +kernel
theorem d290_1704 : decode code 1704 = .ok (.i2l, 1) := by decide +kernel
theorem d290_1705 : decode code 1705 = .ok (.lcmp, 1) := by decide +kernel
theorem d290_1706 : decode code 1706 = .ok (.ifCond .eq 5, 3) := by decide +kernel
theorem d290_1709 : decode code 1709 = .ok (.iconst 0, 1) := by decide +kernel
theorem d290_1710 : decode code 1710 = .ok (.ireturn, 1) := by decide +kernel
theorem d290_1711 : decode code 1711 = .ok (.goto 1290, 3) := by decide +kernel
theorem d290_1714 : decode code 1714 = .ok (.aload_n 1, 1) := by decide +kernel
theorem d290_1715 : decode code 1715 = .ok (.aload_n 0, 1) := by decide +kernel
theorem d290_1716 : decode code 1716 = .ok (.iload 5, 2) := by decide +kernel
theorem d290_1718 : decode code 1718 = .ok (.iconst 1, 1) := by decide +kernel
theorem d290_1719 : decode code 1719 = .ok (.iadd, 1) := by decide +kernel
theorem d290_1720 : decode code 1720 = .ok (.iaload, 1) := by decide +kernel
theorem d290_1721 : decode code 1721 = .ok (.aload_n 3, 1) := by decide +kernel
theorem d290_1722 : decode code 1722 = .ok (.invokestatic 252, 3) := by decide +kernel
theorem d290_1725 : decode code 1725 = .ok (.istore 6, 2) := by decide +kernel
theorem d290_1727 : decode code 1727 = .ok (.aload_n 2, 1) := by decide +kernel
theorem d290_1728 : decode code 1728 = .ok (.aload_n 0, 1) := by decide +kernel
theorem d290_1729 : decode code 1729 = .ok (.iload 5, 2) := by decide +kernel
theorem d290_1731 : decode code 1731 = .ok (.iconst 1, 1) := by decide +kernel
theorem d290_1732 : decode code 1732 = .ok (.iadd, 1) := by decide +kernel
theorem d290_1733 : decode code 1733 = .ok (.iaload, 1) := by decide +kernel
theorem d290_1734 : decode code 1734 = .ok (.invokevirtual 254, 3) := by decide +kernel
theorem d290_1737 : decode code 1737 = .ok (.istore 7, 2) := by decide +kernel
theorem d290_1739 : decode code 1739 = .ok (.aload_n 2, 1) := by decide +kernel
theorem d290_1740 : decode code 1740 = .ok (.invokevirtual 172, 3) := by decide +kernel
theorem d290_1743 : decode code 1743 = .ok (.iload 6, 2) := by decide +kernel
theorem d290_1745 : decode code 1745 = .ok (.if_icmp .eq 5, 3) := by decide +kernel
theorem d290_1748 : decode code 1748 = .ok (.iconst 0, 1) := by decide +kernel
theorem d290_1749 : decode code 1749 = .ok (.ireturn, 1) := by decide +kernel
theorem d290_1750 : decode code 1750 = .ok (.iload 6, 2) := by decide +kernel
theorem d290_1752 : decode code 1752 = .ok (.ifCond .ne 15, 3) := by decide +kernel
theorem d290_1755 : decode code 1755 = .ok (.aload_n 3, 1) := by decide +kernel
theorem d290_1756 : decode code 1756 = .ok (.iconst 0, 1) := by decide +kernel
theorem d290_1757 : decode code 1757 = .ok (.laload, 1) := by decide +kernel
theorem d290_1758 : decode code 1758 = .ok (.iload 7, 2) := by decide +kernel
theorem d290_1760 : decode code 1760 = .ok (.i2l, 1) := by decide +kernel
theorem d290_1761 : decode code 1761 = .ok (.lcmp, 1) := by decide +kernel
theorem d290_1762 : decode code 1762 = .ok (.ifCond .eq 5, 3) := by decide +kernel
theorem d290_1765 : decode code 1765 = .ok (.iconst 0, 1) := by decide +kernel
theorem d290_1766 : decode code 1766 = .ok (.ireturn, 1) := by decide +kernel
theorem d290_1767 : decode code 1767 = .ok (.goto 1234, 3) := by decide +kernel
theorem d290_1770 : decode code 1770 = .ok (.aload_n 1, 1) := by decide +kernel
theorem d290_1771 : decode code 1771 = .ok (.aload_n 0, 1) := by decide +kernel
theorem d290_1772 : decode code 1772 = .ok (.iload 5, 2) := by decide +kernel
theorem d290_1774 : decode code 1774 = .ok (.iconst 1, 1) := by decide +kernel
theorem d290_1775 : decode code 1775 = .ok (.iadd, 1) := by decide +kernel
theorem d290_1776 : decode code 1776 = .ok (.iaload, 1) := by decide +kernel
theorem d290_1777 : decode code 1777 = .ok (.aload_n 3, 1) := by decide +kernel
theorem d290_1778 : decode code 1778 = .ok (.invokestatic 255, 3) := by decide +kernel
theorem d290_1781 : decode code 1781 = .ok (.istore 6, 2) := by decide +kernel
theorem d290_1783 : decode code 1783 = .ok (.aload_n 2, 1) := by decide +kernel
theorem d290_1784 : decode code 1784 = .ok (.aload_n 0, 1) := by decide +kernel
theorem d290_1785 : decode code 1785 = .ok (.iload 5, 2) := by decide +kernel
theorem d290_1787 : decode code 1787 = .ok (.iconst 1, 1) := by decide +kernel
theorem d290_1788 : decode code 1788 = .ok (.iadd, 1) := by decide +kernel
theorem d290_1789 : decode code 1789 = .ok (.iaload, 1) := by decide +kernel
theorem d290_1790 : decode code 1790 = .ok (.invokevirtual 257, 3) := by decide +kernel
theorem d290_1793 : decode code 1793 = .ok (.istore 7, 2) := by decide +kernel
theorem d290_1795 : decode code 1795 = .ok (.aload_n 2, 1) := by decide +kernel
theorem d290_1796 : decode code 1796 = .ok (.invokevirtual 172, 3) := by decide +kernel
theorem d290_1799 : decode code 1799 = .ok (.iload 6, 2) := by decide +kernel
theorem d290_1801 : decode code 1801 = .ok (.if_icmp .eq 5, 3) := by decide +kernel
theorem d290_1804 : decode code 1804 = .ok (.iconst 0, 1) := by decide +kernel
theorem d290_1805 : decode code 1805 = .ok (.ireturn, 1) := by decide +kernel
theorem d290_1806 : decode code 1806 = .ok (.iload 6, 2) := by decide +kernel
theorem d290_1808 : decode code 1808 = .ok (.ifCond .ne 22, 3) := by decide +kernel
theorem d290_1811 : decode code 1811 = .ok (.aload_n 3, 1) := by decide +kernel
theorem d290_1812 : decode code 1812 = .ok (.iconst 0, 1) := by decide +kernel
theorem d290_1813 : decode code 1813 = .ok (.laload, 1) := by decide +kernel
theorem d290_1814 : decode code 1814 = .ok (.iload 7, 2) := by decide +kernel
theorem d290_1816 : decode code 1816 = .ok (.ifCond .eq 7, 3) := by decide +kernel
theorem d290_1819 : decode code 1819 = .ok (.lconst 1, 1) := by decide +kernel
theorem d290_1820 : decode code 1820 = .ok (.goto 4, 3) := by decide +kernel
theorem d290_1823 : decode code 1823 = .ok (.lconst 0, 1) := by decide +kernel
theorem d290_1824 : decode code 1824 = .ok (.lcmp, 1) := by decide +kernel
theorem d290_1825 : decode code 1825 = .ok (.ifCond .eq 5, 3) := by decide +kernel
theorem d290_1828 : decode code 1828 = .ok (.iconst 0, 1) := by decide +kernel
theorem d290_1829 : decode code 1829 = .ok (.ireturn, 1) := by decide +kernel
theorem d290_1830 : decode code 1830 = .ok (.goto 1171, 3) := by decide +kernel
theorem d290_1833 : decode code 1833 = .ok (.aload_n 1, 1) := by decide +kernel
theorem d290_1834 : decode code 1834 = .ok (.aload_n 0, 1) := by decide +kernel
theorem d290_1835 : decode code 1835 = .ok (.iload 5, 2) := by decide +kernel
theorem d290_1837 : decode code 1837 = .ok (.iconst 1, 1) := by decide +kernel
theorem d290_1838 : decode code 1838 = .ok (.iadd, 1) := by decide +kernel
theorem d290_1839 : decode code 1839 = .ok (.iaload, 1) := by decide +kernel
theorem d290_1840 : decode code 1840 = .ok (.aload_n 3, 1) := by decide +kernel
theorem d290_1841 : decode code 1841 = .ok (.invokestatic 258, 3) := by decide +kernel
theorem d290_1844 : decode code 1844 = .ok (.istore 6, 2) := by decide +kernel
theorem d290_1846 : decode code 1846 = .ok (.aload_n 2, 1) := by decide +kernel
theorem d290_1847 : decode code 1847 = .ok (.aload_n 0, 1) := by decide +kernel
theorem d290_1848 : decode code 1848 = .ok (.iload 5, 2) := by decide +kernel
theorem d290_1850 : decode code 1850 = .ok (.iconst 1, 1) := by decide +kernel
theorem d290_1851 : decode code 1851 = .ok (.iadd, 1) := by decide +kernel
theorem d290_1852 : decode code 1852 = .ok (.iaload, 1) := by decide +kernel
theorem d290_1853 : decode code 1853 = .ok (.invokevirtual 260, 3) := by decide +kernel
theorem d290_1856 : decode code 1856 = .ok (.istore 7, 2) := by decide +kernel
theorem d290_1858 : decode code 1858 = .ok (.aload_n 2, 1) := by decide +kernel
theorem d290_1859 : decode code 1859 = .ok (.invokevirtual 172, 3) := by decide +kernel
theorem d290_1862 : decode code 1862 = .ok (.iload 6, 2) := by decide +kernel
theorem d290_1864 : decode code 1864 = .ok (.if_icmp .eq 5, 3) := by decide +kernel
theorem d290_1867 : decode code 1867 = .ok (.iconst 0, 1) := by decide +kernel
theorem d290_1868 : decode code 1868 = .ok (.ireturn, 1) := by decide +kernel
theorem d290_1869 : decode code 1869 = .ok (.iload 6, 2) := by decide +kernel
theorem d290_1871 : decode code 1871 = .ok (.ifCond .ne 15, 3) := by decide +kernel
theorem d290_1874 : decode code 1874 = .ok (.aload_n 3, 1) := by decide +kernel
theorem d290_1875 : decode code 1875 = .ok (.iconst 0, 1) := by decide +kernel
theorem d290_1876 : decode code 1876 = .ok (.laload, 1) := by decide +kernel
theorem d290_1877 : decode code 1877 = .ok (.iload 7, 2) := by decide +kernel
theorem d290_1879 : decode code 1879 = .ok (.i2l, 1) := by decide +kernel
theorem d290_1880 : decode code 1880 = .ok (.lcmp, 1) := by decide +kernel
theorem d290_1881 : decode code 1881 = .ok (.ifCond .eq 5, 3) := by decide +kernel
theorem d290_1884 : decode code 1884 = .ok (.iconst 0, 1) := by decide +kernel
theorem d290_1885 : decode code 1885 = .ok (.ireturn, 1) := by decide +kernel
theorem d290_1886 : decode code 1886 = .ok (.goto 1115, 3) := by decide +kernel
theorem d290_1889 : decode code 1889 = .ok (.aload_n 1, 1) := by decide +kernel
theorem d290_1890 : decode code 1890 = .ok (.aload_n 0, 1) := by decide +kernel
theorem d290_1891 : decode code 1891 = .ok (.iload 5, 2) := by decide +kernel
theorem d290_1893 : decode code 1893 = .ok (.iconst 1, 1) := by decide +kernel
theorem d290_1894 : decode code 1894 = .ok (.iadd, 1) := by decide +kernel
theorem d290_1895 : decode code 1895 = .ok (.iaload, 1) := by decide +kernel
theorem d290_1896 : decode code 1896 = .ok (.aload_n 0, 1) := by decide +kernel
theorem d290_1897 : decode code 1897 = .ok (.iload 5, 2) := by decide +kernel
theorem d290_1899 : decode code 1899 = .ok (.iconst 2, 1) := by decide +kernel
theorem d290_1900 : decode code 1900 = .ok (.iadd, 1) := by decide +kernel
theorem d290_1901 : decode code 1901 = .ok (.iaload, 1) := by decide +kernel
theorem d290_1902 : decode code 1902 = .ok (.aload_n 3, 1) := by decide +kernel
theorem d290_1903 : decode code 1903 = .ok (.invokestatic 261, 3) := by decide +kernel
theorem d290_1906 : decode code 1906 = .ok (.istore 6, 2) := by decide +kernel
theorem d290_1908 : decode code 1908 = .ok (.aload_n 2, 1) := by decide +kernel
theorem d290_1909 : decode code 1909 = .ok (.aload_n 0, 1) := by decide +kernel
theorem d290_1910 : decode code 1910 = .ok (.iload 5, 2) := by decide +kernel
theorem d290_1912 : decode code 1912 = .ok (.iconst 1, 1) := by decide +kernel
theorem d290_1913 : decode code 1913 = .ok (.iadd, 1) := by decide +kernel
theorem d290_1914 : decode code 1914 = .ok (.iaload, 1) := by decide +kernel
theorem d290_1915 : decode code 1915 = .ok (.aload_n 0, 1) := by decide +kernel
theorem d290_1916 : decode code 1916 = .ok (.iload 5, 2) := by decide +kernel
theorem d290_1918 : decode code 1918 = .ok (.iconst 2, 1) := by decide +kernel
theorem d290_1919 : decode code 1919 = .ok (.iadd, 1) := by decide +kernel
theorem d290_1920 : decode code 1920 = .ok (.iaload, 1) := by decide +kernel
theorem d290_1921 : decode code 1921 = .ok (.invokevirtual 263, 3) := by decide +kernel
theorem d290_1924 : decode code 1924 = .ok (.istore 7, 2) := by decide +kernel
theorem d290_1926 : decode code 1926 = .ok (.aload_n 2, 1) := by decide +kernel
theorem d290_1927 : decode code 1927 = .ok (.invokevirtual 172, 3) := by decide +kernel
theorem d290_1930 : decode code 1930 = .ok (.iload 6, 2) := by decide +kernel
theorem d290_1932 : decode code 1932 = .ok (.if_icmp .eq 5, 3) := by decide +kernel
theorem d290_1935 : decode code 1935 = .ok (.iconst 0, 1) := by decide +kernel
theorem d290_1936 : decode code 1936 = .ok (.ireturn, 1) := by decide +kernel
theorem d290_1937 : decode code 1937 = .ok (.iload 6, 2) := by decide +kernel
theorem d290_1939 : decode code 1939 = .ok (.ifCond .ne 22, 3) := by decide +kernel
theorem d290_1942 : decode code 1942 = .ok (.aload_n 3, 1) := by decide +kernel
theorem d290_1943 : decode code 1943 = .ok (.iconst 0, 1) := by decide +kernel
theorem d290_1944 : decode code 1944 = .ok (.laload, 1) := by decide +kernel
theorem d290_1945 : decode code 1945 = .ok (.iload 7, 2) := by decide +kernel
theorem d290_1947 : decode code 1947 = .ok (.ifCond .eq 7, 3) := by decide +kernel
theorem d290_1950 : decode code 1950 = .ok (.lconst 1, 1) := by decide +kernel
theorem d290_1951 : decode code 1951 = .ok (.goto 4, 3) := by decide +kernel
theorem d290_1954 : decode code 1954 = .ok (.lconst 0, 1) := by decide +kernel
theorem d290_1955 : decode code 1955 = .ok (.lcmp, 1) := by decide +kernel
theorem d290_1956 : decode code 1956 = .ok (.ifCond .eq 5, 3) := by decide +kernel
theorem d290_1959 : decode code 1959 = .ok (.iconst 0, 1) := by decide +kernel
theorem d290_1960 : decode code 1960 = .ok (.ireturn, 1) := by decide +kernel
theorem d290_1961 : decode code 1961 = .ok (.goto 1040, 3) := by decide +kernel
theorem d290_1964 : decode code 1964 = .ok (.aload_n 1, 1) := by decide +kernel
theorem d290_1965 : decode code 1965 = .ok (.aload_n 0, 1) := by decide +kernel
theorem d290_1966 : decode code 1966 = .ok (.iload 5, 2) := by decide +kernel
theorem d290_1968 : decode code 1968 = .ok (.iconst 1, 1) := by decide +kernel
theorem d290_1969 : decode code 1969 = .ok (.iadd, 1) := by decide +kernel
theorem d290_1970 : decode code 1970 = .ok (.iaload, 1) := by decide +kernel
theorem d290_1971 : decode code 1971 = .ok (.aload_n 0, 1) := by decide +kernel
theorem d290_1972 : decode code 1972 = .ok (.iload 5, 2) := by decide +kernel
theorem d290_1974 : decode code 1974 = .ok (.iconst 2, 1) := by decide +kernel
theorem d290_1975 : decode code 1975 = .ok (.iadd, 1) := by decide +kernel
theorem d290_1976 : decode code 1976 = .ok (.iaload, 1) := by decide +kernel
theorem d290_1977 : decode code 1977 = .ok (.aload_n 3, 1) := by decide +kernel
theorem d290_1978 : decode code 1978 = .ok (.invokestatic 264, 3) := by decide +kernel
theorem d290_1981 : decode code 1981 = .ok (.istore 6, 2) := by decide +kernel
theorem d290_1983 : decode code 1983 = .ok (.aload_n 2, 1) := by decide +kernel
theorem d290_1984 : decode code 1984 = .ok (.aload_n 0, 1) := by decide +kernel
theorem d290_1985 : decode code 1985 = .ok (.iload 5, 2) := by decide +kernel
theorem d290_1987 : decode code 1987 = .ok (.iconst 1, 1) := by decide +kernel
theorem d290_1988 : decode code 1988 = .ok (.iadd, 1) := by decide +kernel
theorem d290_1989 : decode code 1989 = .ok (.iaload, 1) := by decide +kernel
theorem d290_1990 : decode code 1990 = .ok (.aload_n 0, 1) := by decide +kernel
theorem d290_1991 : decode code 1991 = .ok (.iload 5, 2) := by decide +kernel
theorem d290_1993 : decode code 1993 = .ok (.iconst 2, 1) := by decide +kernel
theorem d290_1994 : decode code 1994 = .ok (.iadd, 1) := by decide +kernel
theorem d290_1995 : decode code 1995 = .ok (.iaload, 1) := by decide +kernel
theorem d290_1996 : decode code 1996 = .ok (.invokevirtual 266, 3) := by decide +kernel
theorem d290_1999 : decode code 1999 = .ok (.istore 7, 2) := by decide +kernel
theorem d290_2001 : decode code 2001 = .ok (.aload_n 2, 1) := by decide +kernel
theorem d290_2002 : decode code 2002 = .ok (.invokevirtual 172, 3) := by decide +kernel
theorem d290_2005 : decode code 2005 = .ok (.iload 6, 2) := by decide +kernel
theorem d290_2007 : decode code 2007 = .ok (.if_icmp .eq 5, 3) := by decide +kernel
theorem d290_2010 : decode code 2010 = .ok (.iconst 0, 1) := by decide +kernel
theorem d290_2011 : decode code 2011 = .ok (.ireturn, 1) := by decide +kernel
theorem d290_2012 : decode code 2012 = .ok (.iload 6, 2) := by decide +kernel
theorem d290_2014 : decode code 2014 = .ok (.ifCond .ne 15, 3) := by decide +kernel
theorem d290_2017 : decode code 2017 = .ok (.aload_n 3, 1) := by decide +kernel
theorem d290_2018 : decode code 2018 = .ok (.iconst 0, 1) := by decide +kernel
theorem d290_2019 : decode code 2019 = .ok (.laload, 1) := by decide +kernel
theorem d290_2020 : decode code 2020 = .ok (.iload 7, 2) := by decide +kernel
theorem d290_2022 : decode code 2022 = .ok (.i2l, 1) := by decide +kernel
theorem d290_2023 : decode code 2023 = .ok (.lcmp, 1) := by decide +kernel
theorem d290_2024 : decode code 2024 = .ok (.ifCond .eq 5, 3) := by decide +kernel
theorem d290_2027 : decode code 2027 = .ok (.iconst 0, 1) := by decide +kernel
theorem d290_2028 : decode code 2028 = .ok (.ireturn, 1) := by decide +kernel
theorem d290_2029 : decode code 2029 = .ok (.goto 972, 3) := by decide +kernel
theorem d290_2032 : decode code 2032 = .ok (.aload_n 1, 1) := by decide +kernel
theorem d290_2033 : decode code 2033 = .ok (.aload_n 0, 1) := by decide +kernel
theorem d290_2034 : decode code 2034 = .ok (.iload 5, 2) := by decide +kernel
theorem d290_2036 : decode code 2036 = .ok (.iconst 1, 1) := by decide +kernel
theorem d290_2037 : decode code 2037 = .ok (.iadd, 1) := by decide +kernel
theorem d290_2038 : decode code 2038 = .ok (.iaload, 1) := by decide +kernel
theorem d290_2039 : decode code 2039 = .ok (.aload_n 3, 1) := by decide +kernel
theorem d290_2040 : decode code 2040 = .ok (.invokestatic 267, 3) := by decide +kernel
theorem d290_2043 : decode code 2043 = .ok (.istore 6, 2) := by decide +kernel
theorem d290_2045 : decode code 2045 = .ok (.aload_n 2, 1) := by decide +kernel
theorem d290_2046 : decode code 2046 = .ok (.aload_n 0, 1) := by decide +kernel
theorem d290_2047 : decode code 2047 = .ok (.iload 5, 2) := by decide +kernel
theorem d290_2049 : decode code 2049 = .ok (.iconst 1, 1) := by decide +kernel
theorem d290_2050 : decode code 2050 = .ok (.iadd, 1) := by decide +kernel
theorem d290_2051 : decode code 2051 = .ok (.iaload, 1) := by decide +kernel
theorem d290_2052 : decode code 2052 = .ok (.invokevirtual 269, 3) := by decide +kernel
theorem d290_2055 : decode code 2055 = .ok (.istore 7, 2) := by decide +kernel
theorem d290_2057 : decode code 2057 = .ok (.aload_n 2, 1) := by decide +kernel
theorem d290_2058 : decode code 2058 = .ok (.invokevirtual 172, 3) := by decide +kernel
theorem d290_2061 : decode code 2061 = .ok (.iload 6, 2) := by decide +kernel
theorem d290_2063 : decode code 2063 = .ok (.if_icmp .eq 5, 3) := by decide +kernel
theorem d290_2066 : decode code 2066 = .ok (.iconst 0, 1) := by decide +kernel
theorem d290_2067 : decode code 2067 = .ok (.ireturn, 1) := by decide +kernel
theorem d290_2068 : decode code 2068 = .ok (.iload 6, 2) := by decide +kernel
theorem d290_2070 : decode code 2070 = .ok (.ifCond .ne 15, 3) := by decide +kernel
theorem d290_2073 : decode code 2073 = .ok (.aload_n 3, 1) := by decide +kernel
theorem d290_2074 : decode code 2074 = .ok (.iconst 0, 1) := by decide +kernel
theorem d290_2075 : decode code 2075 = .ok (.laload, 1) := by decide +kernel
theorem d290_2076 : decode code 2076 = .ok (.iload 7, 2) := by decide +kernel
theorem d290_2078 : decode code 2078 = .ok (.i2l, 1) := by decide +kernel
theorem d290_2079 : decode code 2079 = .ok (.lcmp, 1) := by decide +kernel
theorem d290_2080 : decode code 2080 = .ok (.ifCond .eq 5, 3) := by decide +kernel
theorem d290_2083 : decode code 2083 = .ok (.iconst 0, 1) := by decide +kernel
theorem d290_2084 : decode code 2084 = .ok (.ireturn, 1) := by decide +kernel
theorem d290_2085 : decode code 2085 = .ok (.goto 916, 3) := by decide +kernel
theorem d290_2088 : decode code 2088 = .ok (.aload_n 1, 1) := by decide +kernel
theorem d290_2089 : decode code 2089 = .ok (.aload_n 0, 1) := by decide +kernel
theorem d290_2090 : decode code 2090 = .ok (.iload 5, 2) := by decide +kernel
theorem d290_2092 : decode code 2092 = .ok (.iconst 1, 1) := by decide +kernel
theorem d290_2093 : decode code 2093 = .ok (.iadd, 1) := by decide +kernel
theorem d290_2094 : decode code 2094 = .ok (.iaload, 1) := by decide +kernel
theorem d290_2095 : decode code 2095 = .ok (.aload_n 3, 1) := by decide +kernel
theorem d290_2096 : decode code 2096 = .ok (.invokestatic 270, 3) := by decide +kernel
theorem d290_2099 : decode code 2099 = .ok (.istore 6, 2) := by decide +kernel
theorem d290_2101 : decode code 2101 = .ok (.aload_n 2, 1) := by decide +kernel
theorem d290_2102 : decode code 2102 = .ok (.aload_n 0, 1) := by decide +kernel
theorem d290_2103 : decode code 2103 = .ok (.iload 5, 2) := by decide +kernel
theorem d290_2105 : decode code 2105 = .ok (.iconst 1, 1) := by decide +kernel
theorem d290_2106 : decode code 2106 = .ok (.iadd, 1) := by decide +kernel
theorem d290_2107 : decode code 2107 = .ok (.iaload, 1) := by decide +kernel
theorem d290_2108 : decode code 2108 = .ok (.invokevirtual 272, 3) := by decide +kernel
theorem d290_2111 : decode code 2111 = .ok (.istore 7, 2) := by decide +kernel
theorem d290_2113 : decode code 2113 = .ok (.aload_n 2, 1) := by decide +kernel
theorem d290_2114 : decode code 2114 = .ok (.invokevirtual 172, 3) := by decide +kernel
theorem d290_2117 : decode code 2117 = .ok (.iload 6, 2) := by decide +kernel
theorem d290_2119 : decode code 2119 = .ok (.if_icmp .eq 5, 3) := by decide +kernel
theorem d290_2122 : decode code 2122 = .ok (.iconst 0, 1) := by decide +kernel
theorem d290_2123 : decode code 2123 = .ok (.ireturn, 1) := by decide +kernel
theorem d290_2124 : decode code 2124 = .ok (.iload 6, 2) := by decide +kernel
theorem d290_2126 : decode code 2126 = .ok (.ifCond .ne 15, 3) := by decide +kernel
theorem d290_2129 : decode code 2129 = .ok (.aload_n 3, 1) := by decide +kernel
theorem d290_2130 : decode code 2130 = .ok (.iconst 0, 1) := by decide +kernel
theorem d290_2131 : decode code 2131 = .ok (.laload, 1) := by decide +kernel
theorem d290_2132 : decode code 2132 = .ok (.iload 7, 2) := by decide +kernel
theorem d290_2134 : decode code 2134 = .ok (.i2l, 1) := by decide +kernel
theorem d290_2135 : decode code 2135 = .ok (.lcmp, 1) := by decide +kernel
theorem d290_2136 : decode code 2136 = .ok (.ifCond .eq 5, 3) := by decide +kernel
theorem d290_2139 : decode code 2139 = .ok (.iconst 0, 1) := by decide +kernel
theorem d290_2140 : decode code 2140 = .ok (.ireturn, 1) := by decide +kernel
theorem d290_2141 : decode code 2141 = .ok (.goto 860, 3) := by decide +kernel
theorem d290_2144 : decode code 2144 = .ok (.aload_n 1, 1) := by decide +kernel
theorem d290_2145 : decode code 2145 = .ok (.aload_n 0, 1) := by decide +kernel
theorem d290_2146 : decode code 2146 = .ok (.iload 5, 2) := by decide +kernel
theorem d290_2148 : decode code 2148 = .ok (.iconst 1, 1) := by decide +kernel
theorem d290_2149 : decode code 2149 = .ok (.iadd, 1) := by decide +kernel
theorem d290_2150 : decode code 2150 = .ok (.iaload, 1) := by decide +kernel
theorem d290_2151 : decode code 2151 = .ok (.aload_n 3, 1) := by decide +kernel
theorem d290_2152 : decode code 2152 = .ok (.invokestatic 273, 3) := by decide +kernel
theorem d290_2155 : decode code 2155 = .ok (.istore 6, 2) := by decide +kernel
theorem d290_2157 : decode code 2157 = .ok (.aload_n 2, 1) := by decide +kernel
theorem d290_2158 : decode code 2158 = .ok (.aload_n 0, 1) := by decide +kernel
theorem d290_2159 : decode code 2159 = .ok (.iload 5, 2) := by decide +kernel
theorem d290_2161 : decode code 2161 = .ok (.iconst 1, 1) := by decide +kernel
theorem d290_2162 : decode code 2162 = .ok (.iadd, 1) := by decide +kernel
theorem d290_2163 : decode code 2163 = .ok (.iaload, 1) := by decide +kernel
theorem d290_2164 : decode code 2164 = .ok (.invokevirtual 275, 3) := by decide +kernel
theorem d290_2167 : decode code 2167 = .ok (.istore 7, 2) := by decide +kernel
theorem d290_2169 : decode code 2169 = .ok (.aload_n 2, 1) := by decide +kernel
theorem d290_2170 : decode code 2170 = .ok (.invokevirtual 172, 3) := by decide +kernel
theorem d290_2173 : decode code 2173 = .ok (.iload 6, 2) := by decide +kernel
theorem d290_2175 : decode code 2175 = .ok (.if_icmp .eq 5, 3) := by decide +kernel
theorem d290_2178 : decode code 2178 = .ok (.iconst 0, 1) := by decide +kernel
theorem d290_2179 : decode code 2179 = .ok (.ireturn, 1) := by decide +kernel
theorem d290_2180 : decode code 2180 = .ok (.iload 6, 2) := by decide +kernel
theorem d290_2182 : decode code 2182 = .ok (.ifCond .ne 15, 3) := by decide +kernel
theorem d290_2185 : decode code 2185 = .ok (.aload_n 3, 1) := by decide +kernel
theorem d290_2186 : decode code 2186 = .ok (.iconst 0, 1) := by decide +kernel
theorem d290_2187 : decode code 2187 = .ok (.laload, 1) := by decide +kernel
theorem d290_2188 : decode code 2188 = .ok (.iload 7, 2) := by decide +kernel
theorem d290_2190 : decode code 2190 = .ok (.i2l, 1) := by decide +kernel
theorem d290_2191 : decode code 2191 = .ok (.lcmp, 1) := by decide +kernel
theorem d290_2192 : decode code 2192 = .ok (.ifCond .eq 5, 3) := by decide +kernel
theorem d290_2195 : decode code 2195 = .ok (.iconst 0, 1) := by decide +kernel
theorem d290_2196 : decode code 2196 = .ok (.ireturn, 1) := by decide +kernel
theorem d290_2197 : decode code 2197 = .ok (.goto 804, 3) := by decide +kernel
theorem d290_2200 : decode code 2200 = .ok (.aload_n 1, 1) := by decide +kernel
theorem d290_2201 : decode code 2201 = .ok (.aload_n 0, 1) := by decide +kernel
theorem d290_2202 : decode code 2202 = .ok (.iload 5, 2) := by decide +kernel
theorem d290_2204 : decode code 2204 = .ok (.iconst 1, 1) := by decide +kernel
theorem d290_2205 : decode code 2205 = .ok (.iadd, 1) := by decide +kernel
theorem d290_2206 : decode code 2206 = .ok (.iaload, 1) := by decide +kernel
theorem d290_2207 : decode code 2207 = .ok (.aload_n 0, 1) := by decide +kernel
theorem d290_2208 : decode code 2208 = .ok (.iload 5, 2) := by decide +kernel
theorem d290_2210 : decode code 2210 = .ok (.iconst 2, 1) := by decide +kernel
theorem d290_2211 : decode code 2211 = .ok (.iadd, 1) := by decide +kernel
theorem d290_2212 : decode code 2212 = .ok (.iaload, 1) := by decide +kernel
theorem d290_2213 : decode code 2213 = .ok (.aload_n 3, 1) := by decide +kernel
theorem d290_2214 : decode code 2214 = .ok (.invokestatic 276, 3) := by decide +kernel
theorem d290_2217 : decode code 2217 = .ok (.istore 6, 2) := by decide +kernel
theorem d290_2219 : decode code 2219 = .ok (.aload_n 2, 1) := by decide +kernel
theorem d290_2220 : decode code 2220 = .ok (.aload_n 0, 1) := by decide +kernel
theorem d290_2221 : decode code 2221 = .ok (.iload 5, 2) := by decide +kernel
theorem d290_2223 : decode code 2223 = .ok (.iconst 1, 1) := by decide +kernel
theorem d290_2224 : decode code 2224 = .ok (.iadd, 1) := by decide +kernel
theorem d290_2225 : decode code 2225 = .ok (.iaload, 1) := by decide +kernel
theorem d290_2226 : decode code 2226 = .ok (.aload_n 0, 1) := by decide +kernel
theorem d290_2227 : decode code 2227 = .ok (.iload 5, 2) := by decide +kernel
theorem d290_2229 : decode code 2229 = .ok (.iconst 2, 1) := by decide +kernel
theorem d290_2230 : decode code 2230 = .ok (.iadd, 1) := by decide +kernel
theorem d290_2231 : decode code 2231 = .ok (.iaload, 1) := by decide +kernel
theorem d290_2232 : decode code 2232 = .ok (.invokevirtual 278, 3) := by decide +kernel
theorem d290_2235 : decode code 2235 = .ok (.istore 7, 2) := by decide +kernel
theorem d290_2237 : decode code 2237 = .ok (.aload_n 2, 1) := by decide +kernel
theorem d290_2238 : decode code 2238 = .ok (.invokevirtual 172, 3) := by decide +kernel
theorem d290_2241 : decode code 2241 = .ok (.iload 6, 2) := by decide +kernel
theorem d290_2243 : decode code 2243 = .ok (.if_icmp .eq 5, 3) := by decide +kernel
theorem d290_2246 : decode code 2246 = .ok (.iconst 0, 1) := by decide +kernel
theorem d290_2247 : decode code 2247 = .ok (.ireturn, 1) := by decide +kernel
theorem d290_2248 : decode code 2248 = .ok (.iload 6, 2) := by decide +kernel
theorem d290_2250 : decode code 2250 = .ok (.ifCond .ne 15, 3) := by decide +kernel
theorem d290_2253 : decode code 2253 = .ok (.aload_n 3, 1) := by decide +kernel
theorem d290_2254 : decode code 2254 = .ok (.iconst 0, 1) := by decide +kernel
theorem d290_2255 : decode code 2255 = .ok (.laload, 1) := by decide +kernel
theorem d290_2256 : decode code 2256 = .ok (.iload 7, 2) := by decide +kernel
theorem d290_2258 : decode code 2258 = .ok (.i2l, 1) := by decide +kernel
theorem d290_2259 : decode code 2259 = .ok (.lcmp, 1) := by decide +kernel
theorem d290_2260 : decode code 2260 = .ok (.ifCond .eq 5, 3) := by decide +kernel
