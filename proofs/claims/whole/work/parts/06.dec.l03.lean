theorem dL_law_1730 : decode cL_law 1730 = .ok (.iload_n 3, 1) := by decide +kernel
theorem dL_law_1731 : decode cL_law 1731 = .ok (.iconst 3, 1) := by decide +kernel
theorem dL_law_1732 : decode cL_law 1732 = .ok (.iadd, 1) := by decide +kernel
theorem dL_law_1733 : decode cL_law 1733 = .ok (.iaload, 1) := by decide +kernel
theorem dL_law_1734 : decode cL_law 1734 = .ok (.invokevirtual 182, 3) := by decide +kernel
theorem dL_law_1737 : decode cL_law 1737 = .ok (.lcmp, 1) := by decide +kernel
theorem dL_law_1738 : decode cL_law 1738 = .ok (.ifCond .eq 624, 3) := by decide +kernel
theorem dL_law_1741 : decode cL_law 1741 = .ok (.iconst 0, 1) := by decide +kernel
theorem dL_law_1742 : decode cL_law 1742 = .ok (.ireturn, 1) := by decide +kernel
theorem dL_law_1743 : decode cL_law 1743 = .ok (.aload_n 1, 1) := by decide +kernel
theorem dL_law_1744 : decode cL_law 1744 = .ok (.aload_n 0, 1) := by decide +kernel
theorem dL_law_1745 : decode cL_law 1745 = .ok (.iload_n 3, 1) := by decide +kernel
theorem dL_law_1746 : decode cL_law 1746 = .ok (.iconst 1, 1) := by decide +kernel
theorem dL_law_1747 : decode cL_law 1747 = .ok (.iadd, 1) := by decide +kernel
theorem dL_law_1748 : decode cL_law 1748 = .ok (.iaload, 1) := by decide +kernel
theorem dL_law_1749 : decode cL_law 1749 = .ok (.aload_n 0, 1) := by decide +kernel
theorem dL_law_1750 : decode cL_law 1750 = .ok (.iload_n 3, 1) := by decide +kernel
theorem dL_law_1751 : decode cL_law 1751 = .ok (.iconst 2, 1) := by decide +kernel
theorem dL_law_1752 : decode cL_law 1752 = .ok (.iadd, 1) := by decide +kernel
theorem dL_law_1753 : decode cL_law 1753 = .ok (.iaload, 1) := by decide +kernel
theorem dL_law_1754 : decode cL_law 1754 = .ok (.aload_n 0, 1) := by decide +kernel
theorem dL_law_1755 : decode cL_law 1755 = .ok (.iload_n 3, 1) := by decide +kernel
theorem dL_law_1756 : decode cL_law 1756 = .ok (.iconst 3, 1) := by decide +kernel
theorem dL_law_1757 : decode cL_law 1757 = .ok (.iadd, 1) := by decide +kernel
theorem dL_law_1758 : decode cL_law 1758 = .ok (.iaload, 1) := by decide +kernel
theorem dL_law_1759 : decode cL_law 1759 = .ok (.invokevirtual 183, 3) := by decide +kernel
theorem dL_law_1762 : decode cL_law 1762 = .ok (.aload_n 2, 1) := by decide +kernel
theorem dL_law_1763 : decode cL_law 1763 = .ok (.aload_n 0, 1) := by decide +kernel
theorem dL_law_1764 : decode cL_law 1764 = .ok (.iload_n 3, 1) := by decide +kernel
theorem dL_law_1765 : decode cL_law 1765 = .ok (.iconst 1, 1) := by decide +kernel
theorem dL_law_1766 : decode cL_law 1766 = .ok (.iadd, 1) := by decide +kernel
theorem dL_law_1767 : decode cL_law 1767 = .ok (.iaload, 1) := by decide +kernel
theorem dL_law_1768 : decode cL_law 1768 = .ok (.aload_n 0, 1) := by decide +kernel
theorem dL_law_1769 : decode cL_law 1769 = .ok (.iload_n 3, 1) := by decide +kernel
theorem dL_law_1770 : decode cL_law 1770 = .ok (.iconst 2, 1) := by decide +kernel
theorem dL_law_1771 : decode cL_law 1771 = .ok (.iadd, 1) := by decide +kernel
theorem dL_law_1772 : decode cL_law 1772 = .ok (.iaload, 1) := by decide +kernel
theorem dL_law_1773 : decode cL_law 1773 = .ok (.aload_n 0, 1) := by decide +kernel
theorem dL_law_1774 : decode cL_law 1774 = .ok (.iload_n 3, 1) := by decide +kernel
theorem dL_law_1775 : decode cL_law 1775 = .ok (.iconst 3, 1) := by decide +kernel
theorem dL_law_1776 : decode cL_law 1776 = .ok (.iadd, 1) := by decide +kernel
theorem dL_law_1777 : decode cL_law 1777 = .ok (.iaload, 1) := by decide +kernel
theorem dL_law_1778 : decode cL_law 1778 = .ok (.invokevirtual 186, 3) := by decide +kernel
theorem dL_law_1781 : decode cL_law 1781 = .ok (.lcmp, 1) := by decide +kernel
theorem dL_law_1782 : decode cL_law 1782 = .ok (.ifCond .eq 580, 3) := by decide +kernel
theorem dL_law_1785 : decode cL_law 1785 = .ok (.iconst 0, 1) := by decide +kernel
theorem dL_law_1786 : decode cL_law 1786 = .ok (.ireturn, 1) := by decide +kernel
theorem dL_law_1787 : decode cL_law 1787 = .ok (.aload_n 1, 1) := by decide +kernel
theorem dL_law_1788 : decode cL_law 1788 = .ok (.aload_n 0, 1) := by decide +kernel
theorem dL_law_1789 : decode cL_law 1789 = .ok (.iload_n 3, 1) := by decide +kernel
theorem dL_law_1790 : decode cL_law 1790 = .ok (.iconst 1, 1) := by decide +kernel
theorem dL_law_1791 : decode cL_law 1791 = .ok (.iadd, 1) := by decide +kernel
theorem dL_law_1792 : decode cL_law 1792 = .ok (.iaload, 1) := by decide +kernel
theorem dL_law_1793 : decode cL_law 1793 = .ok (.aload_n 0, 1) := by decide +kernel
theorem dL_law_1794 : decode cL_law 1794 = .ok (.iload_n 3, 1) := by decide +kernel
theorem dL_law_1795 : decode cL_law 1795 = .ok (.iconst 2, 1) := by decide +kernel
theorem dL_law_1796 : decode cL_law 1796 = .ok (.iadd, 1) := by decide +kernel
theorem dL_law_1797 : decode cL_law 1797 = .ok (.iaload, 1) := by decide +kernel
theorem dL_law_1798 : decode cL_law 1798 = .ok (.aload_n 0, 1) := by decide +kernel
theorem dL_law_1799 : decode cL_law 1799 = .ok (.iload_n 3, 1) := by decide +kernel
theorem dL_law_1800 : decode cL_law 1800 = .ok (.iconst 3, 1) := by decide +kernel
theorem dL_law_1801 : decode cL_law 1801 = .ok (.iadd, 1) := by decide +kernel
theorem dL_law_1802 : decode cL_law 1802 = .ok (.iaload, 1) := by decide +kernel
theorem dL_law_1803 : decode cL_law 1803 = .ok (.aload_n 0, 1) := by decide +kernel
theorem dL_law_1804 : decode cL_law 1804 = .ok (.iload_n 3, 1) := by decide +kernel
theorem dL_law_1805 : decode cL_law 1805 = .ok (.iconst 4, 1) := by decide +kernel
theorem dL_law_1806 : decode cL_law 1806 = .ok (.iadd, 1) := by decide +kernel
theorem dL_law_1807 : decode cL_law 1807 = .ok (.iaload, 1) := by decide +kernel
theorem dL_law_1808 : decode cL_law 1808 = .ok (.invokevirtual 187, 3) := by decide +kernel
theorem dL_law_1811 : decode cL_law 1811 = .ok (.aload_n 2, 1) := by decide +kernel
theorem dL_law_1812 : decode cL_law 1812 = .ok (.aload_n 0, 1) := by decide +kernel
theorem dL_law_1813 : decode cL_law 1813 = .ok (.iload_n 3, 1) := by decide +kernel
theorem dL_law_1814 : decode cL_law 1814 = .ok (.iconst 1, 1) := by decide +kernel
theorem dL_law_1815 : decode cL_law 1815 = .ok (.iadd, 1) := by decide +kernel
theorem dL_law_1816 : decode cL_law 1816 = .ok (.iaload, 1) := by decide +kernel
theorem dL_law_1817 : decode cL_law 1817 = .ok (.aload_n 0, 1) := by decide +kernel
theorem dL_law_1818 : decode cL_law 1818 = .ok (.iload_n 3, 1) := by decide +kernel
theorem dL_law_1819 : decode cL_law 1819 = .ok (.iconst 2, 1) := by decide +kernel
theorem dL_law_1820 : decode cL_law 1820 = .ok (.iadd, 1) := by decide +kernel
theorem dL_law_1821 : decode cL_law 1821 = .ok (.iaload, 1) := by decide +kernel
theorem dL_law_1822 : decode cL_law 1822 = .ok (.aload_n 0, 1) := by decide +kernel
theorem dL_law_1823 : decode cL_law 1823 = .ok (.iload_n 3, 1) := by decide +kernel
theorem dL_law_1824 : decode cL_law 1824 = .ok (.iconst 3, 1) := by decide +kernel
theorem dL_law_1825 : decode cL_law 1825 = .ok (.iadd, 1) := by decide +kernel
theorem dL_law_1826 : decode cL_law 1826 = .ok (.iaload, 1) := by decide +kernel
theorem dL_law_1827 : decode cL_law 1827 = .ok (.aload_n 0, 1) := by decide +kernel
theorem dL_law_1828 : decode cL_law 1828 = .ok (.iload_n 3, 1) := by decide +kernel
theorem dL_law_1829 : decode cL_law 1829 = .ok (.iconst 4, 1) := by decide +kernel
theorem dL_law_1830 : decode cL_law 1830 = .ok (.iadd, 1) := by decide +kernel
theorem dL_law_1831 : decode cL_law 1831 = .ok (.iaload, 1) := by decide +kernel
theorem dL_law_1832 : decode cL_law 1832 = .ok (.invokevirtual 190, 3) := by decide +kernel
theorem dL_law_1835 : decode cL_law 1835 = .ok (.lcmp, 1) := by decide +kernel
theorem dL_law_1836 : decode cL_law 1836 = .ok (.ifCond .eq 526, 3) := by decide +kernel
theorem dL_law_1839 : decode cL_law 1839 = .ok (.iconst 0, 1) := by decide +kernel
theorem dL_law_1840 : decode cL_law 1840 = .ok (.ireturn, 1) := by decide +kernel
theorem dL_law_1841 : decode cL_law 1841 = .ok (.aload_n 1, 1) := by decide +kernel
theorem dL_law_1842 : decode cL_law 1842 = .ok (.aload_n 0, 1) := by decide +kernel
theorem dL_law_1843 : decode cL_law 1843 = .ok (.iload_n 3, 1) := by decide +kernel
theorem dL_law_1844 : decode cL_law 1844 = .ok (.iconst 1, 1) := by decide +kernel
theorem dL_law_1845 : decode cL_law 1845 = .ok (.iadd, 1) := by decide +kernel
theorem dL_law_1846 : decode cL_law 1846 = .ok (.iaload, 1) := by decide +kernel
theorem dL_law_1847 : decode cL_law 1847 = .ok (.aload_n 0, 1) := by decide +kernel
theorem dL_law_1848 : decode cL_law 1848 = .ok (.iload_n 3, 1) := by decide +kernel
theorem dL_law_1849 : decode cL_law 1849 = .ok (.iconst 2, 1) := by decide +kernel
theorem dL_law_1850 : decode cL_law 1850 = .ok (.iadd, 1) := by decide +kernel
theorem dL_law_1851 : decode cL_law 1851 = .ok (.iaload, 1) := by decide +kernel
theorem dL_law_1852 : decode cL_law 1852 = .ok (.aload_n 0, 1) := by decide +kernel
theorem dL_law_1853 : decode cL_law 1853 = .ok (.iload_n 3, 1) := by decide +kernel
theorem dL_law_1854 : decode cL_law 1854 = .ok (.iconst 3, 1) := by decide +kernel
theorem dL_law_1855 : decode cL_law 1855 = .ok (.iadd, 1) := by decide +kernel
theorem dL_law_1856 : decode cL_law 1856 = .ok (.iaload, 1) := by decide +kernel
theorem dL_law_1857 : decode cL_law 1857 = .ok (.invokevirtual 191, 3) := by decide +kernel
theorem dL_law_1860 : decode cL_law 1860 = .ok (.aload_n 2, 1) := by decide +kernel
theorem dL_law_1861 : decode cL_law 1861 = .ok (.aload_n 0, 1) := by decide +kernel
theorem dL_law_1862 : decode cL_law 1862 = .ok (.iload_n 3, 1) := by decide +kernel
theorem dL_law_1863 : decode cL_law 1863 = .ok (.iconst 1, 1) := by decide +kernel
theorem dL_law_1864 : decode cL_law 1864 = .ok (.iadd, 1) := by decide +kernel
theorem dL_law_1865 : decode cL_law 1865 = .ok (.iaload, 1) := by decide +kernel
theorem dL_law_1866 : decode cL_law 1866 = .ok (.aload_n 0, 1) := by decide +kernel
theorem dL_law_1867 : decode cL_law 1867 = .ok (.iload_n 3, 1) := by decide +kernel
theorem dL_law_1868 : decode cL_law 1868 = .ok (.iconst 2, 1) := by decide +kernel
theorem dL_law_1869 : decode cL_law 1869 = .ok (.iadd, 1) := by decide +kernel
theorem dL_law_1870 : decode cL_law 1870 = .ok (.iaload, 1) := by decide +kernel
theorem dL_law_1871 : decode cL_law 1871 = .ok (.aload_n 0, 1) := by decide +kernel
theorem dL_law_1872 : decode cL_law 1872 = .ok (.iload_n 3, 1) := by decide +kernel
theorem dL_law_1873 : decode cL_law 1873 = .ok (.iconst 3, 1) := by decide +kernel
theorem dL_law_1874 : decode cL_law 1874 = .ok (.iadd, 1) := by decide +kernel
theorem dL_law_1875 : decode cL_law 1875 = .ok (.iaload, 1) := by decide +kernel
theorem dL_law_1876 : decode cL_law 1876 = .ok (.invokevirtual 194, 3) := by decide +kernel
theorem dL_law_1879 : decode cL_law 1879 = .ok (.if_icmp .eq 483, 3) := by decide +kernel
theorem dL_law_1882 : decode cL_law 1882 = .ok (.iconst 0, 1) := by decide +kernel
theorem dL_law_1883 : decode cL_law 1883 = .ok (.ireturn, 1) := by decide +kernel
theorem dL_law_1884 : decode cL_law 1884 = .ok (.aload_n 1, 1) := by decide +kernel
theorem dL_law_1885 : decode cL_law 1885 = .ok (.aload_n 0, 1) := by decide +kernel
theorem dL_law_1886 : decode cL_law 1886 = .ok (.iload_n 3, 1) := by decide +kernel
theorem dL_law_1887 : decode cL_law 1887 = .ok (.iconst 1, 1) := by decide +kernel
theorem dL_law_1888 : decode cL_law 1888 = .ok (.iadd, 1) := by decide +kernel
theorem dL_law_1889 : decode cL_law 1889 = .ok (.iaload, 1) := by decide +kernel
theorem dL_law_1890 : decode cL_law 1890 = .ok (.aload_n 0, 1) := by decide +kernel
theorem dL_law_1891 : decode cL_law 1891 = .ok (.iload_n 3, 1) := by decide +kernel
theorem dL_law_1892 : decode cL_law 1892 = .ok (.iconst 2, 1) := by decide +kernel
theorem dL_law_1893 : decode cL_law 1893 = .ok (.iadd, 1) := by decide +kernel
theorem dL_law_1894 : decode cL_law 1894 = .ok (.iaload, 1) := by decide +kernel
theorem dL_law_1895 : decode cL_law 1895 = .ok (.invokevirtual 195, 3) := by decide +kernel
theorem dL_law_1898 : decode cL_law 1898 = .ok (.aload_n 2, 1) := by decide +kernel
theorem dL_law_1899 : decode cL_law 1899 = .ok (.aload_n 0, 1) := by decide +kernel
theorem dL_law_1900 : decode cL_law 1900 = .ok (.iload_n 3, 1) := by decide +kernel
theorem dL_law_1901 : decode cL_law 1901 = .ok (.iconst 1, 1) := by decide +kernel
theorem dL_law_1902 : decode cL_law 1902 = .ok (.iadd, 1) := by decide +kernel
theorem dL_law_1903 : decode cL_law 1903 = .ok (.iaload, 1) := by decide +kernel
theorem dL_law_1904 : decode cL_law 1904 = .ok (.aload_n 0, 1) := by decide +kernel
theorem dL_law_1905 : decode cL_law 1905 = .ok (.iload_n 3, 1) := by decide +kernel
theorem dL_law_1906 : decode cL_law 1906 = .ok (.iconst 2, 1) := by decide +kernel
theorem dL_law_1907 : decode cL_law 1907 = .ok (.iadd, 1) := by decide +kernel
theorem dL_law_1908 : decode cL_law 1908 = .ok (.iaload, 1) := by decide +kernel
theorem dL_law_1909 : decode cL_law 1909 = .ok (.invokevirtual 198, 3) := by decide +kernel
theorem dL_law_1912 : decode cL_law 1912 = .ok (.if_icmp .eq 450, 3) := by decide +kernel
theorem dL_law_1915 : decode cL_law 1915 = .ok (.iconst 0, 1) := by decide +kernel
theorem dL_law_1916 : decode cL_law 1916 = .ok (.ireturn, 1) := by decide +kernel
theorem dL_law_1917 : decode cL_law 1917 = .ok (.aload_n 1, 1) := by decide +kernel
theorem dL_law_1918 : decode cL_law 1918 = .ok (.aload_n 0, 1) := by decide +kernel
theorem dL_law_1919 : decode cL_law 1919 = .ok (.iload_n 3, 1) := by decide +kernel
theorem dL_law_1920 : decode cL_law 1920 = .ok (.iconst 1, 1) := by decide +kernel
theorem dL_law_1921 : decode cL_law 1921 = .ok (.iadd, 1) := by decide +kernel
theorem dL_law_1922 : decode cL_law 1922 = .ok (.iaload, 1) := by decide +kernel
theorem dL_law_1923 : decode cL_law 1923 = .ok (.invokevirtual 199, 3) := by decide +kernel
theorem dL_law_1926 : decode cL_law 1926 = .ok (.aload_n 2, 1) := by decide +kernel
theorem dL_law_1927 : decode cL_law 1927 = .ok (.aload_n 0, 1) := by decide +kernel
theorem dL_law_1928 : decode cL_law 1928 = .ok (.iload_n 3, 1) := by decide +kernel
theorem dL_law_1929 : decode cL_law 1929 = .ok (.iconst 1, 1) := by decide +kernel
theorem dL_law_1930 : decode cL_law 1930 = .ok (.iadd, 1) := by decide +kernel
theorem dL_law_1931 : decode cL_law 1931 = .ok (.iaload, 1) := by decide +kernel
theorem dL_law_1932 : decode cL_law 1932 = .ok (.invokevirtual 202, 3) := by decide +kernel
theorem dL_law_1935 : decode cL_law 1935 = .ok (.if_icmp .eq 427, 3) := by decide +kernel
theorem dL_law_1938 : decode cL_law 1938 = .ok (.iconst 0, 1) := by decide +kernel
theorem dL_law_1939 : decode cL_law 1939 = .ok (.ireturn, 1) := by decide +kernel
theorem dL_law_1940 : decode cL_law 1940 = .ok (.aload_n 1, 1) := by decide +kernel
theorem dL_law_1941 : decode cL_law 1941 = .ok (.aload_n 0, 1) := by decide +kernel
theorem dL_law_1942 : decode cL_law 1942 = .ok (.iload_n 3, 1) := by decide +kernel
theorem dL_law_1943 : decode cL_law 1943 = .ok (.iconst 1, 1) := by decide +kernel
theorem dL_law_1944 : decode cL_law 1944 = .ok (.iadd, 1) := by decide +kernel
theorem dL_law_1945 : decode cL_law 1945 = .ok (.iaload, 1) := by decide +kernel
theorem dL_law_1946 : decode cL_law 1946 = .ok (.aload_n 0, 1) := by decide +kernel
theorem dL_law_1947 : decode cL_law 1947 = .ok (.iload_n 3, 1) := by decide +kernel
theorem dL_law_1948 : decode cL_law 1948 = .ok (.iconst 2, 1) := by decide +kernel
theorem dL_law_1949 : decode cL_law 1949 = .ok (.iadd, 1) := by decide +kernel
theorem dL_law_1950 : decode cL_law 1950 = .ok (.iaload, 1) := by decide +kernel
theorem dL_law_1951 : decode cL_law 1951 = .ok (.aload_n 0, 1) := by decide +kernel
theorem dL_law_1952 : decode cL_law 1952 = .ok (.iload_n 3, 1) := by decide +kernel
theorem dL_law_1953 : decode cL_law 1953 = .ok (.iconst 3, 1) := by decide +kernel
theorem dL_law_1954 : decode cL_law 1954 = .ok (.iadd, 1) := by decide +kernel
theorem dL_law_1955 : decode cL_law 1955 = .ok (.iaload, 1) := by decide +kernel
theorem dL_law_1956 : decode cL_law 1956 = .ok (.aload_n 0, 1) := by decide +kernel
theorem dL_law_1957 : decode cL_law 1957 = .ok (.iload_n 3, 1) := by decide +kernel
theorem dL_law_1958 : decode cL_law 1958 = .ok (.iconst 4, 1) := by decide +kernel
theorem dL_law_1959 : decode cL_law 1959 = .ok (.iadd, 1) := by decide +kernel
theorem dL_law_1960 : decode cL_law 1960 = .ok (.iaload, 1) := by decide +kernel
theorem dL_law_1961 : decode cL_law 1961 = .ok (.invokevirtual 203, 3) := by decide +kernel
theorem dL_law_1964 : decode cL_law 1964 = .ok (.aload_n 2, 1) := by decide +kernel
theorem dL_law_1965 : decode cL_law 1965 = .ok (.aload_n 0, 1) := by decide +kernel
theorem dL_law_1966 : decode cL_law 1966 = .ok (.iload_n 3, 1) := by decide +kernel
theorem dL_law_1967 : decode cL_law 1967 = .ok (.iconst 1, 1) := by decide +kernel
theorem dL_law_1968 : decode cL_law 1968 = .ok (.iadd, 1) := by decide +kernel
theorem dL_law_1969 : decode cL_law 1969 = .ok (.iaload, 1) := by decide +kernel
theorem dL_law_1970 : decode cL_law 1970 = .ok (.aload_n 0, 1) := by decide +kernel
theorem dL_law_1971 : decode cL_law 1971 = .ok (.iload_n 3, 1) := by decide +kernel
theorem dL_law_1972 : decode cL_law 1972 = .ok (.iconst 2, 1) := by decide +kernel
theorem dL_law_1973 : decode cL_law 1973 = .ok (.iadd, 1) := by decide +kernel
theorem dL_law_1974 : decode cL_law 1974 = .ok (.iaload, 1) := by decide +kernel
theorem dL_law_1975 : decode cL_law 1975 = .ok (.aload_n 0, 1) := by decide +kernel
theorem dL_law_1976 : decode cL_law 1976 = .ok (.iload_n 3, 1) := by decide +kernel
theorem dL_law_1977 : decode cL_law 1977 = .ok (.iconst 3, 1) := by decide +kernel
theorem dL_law_1978 : decode cL_law 1978 = .ok (.iadd, 1) := by decide +kernel
theorem dL_law_1979 : decode cL_law 1979 = .ok (.iaload, 1) := by decide +kernel
theorem dL_law_1980 : decode cL_law 1980 = .ok (.aload_n 0, 1) := by decide +kernel
theorem dL_law_1981 : decode cL_law 1981 = .ok (.iload_n 3, 1) := by decide +kernel
theorem dL_law_1982 : decode cL_law 1982 = .ok (.iconst 4, 1) := by decide +kernel
theorem dL_law_1983 : decode cL_law 1983 = .ok (.iadd, 1) := by decide +kernel
theorem dL_law_1984 : decode cL_law 1984 = .ok (.iaload, 1) := by decide +kernel
theorem dL_law_1985 : decode cL_law 1985 = .ok (.invokevirtual 206, 3) := by decide +kernel
theorem dL_law_1988 : decode cL_law 1988 = .ok (.lcmp, 1) := by decide +kernel
theorem dL_law_1989 : decode cL_law 1989 = .ok (.ifCond .eq 373, 3) := by decide +kernel
theorem dL_law_1992 : decode cL_law 1992 = .ok (.iconst 0, 1) := by decide +kernel
theorem dL_law_1993 : decode cL_law 1993 = .ok (.ireturn, 1) := by decide +kernel
theorem dL_law_1994 : decode cL_law 1994 = .ok (.aload_n 1, 1) := by decide +kernel
theorem dL_law_1995 : decode cL_law 1995 = .ok (.aload_n 0, 1) := by decide +kernel
theorem dL_law_1996 : decode cL_law 1996 = .ok (.iload_n 3, 1) := by decide +kernel
theorem dL_law_1997 : decode cL_law 1997 = .ok (.iconst 1, 1) := by decide +kernel
theorem dL_law_1998 : decode cL_law 1998 = .ok (.iadd, 1) := by decide +kernel
theorem dL_law_1999 : decode cL_law 1999 = .ok (.iaload, 1) := by decide +kernel
theorem dL_law_2000 : decode cL_law 2000 = .ok (.aload_n 0, 1) := by decide +kernel
theorem dL_law_2001 : decode cL_law 2001 = .ok (.iload_n 3, 1) := by decide +kernel
theorem dL_law_2002 : decode cL_law 2002 = .ok (.iconst 2, 1) := by decide +kernel
theorem dL_law_2003 : decode cL_law 2003 = .ok (.iadd, 1) := by decide +kernel
theorem dL_law_2004 : decode cL_law 2004 = .ok (.iaload, 1) := by decide +kernel
theorem dL_law_2005 : decode cL_law 2005 = .ok (.aload_n 0, 1) := by decide +kernel
theorem dL_law_2006 : decode cL_law 2006 = .ok (.iload_n 3, 1) := by decide +kernel
theorem dL_law_2007 : decode cL_law 2007 = .ok (.iconst 3, 1) := by decide +kernel
theorem dL_law_2008 : decode cL_law 2008 = .ok (.iadd, 1) := by decide +kernel
theorem dL_law_2009 : decode cL_law 2009 = .ok (.iaload, 1) := by decide +kernel
theorem dL_law_2010 : decode cL_law 2010 = .ok (.invokevirtual 207, 3) := by decide +kernel
theorem dL_law_2013 : decode cL_law 2013 = .ok (.aload_n 2, 1) := by decide +kernel
theorem dL_law_2014 : decode cL_law 2014 = .ok (.aload_n 0, 1) := by decide +kernel
theorem dL_law_2015 : decode cL_law 2015 = .ok (.iload_n 3, 1) := by decide +kernel
theorem dL_law_2016 : decode cL_law 2016 = .ok (.iconst 1, 1) := by decide +kernel
theorem dL_law_2017 : decode cL_law 2017 = .ok (.iadd, 1) := by decide +kernel
theorem dL_law_2018 : decode cL_law 2018 = .ok (.iaload, 1) := by decide +kernel
theorem dL_law_2019 : decode cL_law 2019 = .ok (.aload_n 0, 1) := by decide +kernel
theorem dL_law_2020 : decode cL_law 2020 = .ok (.iload_n 3, 1) := by decide +kernel
theorem dL_law_2021 : decode cL_law 2021 = .ok (.iconst 2, 1) := by decide +kernel
theorem dL_law_2022 : decode cL_law 2022 = .ok (.iadd, 1) := by decide +kernel
theorem dL_law_2023 : decode cL_law 2023 = .ok (.iaload, 1) := by decide +kernel
theorem dL_law_2024 : decode cL_law 2024 = .ok (.aload_n 0, 1) := by decide +kernel
theorem dL_law_2025 : decode cL_law 2025 = .ok (.iload_n 3, 1) := by decide +kernel
theorem dL_law_2026 : decode cL_law 2026 = .ok (.iconst 3, 1) := by decide +kernel
theorem dL_law_2027 : decode cL_law 2027 = .ok (.iadd, 1) := by decide +kernel
theorem dL_law_2028 : decode cL_law 2028 = .ok (.iaload, 1) := by decide +kernel
theorem dL_law_2029 : decode cL_law 2029 = .ok (.invokevirtual 210, 3) := by decide +kernel
theorem dL_law_2032 : decode cL_law 2032 = .ok (.lcmp, 1) := by decide +kernel
theorem dL_law_2033 : decode cL_law 2033 = .ok (.ifCond .eq 329, 3) := by decide +kernel
theorem dL_law_2036 : decode cL_law 2036 = .ok (.iconst 0, 1) := by decide +kernel
theorem dL_law_2037 : decode cL_law 2037 = .ok (.ireturn, 1) := by decide +kernel
theorem dL_law_2038 : decode cL_law 2038 = .ok (.aload_n 1, 1) := by decide +kernel
theorem dL_law_2039 : decode cL_law 2039 = .ok (.aload_n 0, 1) := by decide +kernel
theorem dL_law_2040 : decode cL_law 2040 = .ok (.iload_n 3, 1) := by decide +kernel
theorem dL_law_2041 : decode cL_law 2041 = .ok (.iconst 1, 1) := by decide +kernel
theorem dL_law_2042 : decode cL_law 2042 = .ok (.iadd, 1) := by decide +kernel
theorem dL_law_2043 : decode cL_law 2043 = .ok (.iaload, 1) := by decide +kernel
theorem dL_law_2044 : decode cL_law 2044 = .ok (.i2l, 1) := by decide +kernel
theorem dL_law_2045 : decode cL_law 2045 = .ok (.bipush 32, 2) := by decide +kernel
theorem dL_law_2047 : decode cL_law 2047 = .ok (.lshl, 1) := by decide +kernel
theorem dL_law_2048 : decode cL_law 2048 = .ok (.aload_n 0, 1) := by decide +kernel
theorem dL_law_2049 : decode cL_law 2049 = .ok (.iload_n 3, 1) := by decide +kernel
theorem dL_law_2050 : decode cL_law 2050 = .ok (.iconst 2, 1) := by decide +kernel
theorem dL_law_2051 : decode cL_law 2051 = .ok (.iadd, 1) := by decide +kernel
theorem dL_law_2052 : decode cL_law 2052 = .ok (.iaload, 1) := by decide +kernel
theorem dL_law_2053 : decode cL_law 2053 = .ok (.i2l, 1) := by decide +kernel
theorem dL_law_2054 : decode cL_law 2054 = .ok (.ldc2_w 211, 3) := by decide +kernel
theorem dL_law_2057 : decode cL_law 2057 = .ok (.land, 1) := by decide +kernel
theorem dL_law_2058 : decode cL_law 2058 = .ok (.lor, 1) := by decide +kernel
theorem dL_law_2059 : decode cL_law 2059 = .ok (.aload_n 0, 1) := by decide +kernel
theorem dL_law_2060 : decode cL_law 2060 = .ok (.iload_n 3, 1) := by decide +kernel
theorem dL_law_2061 : decode cL_law 2061 = .ok (.iconst 3, 1) := by decide +kernel
theorem dL_law_2062 : decode cL_law 2062 = .ok (.iadd, 1) := by decide +kernel
theorem dL_law_2063 : decode cL_law 2063 = .ok (.iaload, 1) := by decide +kernel
theorem dL_law_2064 : decode cL_law 2064 = .ok (.aload_n 0, 1) := by decide +kernel
theorem dL_law_2065 : decode cL_law 2065 = .ok (.iload_n 3, 1) := by decide +kernel
theorem dL_law_2066 : decode cL_law 2066 = .ok (.iconst 4, 1) := by decide +kernel
theorem dL_law_2067 : decode cL_law 2067 = .ok (.iadd, 1) := by decide +kernel
theorem dL_law_2068 : decode cL_law 2068 = .ok (.iaload, 1) := by decide +kernel
theorem dL_law_2069 : decode cL_law 2069 = .ok (.invokevirtual 213, 3) := by decide +kernel
theorem dL_law_2072 : decode cL_law 2072 = .ok (.aload_n 2, 1) := by decide +kernel
theorem dL_law_2073 : decode cL_law 2073 = .ok (.aload_n 0, 1) := by decide +kernel
theorem dL_law_2074 : decode cL_law 2074 = .ok (.iload_n 3, 1) := by decide +kernel
theorem dL_law_2075 : decode cL_law 2075 = .ok (.iconst 1, 1) := by decide +kernel
theorem dL_law_2076 : decode cL_law 2076 = .ok (.iadd, 1) := by decide +kernel
theorem dL_law_2077 : decode cL_law 2077 = .ok (.iaload, 1) := by decide +kernel
theorem dL_law_2078 : decode cL_law 2078 = .ok (.i2l, 1) := by decide +kernel
theorem dL_law_2079 : decode cL_law 2079 = .ok (.bipush 32, 2) := by decide +kernel
theorem dL_law_2081 : decode cL_law 2081 = .ok (.lshl, 1) := by decide +kernel
theorem dL_law_2082 : decode cL_law 2082 = .ok (.aload_n 0, 1) := by decide +kernel
theorem dL_law_2083 : decode cL_law 2083 = .ok (.iload_n 3, 1) := by decide +kernel
theorem dL_law_2084 : decode cL_law 2084 = .ok (.iconst 2, 1) := by decide +kernel
theorem dL_law_2085 : decode cL_law 2085 = .ok (.iadd, 1) := by decide +kernel
theorem dL_law_2086 : decode cL_law 2086 = .ok (.iaload, 1) := by decide +kernel
theorem dL_law_2087 : decode cL_law 2087 = .ok (.i2l, 1) := by decide +kernel
theorem dL_law_2088 : decode cL_law 2088 = .ok (.ldc2_w 211, 3) := by decide +kernel
theorem dL_law_2091 : decode cL_law 2091 = .ok (.land, 1) := by decide +kernel
theorem dL_law_2092 : decode cL_law 2092 = .ok (.lor, 1) := by decide +kernel
theorem dL_law_2093 : decode cL_law 2093 = .ok (.aload_n 0, 1) := by decide +kernel
theorem dL_law_2094 : decode cL_law 2094 = .ok (.iload_n 3, 1) := by decide +kernel
theorem dL_law_2095 : decode cL_law 2095 = .ok (.iconst 3, 1) := by decide +kernel
theorem dL_law_2096 : decode cL_law 2096 = .ok (.iadd, 1) := by decide +kernel
theorem dL_law_2097 : decode cL_law 2097 = .ok (.iaload, 1) := by decide +kernel
theorem dL_law_2098 : decode cL_law 2098 = .ok (.aload_n 0, 1) := by decide +kernel
theorem dL_law_2099 : decode cL_law 2099 = .ok (.iload_n 3, 1) := by decide +kernel
theorem dL_law_2100 : decode cL_law 2100 = .ok (.iconst 4, 1) := by decide +kernel
theorem dL_law_2101 : decode cL_law 2101 = .ok (.iadd, 1) := by decide +kernel
theorem dL_law_2102 : decode cL_law 2102 = .ok (.iaload, 1) := by decide +kernel
theorem dL_law_2103 : decode cL_law 2103 = .ok (.invokevirtual 217, 3) := by decide +kernel
theorem dL_law_2106 : decode cL_law 2106 = .ok (.if_icmp .eq 256, 3) := by decide +kernel
theorem dL_law_2109 : decode cL_law 2109 = .ok (.iconst 0, 1) := by decide +kernel
theorem dL_law_2110 : decode cL_law 2110 = .ok (.ireturn, 1) := by decide +kernel
theorem dL_law_2111 : decode cL_law 2111 = .ok (.aload_n 1, 1) := by decide +kernel
theorem dL_law_2112 : decode cL_law 2112 = .ok (.aload_n 0, 1) := by decide +kernel
theorem dL_law_2113 : decode cL_law 2113 = .ok (.iload_n 3, 1) := by decide +kernel
theorem dL_law_2114 : decode cL_law 2114 = .ok (.iconst 1, 1) := by decide +kernel
theorem dL_law_2115 : decode cL_law 2115 = .ok (.iadd, 1) := by decide +kernel
theorem dL_law_2116 : decode cL_law 2116 = .ok (.iaload, 1) := by decide +kernel
theorem dL_law_2117 : decode cL_law 2117 = .ok (.aload_n 0, 1) := by decide +kernel
theorem dL_law_2118 : decode cL_law 2118 = .ok (.iload_n 3, 1) := by decide +kernel
theorem dL_law_2119 : decode cL_law 2119 = .ok (.iconst 2, 1) := by decide +kernel
theorem dL_law_2120 : decode cL_law 2120 = .ok (.iadd, 1) := by decide +kernel
theorem dL_law_2121 : decode cL_law 2121 = .ok (.iaload, 1) := by decide +kernel
theorem dL_law_2122 : decode cL_law 2122 = .ok (.aload_n 0, 1) := by decide +kernel
theorem dL_law_2123 : decode cL_law 2123 = .ok (.iload_n 3, 1) := by decide +kernel
theorem dL_law_2124 : decode cL_law 2124 = .ok (.iconst 3, 1) := by decide +kernel
theorem dL_law_2125 : decode cL_law 2125 = .ok (.iadd, 1) := by decide +kernel
theorem dL_law_2126 : decode cL_law 2126 = .ok (.iaload, 1) := by decide +kernel
theorem dL_law_2127 : decode cL_law 2127 = .ok (.invokevirtual 218, 3) := by decide +kernel
theorem dL_law_2130 : decode cL_law 2130 = .ok (.aload_n 2, 1) := by decide +kernel
theorem dL_law_2131 : decode cL_law 2131 = .ok (.aload_n 0, 1) := by decide +kernel
theorem dL_law_2132 : decode cL_law 2132 = .ok (.iload_n 3, 1) := by decide +kernel
theorem dL_law_2133 : decode cL_law 2133 = .ok (.iconst 1, 1) := by decide +kernel
theorem dL_law_2134 : decode cL_law 2134 = .ok (.iadd, 1) := by decide +kernel
theorem dL_law_2135 : decode cL_law 2135 = .ok (.iaload, 1) := by decide +kernel
theorem dL_law_2136 : decode cL_law 2136 = .ok (.aload_n 0, 1) := by decide +kernel
theorem dL_law_2137 : decode cL_law 2137 = .ok (.iload_n 3, 1) := by decide +kernel
theorem dL_law_2138 : decode cL_law 2138 = .ok (.iconst 2, 1) := by decide +kernel
theorem dL_law_2139 : decode cL_law 2139 = .ok (.iadd, 1) := by decide +kernel
theorem dL_law_2140 : decode cL_law 2140 = .ok (.iaload, 1) := by decide +kernel
theorem dL_law_2141 : decode cL_law 2141 = .ok (.aload_n 0, 1) := by decide +kernel
theorem dL_law_2142 : decode cL_law 2142 = .ok (.iload_n 3, 1) := by decide +kernel
theorem dL_law_2143 : decode cL_law 2143 = .ok (.iconst 3, 1) := by decide +kernel
theorem dL_law_2144 : decode cL_law 2144 = .ok (.iadd, 1) := by decide +kernel
theorem dL_law_2145 : decode cL_law 2145 = .ok (.iaload, 1) := by decide +kernel
theorem dL_law_2146 : decode cL_law 2146 = .ok (.invokevirtual 221, 3) := by decide +kernel
theorem dL_law_2149 : decode cL_law 2149 = .ok (.if_icmp .eq 213, 3) := by decide +kernel
theorem dL_law_2152 : decode cL_law 2152 = .ok (.iconst 0, 1) := by decide +kernel
theorem dL_law_2153 : decode cL_law 2153 = .ok (.ireturn, 1) := by decide +kernel
theorem dL_law_2154 : decode cL_law 2154 = .ok (.aload_n 1, 1) := by decide +kernel
theorem dL_law_2155 : decode cL_law 2155 = .ok (.aload_n 0, 1) := by decide +kernel
theorem dL_law_2156 : decode cL_law 2156 = .ok (.iload_n 3, 1) := by decide +kernel
theorem dL_law_2157 : decode cL_law 2157 = .ok (.iconst 1, 1) := by decide +kernel
theorem dL_law_2158 : decode cL_law 2158 = .ok (.iadd, 1) := by decide +kernel
theorem dL_law_2159 : decode cL_law 2159 = .ok (.iaload, 1) := by decide +kernel
theorem dL_law_2160 : decode cL_law 2160 = .ok (.aload_n 0, 1) := by decide +kernel
theorem dL_law_2161 : decode cL_law 2161 = .ok (.iload_n 3, 1) := by decide +kernel
theorem dL_law_2162 : decode cL_law 2162 = .ok (.iconst 2, 1) := by decide +kernel
theorem dL_law_2163 : decode cL_law 2163 = .ok (.iadd, 1) := by decide +kernel
theorem dL_law_2164 : decode cL_law 2164 = .ok (.iaload, 1) := by decide +kernel
theorem dL_law_2165 : decode cL_law 2165 = .ok (.aload_n 0, 1) := by decide +kernel
theorem dL_law_2166 : decode cL_law 2166 = .ok (.iload_n 3, 1) := by decide +kernel
theorem dL_law_2167 : decode cL_law 2167 = .ok (.iconst 3, 1) := by decide +kernel
theorem dL_law_2168 : decode cL_law 2168 = .ok (.iadd, 1) := by decide +kernel
theorem dL_law_2169 : decode cL_law 2169 = .ok (.iaload, 1) := by decide +kernel
theorem dL_law_2170 : decode cL_law 2170 = .ok (.aload_n 0, 1) := by decide +kernel
theorem dL_law_2171 : decode cL_law 2171 = .ok (.iload_n 3, 1) := by decide +kernel
theorem dL_law_2172 : decode cL_law 2172 = .ok (.iconst 4, 1) := by decide +kernel
theorem dL_law_2173 : decode cL_law 2173 = .ok (.iadd, 1) := by decide +kernel
theorem dL_law_2174 : decode cL_law 2174 = .ok (.iaload, 1) := by decide +kernel
theorem dL_law_2175 : decode cL_law 2175 = .ok (.aload_n 0, 1) := by decide +kernel
theorem dL_law_2176 : decode cL_law 2176 = .ok (.iload_n 3, 1) := by decide +kernel
theorem dL_law_2177 : decode cL_law 2177 = .ok (.iconst 5, 1) := by decide +kernel
theorem dL_law_2178 : decode cL_law 2178 = .ok (.iadd, 1) := by decide +kernel
theorem dL_law_2179 : decode cL_law 2179 = .ok (.iaload, 1) := by decide +kernel
theorem dL_law_2180 : decode cL_law 2180 = .ok (.invokevirtual 222, 3) := by decide +kernel
theorem dL_law_2183 : decode cL_law 2183 = .ok (.aload_n 2, 1) := by decide +kernel
theorem dL_law_2184 : decode cL_law 2184 = .ok (.aload_n 0, 1) := by decide +kernel
theorem dL_law_2185 : decode cL_law 2185 = .ok (.iload_n 3, 1) := by decide +kernel
theorem dL_law_2186 : decode cL_law 2186 = .ok (.iconst 1, 1) := by decide +kernel
theorem dL_law_2187 : decode cL_law 2187 = .ok (.iadd, 1) := by decide +kernel
theorem dL_law_2188 : decode cL_law 2188 = .ok (.iaload, 1) := by decide +kernel
theorem dL_law_2189 : decode cL_law 2189 = .ok (.aload_n 0, 1) := by decide +kernel
theorem dL_law_2190 : decode cL_law 2190 = .ok (.iload_n 3, 1) := by decide +kernel
theorem dL_law_2191 : decode cL_law 2191 = .ok (.iconst 2, 1) := by decide +kernel
theorem dL_law_2192 : decode cL_law 2192 = .ok (.iadd, 1) := by decide +kernel
theorem dL_law_2193 : decode cL_law 2193 = .ok (.iaload, 1) := by decide +kernel
theorem dL_law_2194 : decode cL_law 2194 = .ok (.aload_n 0, 1) := by decide +kernel
theorem dL_law_2195 : decode cL_law 2195 = .ok (.iload_n 3, 1) := by decide +kernel
theorem dL_law_2196 : decode cL_law 2196 = .ok (.iconst 3, 1) := by decide +kernel
theorem dL_law_2197 : decode cL_law 2197 = .ok (.iadd, 1) := by decide +kernel
theorem dL_law_2198 : decode cL_law 2198 = .ok (.iaload, 1) := by decide +kernel
theorem dL_law_2199 : decode cL_law 2199 = .ok (.aload_n 0, 1) := by decide +kernel
theorem dL_law_2200 : decode cL_law 2200 = .ok (.iload_n 3, 1) := by decide +kernel
theorem dL_law_2201 : decode cL_law 2201 = .ok (.iconst 4, 1) := by decide +kernel
theorem dL_law_2202 : decode cL_law 2202 = .ok (.iadd, 1) := by decide +kernel
theorem dL_law_2203 : decode cL_law 2203 = .ok (.iaload, 1) := by decide +kernel
theorem dL_law_2204 : decode cL_law 2204 = .ok (.aload_n 0, 1) := by decide +kernel
theorem dL_law_2205 : decode cL_law 2205 = .ok (.iload_n 3, 1) := by decide +kernel
theorem dL_law_2206 : decode cL_law 2206 = .ok (.iconst 5, 1) := by decide +kernel
theorem dL_law_2207 : decode cL_law 2207 = .ok (.iadd, 1) := by decide +kernel
theorem dL_law_2208 : decode cL_law 2208 = .ok (.iaload, 1) := by decide +kernel
theorem dL_law_2209 : decode cL_law 2209 = .ok (.invokevirtual 225, 3) := by decide +kernel
theorem dL_law_2212 : decode cL_law 2212 = .ok (.if_icmp .eq 150, 3) := by decide +kernel
theorem dL_law_2215 : decode cL_law 2215 = .ok (.iconst 0, 1) := by decide +kernel
theorem dL_law_2216 : decode cL_law 2216 = .ok (.ireturn, 1) := by decide +kernel
theorem dL_law_2217 : decode cL_law 2217 = .ok (.aload_n 1, 1) := by decide +kernel
theorem dL_law_2218 : decode cL_law 2218 = .ok (.aload_n 0, 1) := by decide +kernel
theorem dL_law_2219 : decode cL_law 2219 = .ok (.iload_n 3, 1) := by decide +kernel
theorem dL_law_2220 : decode cL_law 2220 = .ok (.iconst 1, 1) := by decide +kernel
theorem dL_law_2221 : decode cL_law 2221 = .ok (.iadd, 1) := by decide +kernel
theorem dL_law_2222 : decode cL_law 2222 = .ok (.iaload, 1) := by decide +kernel
theorem dL_law_2223 : decode cL_law 2223 = .ok (.aload_n 0, 1) := by decide +kernel
theorem dL_law_2224 : decode cL_law 2224 = .ok (.iload_n 3, 1) := by decide +kernel
theorem dL_law_2225 : decode cL_law 2225 = .ok (.iconst 2, 1) := by decide +kernel
theorem dL_law_2226 : decode cL_law 2226 = .ok (.iadd, 1) := by decide +kernel
theorem dL_law_2227 : decode cL_law 2227 = .ok (.iaload, 1) := by decide +kernel
theorem dL_law_2228 : decode cL_law 2228 = .ok (.invokevirtual 226, 3) := by decide +kernel
theorem dL_law_2231 : decode cL_law 2231 = .ok (.aload_n 2, 1) := by decide +kernel
theorem dL_law_2232 : decode cL_law 2232 = .ok (.aload_n 0, 1) := by decide +kernel
theorem dL_law_2233 : decode cL_law 2233 = .ok (.iload_n 3, 1) := by decide +kernel
theorem dL_law_2234 : decode cL_law 2234 = .ok (.iconst 1, 1) := by decide +kernel
theorem dL_law_2235 : decode cL_law 2235 = .ok (.iadd, 1) := by decide +kernel
theorem dL_law_2236 : decode cL_law 2236 = .ok (.iaload, 1) := by decide +kernel
theorem dL_law_2237 : decode cL_law 2237 = .ok (.aload_n 0, 1) := by decide +kernel
theorem dL_law_2238 : decode cL_law 2238 = .ok (.iload_n 3, 1) := by decide +kernel
theorem dL_law_2239 : decode cL_law 2239 = .ok (.iconst 2, 1) := by decide +kernel
theorem dL_law_2240 : decode cL_law 2240 = .ok (.iadd, 1) := by decide +kernel
theorem dL_law_2241 : decode cL_law 2241 = .ok (.iaload, 1) := by decide +kernel
theorem dL_law_2242 : decode cL_law 2242 = .ok (.invokevirtual 229, 3) := by decide +kernel
theorem dL_law_2245 : decode cL_law 2245 = .ok (.if_icmp .eq 117, 3) := by decide +kernel
theorem dL_law_2248 : decode cL_law 2248 = .ok (.iconst 0, 1) := by decide +kernel
theorem dL_law_2249 : decode cL_law 2249 = .ok (.ireturn, 1) := by decide +kernel
theorem dL_law_2250 : decode cL_law 2250 = .ok (.aload_n 1, 1) := by decide +kernel
theorem dL_law_2251 : decode cL_law 2251 = .ok (.aload_n 0, 1) := by decide +kernel
theorem dL_law_2252 : decode cL_law 2252 = .ok (.iload_n 3, 1) := by decide +kernel
theorem dL_law_2253 : decode cL_law 2253 = .ok (.iconst 1, 1) := by decide +kernel
theorem dL_law_2254 : decode cL_law 2254 = .ok (.iadd, 1) := by decide +kernel
theorem dL_law_2255 : decode cL_law 2255 = .ok (.iaload, 1) := by decide +kernel
theorem dL_law_2256 : decode cL_law 2256 = .ok (.aload_n 0, 1) := by decide +kernel
theorem dL_law_2257 : decode cL_law 2257 = .ok (.iload_n 3, 1) := by decide +kernel
theorem dL_law_2258 : decode cL_law 2258 = .ok (.iconst 2, 1) := by decide +kernel
theorem dL_law_2259 : decode cL_law 2259 = .ok (.iadd, 1) := by decide +kernel
theorem dL_law_2260 : decode cL_law 2260 = .ok (.iaload, 1) := by decide +kernel
theorem dL_law_2261 : decode cL_law 2261 = .ok (.invokevirtual 230, 3) := by decide +kernel
theorem dL_law_2264 : decode cL_law 2264 = .ok (.aload_n 2, 1) := by decide +kernel
theorem dL_law_2265 : decode cL_law 2265 = .ok (.aload_n 0, 1) := by decide +kernel
theorem dL_law_2266 : decode cL_law 2266 = .ok (.iload_n 3, 1) := by decide +kernel
theorem dL_law_2267 : decode cL_law 2267 = .ok (.iconst 1, 1) := by decide +kernel
theorem dL_law_2268 : decode cL_law 2268 = .ok (.iadd, 1) := by decide +kernel
theorem dL_law_2269 : decode cL_law 2269 = .ok (.iaload, 1) := by decide +kernel
theorem dL_law_2270 : decode cL_law 2270 = .ok (.aload_n 0, 1) := by decide +kernel
theorem dL_law_2271 : decode cL_law 2271 = .ok (.iload_n 3, 1) := by decide +kernel
theorem dL_law_2272 : decode cL_law 2272 = .ok (.iconst 2, 1) := by decide +kernel
theorem dL_law_2273 : decode cL_law 2273 = .ok (.iadd, 1) := by decide +kernel
theorem dL_law_2274 : decode cL_law 2274 = .ok (.iaload, 1) := by decide +kernel
theorem dL_law_2275 : decode cL_law 2275 = .ok (.invokevirtual 233, 3) := by decide +kernel
theorem dL_law_2278 : decode cL_law 2278 = .ok (.if_icmp .eq 84, 3) := by decide +kernel
theorem dL_law_2281 : decode cL_law 2281 = .ok (.iconst 0, 1) := by decide +kernel
theorem dL_law_2282 : decode cL_law 2282 = .ok (.ireturn, 1) := by decide +kernel
theorem dL_law_2283 : decode cL_law 2283 = .ok (.aload_n 1, 1) := by decide +kernel
theorem dL_law_2284 : decode cL_law 2284 = .ok (.aload_n 0, 1) := by decide +kernel
theorem dL_law_2285 : decode cL_law 2285 = .ok (.iload_n 3, 1) := by decide +kernel
theorem dL_law_2286 : decode cL_law 2286 = .ok (.iconst 1, 1) := by decide +kernel
theorem dL_law_2287 : decode cL_law 2287 = .ok (.iadd, 1) := by decide +kernel
theorem dL_law_2288 : decode cL_law 2288 = .ok (.iaload, 1) := by decide +kernel
theorem dL_law_2289 : decode cL_law 2289 = .ok (.invokevirtual 234, 3) := by decide +kernel
theorem dL_law_2292 : decode cL_law 2292 = .ok (.aload_n 2, 1) := by decide +kernel
theorem dL_law_2293 : decode cL_law 2293 = .ok (.aload_n 0, 1) := by decide +kernel
theorem dL_law_2294 : decode cL_law 2294 = .ok (.iload_n 3, 1) := by decide +kernel
theorem dL_law_2295 : decode cL_law 2295 = .ok (.iconst 1, 1) := by decide +kernel
theorem dL_law_2296 : decode cL_law 2296 = .ok (.iadd, 1) := by decide +kernel
theorem dL_law_2297 : decode cL_law 2297 = .ok (.iaload, 1) := by decide +kernel
theorem dL_law_2298 : decode cL_law 2298 = .ok (.invokevirtual 237, 3) := by decide +kernel
theorem dL_law_2301 : decode cL_law 2301 = .ok (.if_icmp .eq 61, 3) := by decide +kernel
theorem dL_law_2304 : decode cL_law 2304 = .ok (.iconst 0, 1) := by decide +kernel
theorem dL_law_2305 : decode cL_law 2305 = .ok (.ireturn, 1) := by decide +kernel
theorem dL_law_2306 : decode cL_law 2306 = .ok (.aload_n 1, 1) := by decide +kernel
theorem dL_law_2307 : decode cL_law 2307 = .ok (.aload_n 0, 1) := by decide +kernel
theorem dL_law_2308 : decode cL_law 2308 = .ok (.iload_n 3, 1) := by decide +kernel
theorem dL_law_2309 : decode cL_law 2309 = .ok (.iconst 1, 1) := by decide +kernel
theorem dL_law_2310 : decode cL_law 2310 = .ok (.iadd, 1) := by decide +kernel
theorem dL_law_2311 : decode cL_law 2311 = .ok (.iaload, 1) := by decide +kernel
theorem dL_law_2312 : decode cL_law 2312 = .ok (.aload_n 0, 1) := by decide +kernel
theorem dL_law_2313 : decode cL_law 2313 = .ok (.iload_n 3, 1) := by decide +kernel
theorem dL_law_2314 : decode cL_law 2314 = .ok (.iconst 2, 1) := by decide +kernel
theorem dL_law_2315 : decode cL_law 2315 = .ok (.iadd, 1) := by decide +kernel
theorem dL_law_2316 : decode cL_law 2316 = .ok (.iaload, 1) := by decide +kernel
theorem dL_law_2317 : decode cL_law 2317 = .ok (.invokevirtual 238, 3) := by decide +kernel
theorem dL_law_2320 : decode cL_law 2320 = .ok (.aload_n 2, 1) := by decide +kernel
theorem dL_law_2321 : decode cL_law 2321 = .ok (.aload_n 0, 1) := by decide +kernel
theorem dL_law_2322 : decode cL_law 2322 = .ok (.iload_n 3, 1) := by decide +kernel
theorem dL_law_2323 : decode cL_law 2323 = .ok (.iconst 1, 1) := by decide +kernel
theorem dL_law_2324 : decode cL_law 2324 = .ok (.iadd, 1) := by decide +kernel
theorem dL_law_2325 : decode cL_law 2325 = .ok (.iaload, 1) := by decide +kernel
theorem dL_law_2326 : decode cL_law 2326 = .ok (.aload_n 0, 1) := by decide +kernel
theorem dL_law_2327 : decode cL_law 2327 = .ok (.iload_n 3, 1) := by decide +kernel
theorem dL_law_2328 : decode cL_law 2328 = .ok (.iconst 2, 1) := by decide +kernel
theorem dL_law_2329 : decode cL_law 2329 = .ok (.iadd, 1) := by decide +kernel
theorem dL_law_2330 : decode cL_law 2330 = .ok (.iaload, 1) := by decide +kernel
theorem dL_law_2331 : decode cL_law 2331 = .ok (.invokevirtual 241, 3) := by decide +kernel
theorem dL_law_2334 : decode cL_law 2334 = .ok (.if_icmp .eq 28, 3) := by decide +kernel
theorem dL_law_2337 : decode cL_law 2337 = .ok (.iconst 0, 1) := by decide +kernel
theorem dL_law_2338 : decode cL_law 2338 = .ok (.ireturn, 1) := by decide +kernel
theorem dL_law_2339 : decode cL_law 2339 = .ok (.aload_n 1, 1) := by decide +kernel
theorem dL_law_2340 : decode cL_law 2340 = .ok (.aload_n 0, 1) := by decide +kernel
theorem dL_law_2341 : decode cL_law 2341 = .ok (.iload_n 3, 1) := by decide +kernel
theorem dL_law_2342 : decode cL_law 2342 = .ok (.iconst 1, 1) := by decide +kernel
theorem dL_law_2343 : decode cL_law 2343 = .ok (.iadd, 1) := by decide +kernel
theorem dL_law_2344 : decode cL_law 2344 = .ok (.iaload, 1) := by decide +kernel
theorem dL_law_2345 : decode cL_law 2345 = .ok (.invokevirtual 242, 3) := by decide +kernel
theorem dL_law_2348 : decode cL_law 2348 = .ok (.aload_n 2, 1) := by decide +kernel
theorem dL_law_2349 : decode cL_law 2349 = .ok (.aload_n 0, 1) := by decide +kernel
theorem dL_law_2350 : decode cL_law 2350 = .ok (.iload_n 3, 1) := by decide +kernel
theorem dL_law_2351 : decode cL_law 2351 = .ok (.iconst 1, 1) := by decide +kernel
theorem dL_law_2352 : decode cL_law 2352 = .ok (.iadd, 1) := by decide +kernel
theorem dL_law_2353 : decode cL_law 2353 = .ok (.iaload, 1) := by decide +kernel
theorem dL_law_2354 : decode cL_law 2354 = .ok (.invokevirtual 245, 3) := by decide +kernel
theorem dL_law_2357 : decode cL_law 2357 = .ok (.if_icmp .eq 5, 3) := by decide +kernel
theorem dL_law_2360 : decode cL_law 2360 = .ok (.iconst 0, 1) := by decide +kernel
theorem dL_law_2361 : decode cL_law 2361 = .ok (.ireturn, 1) := by decide +kernel
theorem dL_law_2362 : decode cL_law 2362 = .ok (.iinc 3 7, 3) := by decide +kernel
theorem dL_law_2365 : decode cL_law 2365 = .ok (.goto (-2347), 3) := by decide +kernel
theorem dL_law_2368 : decode cL_law 2368 = .ok (.iconst 1, 1) := by decide +kernel
theorem dL_law_2369 : decode cL_law 2369 = .ok (.ireturn, 1) := by decide +kernel
