theorem dL_law_1750 : decode cL_law 1750 = .ok (.iconst 0, 1) := by decide +kernel
theorem dL_law_1751 : decode cL_law 1751 = .ok (.laload, 1) := by decide +kernel
theorem dL_law_1752 : decode cL_law 1752 = .ok (.iload 6, 2) := by decide +kernel
theorem dL_law_1754 : decode cL_law 1754 = .ok (.i2l, 1) := by decide +kernel
theorem dL_law_1755 : decode cL_law 1755 = .ok (.lcmp, 1) := by decide +kernel
theorem dL_law_1756 : decode cL_law 1756 = .ok (.ifCond .eq 5, 3) := by decide +kernel
theorem dL_law_1759 : decode cL_law 1759 = .ok (.iconst 0, 1) := by decide +kernel
theorem dL_law_1760 : decode cL_law 1760 = .ok (.ireturn, 1) := by decide +kernel
theorem dL_law_1761 : decode cL_law 1761 = .ok (.goto 1422, 3) := by decide +kernel
theorem dL_law_1764 : decode cL_law 1764 = .ok (.aload_n 1, 1) := by decide +kernel
theorem dL_law_1765 : decode cL_law 1765 = .ok (.aload_n 0, 1) := by decide +kernel
theorem dL_law_1766 : decode cL_law 1766 = .ok (.iload 4, 2) := by decide +kernel
theorem dL_law_1768 : decode cL_law 1768 = .ok (.iconst 1, 1) := by decide +kernel
theorem dL_law_1769 : decode cL_law 1769 = .ok (.iadd, 1) := by decide +kernel
theorem dL_law_1770 : decode cL_law 1770 = .ok (.iaload, 1) := by decide +kernel
theorem dL_law_1771 : decode cL_law 1771 = .ok (.aload_n 3, 1) := by decide +kernel
theorem dL_law_1772 : decode cL_law 1772 = .ok (.invokestatic 292, 3) := by decide +kernel
theorem dL_law_1775 : decode cL_law 1775 = .ok (.istore 5, 2) := by decide +kernel
theorem dL_law_1777 : decode cL_law 1777 = .ok (.aload_n 2, 1) := by decide +kernel
theorem dL_law_1778 : decode cL_law 1778 = .ok (.aload_n 0, 1) := by decide +kernel
theorem dL_law_1779 : decode cL_law 1779 = .ok (.iload 4, 2) := by decide +kernel
theorem dL_law_1781 : decode cL_law 1781 = .ok (.iconst 1, 1) := by decide +kernel
theorem dL_law_1782 : decode cL_law 1782 = .ok (.iadd, 1) := by decide +kernel
theorem dL_law_1783 : decode cL_law 1783 = .ok (.iaload, 1) := by decide +kernel
theorem dL_law_1784 : decode cL_law 1784 = .ok (.invokevirtual 294, 3) := by decide +kernel
theorem dL_law_1787 : decode cL_law 1787 = .ok (.istore 6, 2) := by decide +kernel
theorem dL_law_1789 : decode cL_law 1789 = .ok (.aload_n 2, 1) := by decide +kernel
theorem dL_law_1790 : decode cL_law 1790 = .ok (.invokevirtual 158, 3) := by decide +kernel
theorem dL_law_1793 : decode cL_law 1793 = .ok (.iload 5, 2) := by decide +kernel
theorem dL_law_1795 : decode cL_law 1795 = .ok (.if_icmp .eq 5, 3) := by decide +kernel
theorem dL_law_1798 : decode cL_law 1798 = .ok (.iconst 0, 1) := by decide +kernel
theorem dL_law_1799 : decode cL_law 1799 = .ok (.ireturn, 1) := by decide +kernel
theorem dL_law_1800 : decode cL_law 1800 = .ok (.iload 5, 2) := by decide +kernel
theorem dL_law_1802 : decode cL_law 1802 = .ok (.ifCond .ne 15, 3) := by decide +kernel
theorem dL_law_1805 : decode cL_law 1805 = .ok (.aload_n 3, 1) := by decide +kernel
theorem dL_law_1806 : decode cL_law 1806 = .ok (.iconst 0, 1) := by decide +kernel
theorem dL_law_1807 : decode cL_law 1807 = .ok (.laload, 1) := by decide +kernel
theorem dL_law_1808 : decode cL_law 1808 = .ok (.iload 6, 2) := by decide +kernel
theorem dL_law_1810 : decode cL_law 1810 = .ok (.i2l, 1) := by decide +kernel
theorem dL_law_1811 : decode cL_law 1811 = .ok (.lcmp, 1) := by decide +kernel
theorem dL_law_1812 : decode cL_law 1812 = .ok (.ifCond .eq 5, 3) := by decide +kernel
theorem dL_law_1815 : decode cL_law 1815 = .ok (.iconst 0, 1) := by decide +kernel
theorem dL_law_1816 : decode cL_law 1816 = .ok (.ireturn, 1) := by decide +kernel
theorem dL_law_1817 : decode cL_law 1817 = .ok (.goto 1366, 3) := by decide +kernel
theorem dL_law_1820 : decode cL_law 1820 = .ok (.aload_n 1, 1) := by decide +kernel
theorem dL_law_1821 : decode cL_law 1821 = .ok (.aload_n 0, 1) := by decide +kernel
theorem dL_law_1822 : decode cL_law 1822 = .ok (.iload 4, 2) := by decide +kernel
theorem dL_law_1824 : decode cL_law 1824 = .ok (.iconst 1, 1) := by decide +kernel
theorem dL_law_1825 : decode cL_law 1825 = .ok (.iadd, 1) := by decide +kernel
theorem dL_law_1826 : decode cL_law 1826 = .ok (.iaload, 1) := by decide +kernel
theorem dL_law_1827 : decode cL_law 1827 = .ok (.aload_n 3, 1) := by decide +kernel
theorem dL_law_1828 : decode cL_law 1828 = .ok (.invokestatic 295, 3) := by decide +kernel
theorem dL_law_1831 : decode cL_law 1831 = .ok (.istore 5, 2) := by decide +kernel
theorem dL_law_1833 : decode cL_law 1833 = .ok (.aload_n 2, 1) := by decide +kernel
theorem dL_law_1834 : decode cL_law 1834 = .ok (.aload_n 0, 1) := by decide +kernel
theorem dL_law_1835 : decode cL_law 1835 = .ok (.iload 4, 2) := by decide +kernel
theorem dL_law_1837 : decode cL_law 1837 = .ok (.iconst 1, 1) := by decide +kernel
theorem dL_law_1838 : decode cL_law 1838 = .ok (.iadd, 1) := by decide +kernel
theorem dL_law_1839 : decode cL_law 1839 = .ok (.iaload, 1) := by decide +kernel
theorem dL_law_1840 : decode cL_law 1840 = .ok (.invokevirtual 297, 3) := by decide +kernel
theorem dL_law_1843 : decode cL_law 1843 = .ok (.istore 6, 2) := by decide +kernel
theorem dL_law_1845 : decode cL_law 1845 = .ok (.aload_n 2, 1) := by decide +kernel
theorem dL_law_1846 : decode cL_law 1846 = .ok (.invokevirtual 158, 3) := by decide +kernel
theorem dL_law_1849 : decode cL_law 1849 = .ok (.iload 5, 2) := by decide +kernel
theorem dL_law_1851 : decode cL_law 1851 = .ok (.if_icmp .eq 5, 3) := by decide +kernel
theorem dL_law_1854 : decode cL_law 1854 = .ok (.iconst 0, 1) := by decide +kernel
theorem dL_law_1855 : decode cL_law 1855 = .ok (.ireturn, 1) := by decide +kernel
theorem dL_law_1856 : decode cL_law 1856 = .ok (.iload 5, 2) := by decide +kernel
theorem dL_law_1858 : decode cL_law 1858 = .ok (.ifCond .ne 15, 3) := by decide +kernel
theorem dL_law_1861 : decode cL_law 1861 = .ok (.aload_n 3, 1) := by decide +kernel
theorem dL_law_1862 : decode cL_law 1862 = .ok (.iconst 0, 1) := by decide +kernel
theorem dL_law_1863 : decode cL_law 1863 = .ok (.laload, 1) := by decide +kernel
theorem dL_law_1864 : decode cL_law 1864 = .ok (.iload 6, 2) := by decide +kernel
theorem dL_law_1866 : decode cL_law 1866 = .ok (.i2l, 1) := by decide +kernel
theorem dL_law_1867 : decode cL_law 1867 = .ok (.lcmp, 1) := by decide +kernel
theorem dL_law_1868 : decode cL_law 1868 = .ok (.ifCond .eq 5, 3) := by decide +kernel
theorem dL_law_1871 : decode cL_law 1871 = .ok (.iconst 0, 1) := by decide +kernel
theorem dL_law_1872 : decode cL_law 1872 = .ok (.ireturn, 1) := by decide +kernel
theorem dL_law_1873 : decode cL_law 1873 = .ok (.goto 1310, 3) := by decide +kernel
theorem dL_law_1876 : decode cL_law 1876 = .ok (.aload_n 1, 1) := by decide +kernel
theorem dL_law_1877 : decode cL_law 1877 = .ok (.aload_n 0, 1) := by decide +kernel
theorem dL_law_1878 : decode cL_law 1878 = .ok (.iload 4, 2) := by decide +kernel
theorem dL_law_1880 : decode cL_law 1880 = .ok (.iconst 1, 1) := by decide +kernel
theorem dL_law_1881 : decode cL_law 1881 = .ok (.iadd, 1) := by decide +kernel
theorem dL_law_1882 : decode cL_law 1882 = .ok (.iaload, 1) := by decide +kernel
theorem dL_law_1883 : decode cL_law 1883 = .ok (.aload_n 3, 1) := by decide +kernel
theorem dL_law_1884 : decode cL_law 1884 = .ok (.invokestatic 298, 3) := by decide +kernel
theorem dL_law_1887 : decode cL_law 1887 = .ok (.istore 5, 2) := by decide +kernel
theorem dL_law_1889 : decode cL_law 1889 = .ok (.aload_n 2, 1) := by decide +kernel
theorem dL_law_1890 : decode cL_law 1890 = .ok (.aload_n 0, 1) := by decide +kernel
theorem dL_law_1891 : decode cL_law 1891 = .ok (.iload 4, 2) := by decide +kernel
theorem dL_law_1893 : decode cL_law 1893 = .ok (.iconst 1, 1) := by decide +kernel
theorem dL_law_1894 : decode cL_law 1894 = .ok (.iadd, 1) := by decide +kernel
theorem dL_law_1895 : decode cL_law 1895 = .ok (.iaload, 1) := by decide +kernel
theorem dL_law_1896 : decode cL_law 1896 = .ok (.invokevirtual 300, 3) := by decide +kernel
theorem dL_law_1899 : decode cL_law 1899 = .ok (.istore 6, 2) := by decide +kernel
theorem dL_law_1901 : decode cL_law 1901 = .ok (.aload_n 2, 1) := by decide +kernel
theorem dL_law_1902 : decode cL_law 1902 = .ok (.invokevirtual 158, 3) := by decide +kernel
theorem dL_law_1905 : decode cL_law 1905 = .ok (.iload 5, 2) := by decide +kernel
theorem dL_law_1907 : decode cL_law 1907 = .ok (.if_icmp .eq 5, 3) := by decide +kernel
theorem dL_law_1910 : decode cL_law 1910 = .ok (.iconst 0, 1) := by decide +kernel
theorem dL_law_1911 : decode cL_law 1911 = .ok (.ireturn, 1) := by decide +kernel
theorem dL_law_1912 : decode cL_law 1912 = .ok (.iload 5, 2) := by decide +kernel
theorem dL_law_1914 : decode cL_law 1914 = .ok (.ifCond .ne 15, 3) := by decide +kernel
theorem dL_law_1917 : decode cL_law 1917 = .ok (.aload_n 3, 1) := by decide +kernel
theorem dL_law_1918 : decode cL_law 1918 = .ok (.iconst 0, 1) := by decide +kernel
theorem dL_law_1919 : decode cL_law 1919 = .ok (.laload, 1) := by decide +kernel
theorem dL_law_1920 : decode cL_law 1920 = .ok (.iload 6, 2) := by decide +kernel
theorem dL_law_1922 : decode cL_law 1922 = .ok (.i2l, 1) := by decide +kernel
theorem dL_law_1923 : decode cL_law 1923 = .ok (.lcmp, 1) := by decide +kernel
theorem dL_law_1924 : decode cL_law 1924 = .ok (.ifCond .eq 5, 3) := by decide +kernel
theorem dL_law_1927 : decode cL_law 1927 = .ok (.iconst 0, 1) := by decide +kernel
theorem dL_law_1928 : decode cL_law 1928 = .ok (.ireturn, 1) := by decide +kernel
theorem dL_law_1929 : decode cL_law 1929 = .ok (.goto 1254, 3) := by decide +kernel
theorem dL_law_1932 : decode cL_law 1932 = .ok (.aload_n 1, 1) := by decide +kernel
theorem dL_law_1933 : decode cL_law 1933 = .ok (.aload_n 0, 1) := by decide +kernel
theorem dL_law_1934 : decode cL_law 1934 = .ok (.iload 4, 2) := by decide +kernel
theorem dL_law_1936 : decode cL_law 1936 = .ok (.iconst 1, 1) := by decide +kernel
theorem dL_law_1937 : decode cL_law 1937 = .ok (.iadd, 1) := by decide +kernel
theorem dL_law_1938 : decode cL_law 1938 = .ok (.iaload, 1) := by decide +kernel
theorem dL_law_1939 : decode cL_law 1939 = .ok (.aload_n 0, 1) := by decide +kernel
theorem dL_law_1940 : decode cL_law 1940 = .ok (.iload 4, 2) := by decide +kernel
theorem dL_law_1942 : decode cL_law 1942 = .ok (.iconst 2, 1) := by decide +kernel
theorem dL_law_1943 : decode cL_law 1943 = .ok (.iadd, 1) := by decide +kernel
theorem dL_law_1944 : decode cL_law 1944 = .ok (.iaload, 1) := by decide +kernel
theorem dL_law_1945 : decode cL_law 1945 = .ok (.aload_n 0, 1) := by decide +kernel
theorem dL_law_1946 : decode cL_law 1946 = .ok (.iload 4, 2) := by decide +kernel
theorem dL_law_1948 : decode cL_law 1948 = .ok (.iconst 3, 1) := by decide +kernel
theorem dL_law_1949 : decode cL_law 1949 = .ok (.iadd, 1) := by decide +kernel
theorem dL_law_1950 : decode cL_law 1950 = .ok (.iaload, 1) := by decide +kernel
theorem dL_law_1951 : decode cL_law 1951 = .ok (.aload_n 3, 1) := by decide +kernel
theorem dL_law_1952 : decode cL_law 1952 = .ok (.invokestatic 301, 3) := by decide +kernel
theorem dL_law_1955 : decode cL_law 1955 = .ok (.istore 5, 2) := by decide +kernel
theorem dL_law_1957 : decode cL_law 1957 = .ok (.aload_n 2, 1) := by decide +kernel
theorem dL_law_1958 : decode cL_law 1958 = .ok (.aload_n 0, 1) := by decide +kernel
theorem dL_law_1959 : decode cL_law 1959 = .ok (.iload 4, 2) := by decide +kernel
theorem dL_law_1961 : decode cL_law 1961 = .ok (.iconst 1, 1) := by decide +kernel
theorem dL_law_1962 : decode cL_law 1962 = .ok (.iadd, 1) := by decide +kernel
theorem dL_law_1963 : decode cL_law 1963 = .ok (.iaload, 1) := by decide +kernel
theorem dL_law_1964 : decode cL_law 1964 = .ok (.aload_n 0, 1) := by decide +kernel
theorem dL_law_1965 : decode cL_law 1965 = .ok (.iload 4, 2) := by decide +kernel
theorem dL_law_1967 : decode cL_law 1967 = .ok (.iconst 2, 1) := by decide +kernel
theorem dL_law_1968 : decode cL_law 1968 = .ok (.iadd, 1) := by decide +kernel
theorem dL_law_1969 : decode cL_law 1969 = .ok (.iaload, 1) := by decide +kernel
theorem dL_law_1970 : decode cL_law 1970 = .ok (.aload_n 0, 1) := by decide +kernel
theorem dL_law_1971 : decode cL_law 1971 = .ok (.iload 4, 2) := by decide +kernel
theorem dL_law_1973 : decode cL_law 1973 = .ok (.iconst 3, 1) := by decide +kernel
theorem dL_law_1974 : decode cL_law 1974 = .ok (.iadd, 1) := by decide +kernel
theorem dL_law_1975 : decode cL_law 1975 = .ok (.iaload, 1) := by decide +kernel
theorem dL_law_1976 : decode cL_law 1976 = .ok (.invokevirtual 304, 3) := by decide +kernel
theorem dL_law_1979 : decode cL_law 1979 = .ok (.istore 6, 2) := by decide +kernel
theorem dL_law_1981 : decode cL_law 1981 = .ok (.aload_n 2, 1) := by decide +kernel
theorem dL_law_1982 : decode cL_law 1982 = .ok (.invokevirtual 158, 3) := by decide +kernel
theorem dL_law_1985 : decode cL_law 1985 = .ok (.iload 5, 2) := by decide +kernel
theorem dL_law_1987 : decode cL_law 1987 = .ok (.if_icmp .eq 5, 3) := by decide +kernel
theorem dL_law_1990 : decode cL_law 1990 = .ok (.iconst 0, 1) := by decide +kernel
theorem dL_law_1991 : decode cL_law 1991 = .ok (.ireturn, 1) := by decide +kernel
theorem dL_law_1992 : decode cL_law 1992 = .ok (.iload 5, 2) := by decide +kernel
theorem dL_law_1994 : decode cL_law 1994 = .ok (.ifCond .ne 15, 3) := by decide +kernel
theorem dL_law_1997 : decode cL_law 1997 = .ok (.aload_n 3, 1) := by decide +kernel
theorem dL_law_1998 : decode cL_law 1998 = .ok (.iconst 0, 1) := by decide +kernel
theorem dL_law_1999 : decode cL_law 1999 = .ok (.laload, 1) := by decide +kernel
theorem dL_law_2000 : decode cL_law 2000 = .ok (.iload 6, 2) := by decide +kernel
theorem dL_law_2002 : decode cL_law 2002 = .ok (.i2l, 1) := by decide +kernel
theorem dL_law_2003 : decode cL_law 2003 = .ok (.lcmp, 1) := by decide +kernel
theorem dL_law_2004 : decode cL_law 2004 = .ok (.ifCond .eq 5, 3) := by decide +kernel
theorem dL_law_2007 : decode cL_law 2007 = .ok (.iconst 0, 1) := by decide +kernel
theorem dL_law_2008 : decode cL_law 2008 = .ok (.ireturn, 1) := by decide +kernel
theorem dL_law_2009 : decode cL_law 2009 = .ok (.goto 1174, 3) := by decide +kernel
theorem dL_law_2012 : decode cL_law 2012 = .ok (.aload_n 1, 1) := by decide +kernel
theorem dL_law_2013 : decode cL_law 2013 = .ok (.aload_n 0, 1) := by decide +kernel
theorem dL_law_2014 : decode cL_law 2014 = .ok (.iload 4, 2) := by decide +kernel
theorem dL_law_2016 : decode cL_law 2016 = .ok (.iconst 1, 1) := by decide +kernel
theorem dL_law_2017 : decode cL_law 2017 = .ok (.iadd, 1) := by decide +kernel
theorem dL_law_2018 : decode cL_law 2018 = .ok (.iaload, 1) := by decide +kernel
theorem dL_law_2019 : decode cL_law 2019 = .ok (.aload_n 0, 1) := by decide +kernel
theorem dL_law_2020 : decode cL_law 2020 = .ok (.iload 4, 2) := by decide +kernel
theorem dL_law_2022 : decode cL_law 2022 = .ok (.iconst 2, 1) := by decide +kernel
theorem dL_law_2023 : decode cL_law 2023 = .ok (.iadd, 1) := by decide +kernel
theorem dL_law_2024 : decode cL_law 2024 = .ok (.iaload, 1) := by decide +kernel
theorem dL_law_2025 : decode cL_law 2025 = .ok (.aload_n 3, 1) := by decide +kernel
theorem dL_law_2026 : decode cL_law 2026 = .ok (.invokestatic 305, 3) := by decide +kernel
theorem dL_law_2029 : decode cL_law 2029 = .ok (.istore 5, 2) := by decide +kernel
theorem dL_law_2031 : decode cL_law 2031 = .ok (.aload_n 2, 1) := by decide +kernel
theorem dL_law_2032 : decode cL_law 2032 = .ok (.aload_n 0, 1) := by decide +kernel
theorem dL_law_2033 : decode cL_law 2033 = .ok (.iload 4, 2) := by decide +kernel
theorem dL_law_2035 : decode cL_law 2035 = .ok (.iconst 1, 1) := by decide +kernel
theorem dL_law_2036 : decode cL_law 2036 = .ok (.iadd, 1) := by decide +kernel
theorem dL_law_2037 : decode cL_law 2037 = .ok (.iaload, 1) := by decide +kernel
theorem dL_law_2038 : decode cL_law 2038 = .ok (.aload_n 0, 1) := by decide +kernel
theorem dL_law_2039 : decode cL_law 2039 = .ok (.iload 4, 2) := by decide +kernel
theorem dL_law_2041 : decode cL_law 2041 = .ok (.iconst 2, 1) := by decide +kernel
theorem dL_law_2042 : decode cL_law 2042 = .ok (.iadd, 1) := by decide +kernel
theorem dL_law_2043 : decode cL_law 2043 = .ok (.iaload, 1) := by decide +kernel
theorem dL_law_2044 : decode cL_law 2044 = .ok (.invokevirtual 307, 3) := by decide +kernel
theorem dL_law_2047 : decode cL_law 2047 = .ok (.istore 6, 2) := by decide +kernel
theorem dL_law_2049 : decode cL_law 2049 = .ok (.aload_n 2, 1) := by decide +kernel
theorem dL_law_2050 : decode cL_law 2050 = .ok (.invokevirtual 158, 3) := by decide +kernel
theorem dL_law_2053 : decode cL_law 2053 = .ok (.iload 5, 2) := by decide +kernel
theorem dL_law_2055 : decode cL_law 2055 = .ok (.if_icmp .eq 5, 3) := by decide +kernel
theorem dL_law_2058 : decode cL_law 2058 = .ok (.iconst 0, 1) := by decide +kernel
theorem dL_law_2059 : decode cL_law 2059 = .ok (.ireturn, 1) := by decide +kernel
theorem dL_law_2060 : decode cL_law 2060 = .ok (.iload 5, 2) := by decide +kernel
theorem dL_law_2062 : decode cL_law 2062 = .ok (.ifCond .ne 15, 3) := by decide +kernel
theorem dL_law_2065 : decode cL_law 2065 = .ok (.aload_n 3, 1) := by decide +kernel
theorem dL_law_2066 : decode cL_law 2066 = .ok (.iconst 0, 1) := by decide +kernel
theorem dL_law_2067 : decode cL_law 2067 = .ok (.laload, 1) := by decide +kernel
theorem dL_law_2068 : decode cL_law 2068 = .ok (.iload 6, 2) := by decide +kernel
theorem dL_law_2070 : decode cL_law 2070 = .ok (.i2l, 1) := by decide +kernel
theorem dL_law_2071 : decode cL_law 2071 = .ok (.lcmp, 1) := by decide +kernel
theorem dL_law_2072 : decode cL_law 2072 = .ok (.ifCond .eq 5, 3) := by decide +kernel
theorem dL_law_2075 : decode cL_law 2075 = .ok (.iconst 0, 1) := by decide +kernel
theorem dL_law_2076 : decode cL_law 2076 = .ok (.ireturn, 1) := by decide +kernel
theorem dL_law_2077 : decode cL_law 2077 = .ok (.goto 1106, 3) := by decide +kernel
theorem dL_law_2080 : decode cL_law 2080 = .ok (.aload_n 1, 1) := by decide +kernel
theorem dL_law_2081 : decode cL_law 2081 = .ok (.aload_n 0, 1) := by decide +kernel
theorem dL_law_2082 : decode cL_law 2082 = .ok (.iload 4, 2) := by decide +kernel
theorem dL_law_2084 : decode cL_law 2084 = .ok (.iconst 1, 1) := by decide +kernel
theorem dL_law_2085 : decode cL_law 2085 = .ok (.iadd, 1) := by decide +kernel
theorem dL_law_2086 : decode cL_law 2086 = .ok (.iaload, 1) := by decide +kernel
theorem dL_law_2087 : decode cL_law 2087 = .ok (.aload_n 0, 1) := by decide +kernel
theorem dL_law_2088 : decode cL_law 2088 = .ok (.iload 4, 2) := by decide +kernel
theorem dL_law_2090 : decode cL_law 2090 = .ok (.iconst 2, 1) := by decide +kernel
theorem dL_law_2091 : decode cL_law 2091 = .ok (.iadd, 1) := by decide +kernel
theorem dL_law_2092 : decode cL_law 2092 = .ok (.iaload, 1) := by decide +kernel
theorem dL_law_2093 : decode cL_law 2093 = .ok (.aload_n 3, 1) := by decide +kernel
theorem dL_law_2094 : decode cL_law 2094 = .ok (.invokestatic 308, 3) := by decide +kernel
theorem dL_law_2097 : decode cL_law 2097 = .ok (.istore 5, 2) := by decide +kernel
theorem dL_law_2099 : decode cL_law 2099 = .ok (.aload_n 2, 1) := by decide +kernel
theorem dL_law_2100 : decode cL_law 2100 = .ok (.aload_n 0, 1) := by decide +kernel
theorem dL_law_2101 : decode cL_law 2101 = .ok (.iload 4, 2) := by decide +kernel
theorem dL_law_2103 : decode cL_law 2103 = .ok (.iconst 1, 1) := by decide +kernel
theorem dL_law_2104 : decode cL_law 2104 = .ok (.iadd, 1) := by decide +kernel
theorem dL_law_2105 : decode cL_law 2105 = .ok (.iaload, 1) := by decide +kernel
theorem dL_law_2106 : decode cL_law 2106 = .ok (.aload_n 0, 1) := by decide +kernel
theorem dL_law_2107 : decode cL_law 2107 = .ok (.iload 4, 2) := by decide +kernel
theorem dL_law_2109 : decode cL_law 2109 = .ok (.iconst 2, 1) := by decide +kernel
theorem dL_law_2110 : decode cL_law 2110 = .ok (.iadd, 1) := by decide +kernel
theorem dL_law_2111 : decode cL_law 2111 = .ok (.iaload, 1) := by decide +kernel
theorem dL_law_2112 : decode cL_law 2112 = .ok (.invokevirtual 310, 3) := by decide +kernel
theorem dL_law_2115 : decode cL_law 2115 = .ok (.istore 6, 2) := by decide +kernel
theorem dL_law_2117 : decode cL_law 2117 = .ok (.aload_n 2, 1) := by decide +kernel
theorem dL_law_2118 : decode cL_law 2118 = .ok (.invokevirtual 158, 3) := by decide +kernel
theorem dL_law_2121 : decode cL_law 2121 = .ok (.iload 5, 2) := by decide +kernel
theorem dL_law_2123 : decode cL_law 2123 = .ok (.if_icmp .eq 5, 3) := by decide +kernel
theorem dL_law_2126 : decode cL_law 2126 = .ok (.iconst 0, 1) := by decide +kernel
theorem dL_law_2127 : decode cL_law 2127 = .ok (.ireturn, 1) := by decide +kernel
theorem dL_law_2128 : decode cL_law 2128 = .ok (.iload 5, 2) := by decide +kernel
theorem dL_law_2130 : decode cL_law 2130 = .ok (.ifCond .ne 15, 3) := by decide +kernel
theorem dL_law_2133 : decode cL_law 2133 = .ok (.aload_n 3, 1) := by decide +kernel
theorem dL_law_2134 : decode cL_law 2134 = .ok (.iconst 0, 1) := by decide +kernel
theorem dL_law_2135 : decode cL_law 2135 = .ok (.laload, 1) := by decide +kernel
theorem dL_law_2136 : decode cL_law 2136 = .ok (.iload 6, 2) := by decide +kernel
theorem dL_law_2138 : decode cL_law 2138 = .ok (.i2l, 1) := by decide +kernel
theorem dL_law_2139 : decode cL_law 2139 = .ok (.lcmp, 1) := by decide +kernel
theorem dL_law_2140 : decode cL_law 2140 = .ok (.ifCond .eq 5, 3) := by decide +kernel
theorem dL_law_2143 : decode cL_law 2143 = .ok (.iconst 0, 1) := by decide +kernel
theorem dL_law_2144 : decode cL_law 2144 = .ok (.ireturn, 1) := by decide +kernel
theorem dL_law_2145 : decode cL_law 2145 = .ok (.goto 1038, 3) := by decide +kernel
theorem dL_law_2148 : decode cL_law 2148 = .ok (.aload_n 1, 1) := by decide +kernel
theorem dL_law_2149 : decode cL_law 2149 = .ok (.invokevirtual 311, 3) := by decide +kernel
theorem dL_law_2152 : decode cL_law 2152 = .ok (.aload_n 2, 1) := by decide +kernel
theorem dL_law_2153 : decode cL_law 2153 = .ok (.invokevirtual 314, 3) := by decide +kernel
theorem dL_law_2156 : decode cL_law 2156 = .ok (.if_icmp .eq 1027, 3) := by decide +kernel
theorem dL_law_2159 : decode cL_law 2159 = .ok (.iconst 0, 1) := by decide +kernel
theorem dL_law_2160 : decode cL_law 2160 = .ok (.ireturn, 1) := by decide +kernel
theorem dL_law_2161 : decode cL_law 2161 = .ok (.aload_n 1, 1) := by decide +kernel
theorem dL_law_2162 : decode cL_law 2162 = .ok (.aload_n 0, 1) := by decide +kernel
theorem dL_law_2163 : decode cL_law 2163 = .ok (.iload 4, 2) := by decide +kernel
theorem dL_law_2165 : decode cL_law 2165 = .ok (.iconst 1, 1) := by decide +kernel
theorem dL_law_2166 : decode cL_law 2166 = .ok (.iadd, 1) := by decide +kernel
theorem dL_law_2167 : decode cL_law 2167 = .ok (.iaload, 1) := by decide +kernel
theorem dL_law_2168 : decode cL_law 2168 = .ok (.aload_n 3, 1) := by decide +kernel
theorem dL_law_2169 : decode cL_law 2169 = .ok (.invokestatic 315, 3) := by decide +kernel
theorem dL_law_2172 : decode cL_law 2172 = .ok (.istore 5, 2) := by decide +kernel
theorem dL_law_2174 : decode cL_law 2174 = .ok (.aload_n 2, 1) := by decide +kernel
theorem dL_law_2175 : decode cL_law 2175 = .ok (.aload_n 0, 1) := by decide +kernel
theorem dL_law_2176 : decode cL_law 2176 = .ok (.iload 4, 2) := by decide +kernel
theorem dL_law_2178 : decode cL_law 2178 = .ok (.iconst 1, 1) := by decide +kernel
theorem dL_law_2179 : decode cL_law 2179 = .ok (.iadd, 1) := by decide +kernel
theorem dL_law_2180 : decode cL_law 2180 = .ok (.iaload, 1) := by decide +kernel
theorem dL_law_2181 : decode cL_law 2181 = .ok (.invokevirtual 317, 3) := by decide +kernel
theorem dL_law_2184 : decode cL_law 2184 = .ok (.istore 6, 2) := by decide +kernel
theorem dL_law_2186 : decode cL_law 2186 = .ok (.aload_n 2, 1) := by decide +kernel
theorem dL_law_2187 : decode cL_law 2187 = .ok (.invokevirtual 158, 3) := by decide +kernel
theorem dL_law_2190 : decode cL_law 2190 = .ok (.iload 5, 2) := by decide +kernel
theorem dL_law_2192 : decode cL_law 2192 = .ok (.if_icmp .eq 5, 3) := by decide +kernel
theorem dL_law_2195 : decode cL_law 2195 = .ok (.iconst 0, 1) := by decide +kernel
theorem dL_law_2196 : decode cL_law 2196 = .ok (.ireturn, 1) := by decide +kernel
theorem dL_law_2197 : decode cL_law 2197 = .ok (.iload 5, 2) := by decide +kernel
theorem dL_law_2199 : decode cL_law 2199 = .ok (.ifCond .ne 15, 3) := by decide +kernel
theorem dL_law_2202 : decode cL_law 2202 = .ok (.aload_n 3, 1) := by decide +kernel
theorem dL_law_2203 : decode cL_law 2203 = .ok (.iconst 0, 1) := by decide +kernel
theorem dL_law_2204 : decode cL_law 2204 = .ok (.laload, 1) := by decide +kernel
theorem dL_law_2205 : decode cL_law 2205 = .ok (.iload 6, 2) := by decide +kernel
theorem dL_law_2207 : decode cL_law 2207 = .ok (.i2l, 1) := by decide +kernel
theorem dL_law_2208 : decode cL_law 2208 = .ok (.lcmp, 1) := by decide +kernel
theorem dL_law_2209 : decode cL_law 2209 = .ok (.ifCond .eq 5, 3) := by decide +kernel
theorem dL_law_2212 : decode cL_law 2212 = .ok (.iconst 0, 1) := by decide +kernel
theorem dL_law_2213 : decode cL_law 2213 = .ok (.ireturn, 1) := by decide +kernel
theorem dL_law_2214 : decode cL_law 2214 = .ok (.goto 969, 3) := by decide +kernel
theorem dL_law_2217 : decode cL_law 2217 = .ok (.aload_n 1, 1) := by decide +kernel
theorem dL_law_2218 : decode cL_law 2218 = .ok (.aload_n 0, 1) := by decide +kernel
theorem dL_law_2219 : decode cL_law 2219 = .ok (.iload 4, 2) := by decide +kernel
theorem dL_law_2221 : decode cL_law 2221 = .ok (.iconst 1, 1) := by decide +kernel
theorem dL_law_2222 : decode cL_law 2222 = .ok (.iadd, 1) := by decide +kernel
theorem dL_law_2223 : decode cL_law 2223 = .ok (.iaload, 1) := by decide +kernel
theorem dL_law_2224 : decode cL_law 2224 = .ok (.aload_n 3, 1) := by decide +kernel
theorem dL_law_2225 : decode cL_law 2225 = .ok (.invokestatic 318, 3) := by decide +kernel
theorem dL_law_2228 : decode cL_law 2228 = .ok (.istore 5, 2) := by decide +kernel
theorem dL_law_2230 : decode cL_law 2230 = .ok (.aload_n 2, 1) := by decide +kernel
theorem dL_law_2231 : decode cL_law 2231 = .ok (.aload_n 0, 1) := by decide +kernel
theorem dL_law_2232 : decode cL_law 2232 = .ok (.iload 4, 2) := by decide +kernel
theorem dL_law_2234 : decode cL_law 2234 = .ok (.iconst 1, 1) := by decide +kernel
theorem dL_law_2235 : decode cL_law 2235 = .ok (.iadd, 1) := by decide +kernel
theorem dL_law_2236 : decode cL_law 2236 = .ok (.iaload, 1) := by decide +kernel
theorem dL_law_2237 : decode cL_law 2237 = .ok (.invokevirtual 320, 3) := by decide +kernel
theorem dL_law_2240 : decode cL_law 2240 = .ok (.istore 6, 2) := by decide +kernel
theorem dL_law_2242 : decode cL_law 2242 = .ok (.aload_n 2, 1) := by decide +kernel
theorem dL_law_2243 : decode cL_law 2243 = .ok (.invokevirtual 158, 3) := by decide +kernel
theorem dL_law_2246 : decode cL_law 2246 = .ok (.iload 5, 2) := by decide +kernel
theorem dL_law_2248 : decode cL_law 2248 = .ok (.if_icmp .eq 5, 3) := by decide +kernel
theorem dL_law_2251 : decode cL_law 2251 = .ok (.iconst 0, 1) := by decide +kernel
theorem dL_law_2252 : decode cL_law 2252 = .ok (.ireturn, 1) := by decide +kernel
theorem dL_law_2253 : decode cL_law 2253 = .ok (.iload 5, 2) := by decide +kernel
theorem dL_law_2255 : decode cL_law 2255 = .ok (.ifCond .ne 15, 3) := by decide +kernel
theorem dL_law_2258 : decode cL_law 2258 = .ok (.aload_n 3, 1) := by decide +kernel
theorem dL_law_2259 : decode cL_law 2259 = .ok (.iconst 0, 1) := by decide +kernel
theorem dL_law_2260 : decode cL_law 2260 = .ok (.laload, 1) := by decide +kernel
theorem dL_law_2261 : decode cL_law 2261 = .ok (.iload 6, 2) := by decide +kernel
theorem dL_law_2263 : decode cL_law 2263 = .ok (.i2l, 1) := by decide +kernel
theorem dL_law_2264 : decode cL_law 2264 = .ok (.lcmp, 1) := by decide +kernel
theorem dL_law_2265 : decode cL_law 2265 = .ok (.ifCond .eq 5, 3) := by decide +kernel
theorem dL_law_2268 : decode cL_law 2268 = .ok (.iconst 0, 1) := by decide +kernel
theorem dL_law_2269 : decode cL_law 2269 = .ok (.ireturn, 1) := by decide +kernel
theorem dL_law_2270 : decode cL_law 2270 = .ok (.goto 913, 3) := by decide +kernel
theorem dL_law_2273 : decode cL_law 2273 = .ok (.aload_n 1, 1) := by decide +kernel
theorem dL_law_2274 : decode cL_law 2274 = .ok (.invokevirtual 321, 3) := by decide +kernel
theorem dL_law_2277 : decode cL_law 2277 = .ok (.aload_n 2, 1) := by decide +kernel
theorem dL_law_2278 : decode cL_law 2278 = .ok (.invokevirtual 324, 3) := by decide +kernel
theorem dL_law_2281 : decode cL_law 2281 = .ok (.if_icmp .eq 902, 3) := by decide +kernel
theorem dL_law_2284 : decode cL_law 2284 = .ok (.iconst 0, 1) := by decide +kernel
theorem dL_law_2285 : decode cL_law 2285 = .ok (.ireturn, 1) := by decide +kernel
theorem dL_law_2286 : decode cL_law 2286 = .ok (.aload_n 1, 1) := by decide +kernel
theorem dL_law_2287 : decode cL_law 2287 = .ok (.invokevirtual 325, 3) := by decide +kernel
theorem dL_law_2290 : decode cL_law 2290 = .ok (.dstore 5, 2) := by decide +kernel
theorem dL_law_2292 : decode cL_law 2292 = .ok (.aload_n 2, 1) := by decide +kernel
theorem dL_law_2293 : decode cL_law 2293 = .ok (.invokevirtual 329, 3) := by decide +kernel
theorem dL_law_2296 : decode cL_law 2296 = .ok (.dstore 7, 2) := by decide +kernel
theorem dL_law_2298 : decode cL_law 2298 = .ok (.dload 5, 2) := by decide +kernel
theorem dL_law_2300 : decode cL_law 2300 = .ok (.dload 7, 2) := by decide +kernel
theorem dL_law_2302 : decode cL_law 2302 = .ok (.dcmp .l, 1) := by decide +kernel
theorem dL_law_2303 : decode cL_law 2303 = .ok (.ifCond .eq 21, 3) := by decide +kernel
theorem dL_law_2306 : decode cL_law 2306 = .ok (.dload 5, 2) := by decide +kernel
theorem dL_law_2308 : decode cL_law 2308 = .ok (.dload 5, 2) := by decide +kernel
theorem dL_law_2310 : decode cL_law 2310 = .ok (.dcmp .l, 1) := by decide +kernel
theorem dL_law_2311 : decode cL_law 2311 = .ok (.ifCond .eq 11, 3) := by decide +kernel
theorem dL_law_2314 : decode cL_law 2314 = .ok (.dload 7, 2) := by decide +kernel
theorem dL_law_2316 : decode cL_law 2316 = .ok (.dload 7, 2) := by decide +kernel
theorem dL_law_2318 : decode cL_law 2318 = .ok (.dcmp .l, 1) := by decide +kernel
theorem dL_law_2319 : decode cL_law 2319 = .ok (.ifCond .ne 5, 3) := by decide +kernel
theorem dL_law_2322 : decode cL_law 2322 = .ok (.iconst 0, 1) := by decide +kernel
theorem dL_law_2323 : decode cL_law 2323 = .ok (.ireturn, 1) := by decide +kernel
theorem dL_law_2324 : decode cL_law 2324 = .ok (.goto 859, 3) := by decide +kernel
theorem dL_law_2327 : decode cL_law 2327 = .ok (.aload_n 1, 1) := by decide +kernel
theorem dL_law_2328 : decode cL_law 2328 = .ok (.invokevirtual 330, 3) := by decide +kernel
theorem dL_law_2331 : decode cL_law 2331 = .ok (.f2d, 1) := by decide +kernel
theorem dL_law_2332 : decode cL_law 2332 = .ok (.dstore 5, 2) := by decide +kernel
theorem dL_law_2334 : decode cL_law 2334 = .ok (.aload_n 2, 1) := by decide +kernel
theorem dL_law_2335 : decode cL_law 2335 = .ok (.invokevirtual 334, 3) := by decide +kernel
theorem dL_law_2338 : decode cL_law 2338 = .ok (.f2d, 1) := by decide +kernel
theorem dL_law_2339 : decode cL_law 2339 = .ok (.dstore 7, 2) := by decide +kernel
theorem dL_law_2341 : decode cL_law 2341 = .ok (.dload 5, 2) := by decide +kernel
theorem dL_law_2343 : decode cL_law 2343 = .ok (.dload 7, 2) := by decide +kernel
theorem dL_law_2345 : decode cL_law 2345 = .ok (.dcmp .l, 1) := by decide +kernel
theorem dL_law_2346 : decode cL_law 2346 = .ok (.ifCond .eq 21, 3) := by decide +kernel
theorem dL_law_2349 : decode cL_law 2349 = .ok (.dload 5, 2) := by decide +kernel
theorem dL_law_2351 : decode cL_law 2351 = .ok (.dload 5, 2) := by decide +kernel
theorem dL_law_2353 : decode cL_law 2353 = .ok (.dcmp .l, 1) := by decide +kernel
theorem dL_law_2354 : decode cL_law 2354 = .ok (.ifCond .eq 11, 3) := by decide +kernel
theorem dL_law_2357 : decode cL_law 2357 = .ok (.dload 7, 2) := by decide +kernel
theorem dL_law_2359 : decode cL_law 2359 = .ok (.dload 7, 2) := by decide +kernel
theorem dL_law_2361 : decode cL_law 2361 = .ok (.dcmp .l, 1) := by decide +kernel
theorem dL_law_2362 : decode cL_law 2362 = .ok (.ifCond .ne 5, 3) := by decide +kernel
theorem dL_law_2365 : decode cL_law 2365 = .ok (.iconst 0, 1) := by decide +kernel
theorem dL_law_2366 : decode cL_law 2366 = .ok (.ireturn, 1) := by decide +kernel
theorem dL_law_2367 : decode cL_law 2367 = .ok (.goto 816, 3) := by decide +kernel
theorem dL_law_2370 : decode cL_law 2370 = .ok (.aload_n 1, 1) := by decide +kernel
theorem dL_law_2371 : decode cL_law 2371 = .ok (.aload_n 0, 1) := by decide +kernel
theorem dL_law_2372 : decode cL_law 2372 = .ok (.iload 4, 2) := by decide +kernel
theorem dL_law_2374 : decode cL_law 2374 = .ok (.iconst 1, 1) := by decide +kernel
theorem dL_law_2375 : decode cL_law 2375 = .ok (.iadd, 1) := by decide +kernel
theorem dL_law_2376 : decode cL_law 2376 = .ok (.iaload, 1) := by decide +kernel
theorem dL_law_2377 : decode cL_law 2377 = .ok (.aload_n 0, 1) := by decide +kernel
theorem dL_law_2378 : decode cL_law 2378 = .ok (.iload 4, 2) := by decide +kernel
theorem dL_law_2380 : decode cL_law 2380 = .ok (.iconst 2, 1) := by decide +kernel
theorem dL_law_2381 : decode cL_law 2381 = .ok (.iadd, 1) := by decide +kernel
theorem dL_law_2382 : decode cL_law 2382 = .ok (.iaload, 1) := by decide +kernel
theorem dL_law_2383 : decode cL_law 2383 = .ok (.aload_n 0, 1) := by decide +kernel
theorem dL_law_2384 : decode cL_law 2384 = .ok (.iload 4, 2) := by decide +kernel
theorem dL_law_2386 : decode cL_law 2386 = .ok (.iconst 3, 1) := by decide +kernel
theorem dL_law_2387 : decode cL_law 2387 = .ok (.iadd, 1) := by decide +kernel
theorem dL_law_2388 : decode cL_law 2388 = .ok (.iaload, 1) := by decide +kernel
theorem dL_law_2389 : decode cL_law 2389 = .ok (.aload_n 3, 1) := by decide +kernel
theorem dL_law_2390 : decode cL_law 2390 = .ok (.invokestatic 335, 3) := by decide +kernel
theorem dL_law_2393 : decode cL_law 2393 = .ok (.istore 5, 2) := by decide +kernel
theorem dL_law_2395 : decode cL_law 2395 = .ok (.aload_n 2, 1) := by decide +kernel
theorem dL_law_2396 : decode cL_law 2396 = .ok (.aload_n 0, 1) := by decide +kernel
theorem dL_law_2397 : decode cL_law 2397 = .ok (.iload 4, 2) := by decide +kernel
theorem dL_law_2399 : decode cL_law 2399 = .ok (.iconst 1, 1) := by decide +kernel
theorem dL_law_2400 : decode cL_law 2400 = .ok (.iadd, 1) := by decide +kernel
theorem dL_law_2401 : decode cL_law 2401 = .ok (.iaload, 1) := by decide +kernel
theorem dL_law_2402 : decode cL_law 2402 = .ok (.aload_n 0, 1) := by decide +kernel
theorem dL_law_2403 : decode cL_law 2403 = .ok (.iload 4, 2) := by decide +kernel
theorem dL_law_2405 : decode cL_law 2405 = .ok (.iconst 2, 1) := by decide +kernel
theorem dL_law_2406 : decode cL_law 2406 = .ok (.iadd, 1) := by decide +kernel
theorem dL_law_2407 : decode cL_law 2407 = .ok (.iaload, 1) := by decide +kernel
theorem dL_law_2408 : decode cL_law 2408 = .ok (.aload_n 0, 1) := by decide +kernel
theorem dL_law_2409 : decode cL_law 2409 = .ok (.iload 4, 2) := by decide +kernel
theorem dL_law_2411 : decode cL_law 2411 = .ok (.iconst 3, 1) := by decide +kernel
theorem dL_law_2412 : decode cL_law 2412 = .ok (.iadd, 1) := by decide +kernel
theorem dL_law_2413 : decode cL_law 2413 = .ok (.iaload, 1) := by decide +kernel
theorem dL_law_2414 : decode cL_law 2414 = .ok (.invokevirtual 337, 3) := by decide +kernel
theorem dL_law_2417 : decode cL_law 2417 = .ok (.istore 6, 2) := by decide +kernel
theorem dL_law_2419 : decode cL_law 2419 = .ok (.aload_n 2, 1) := by decide +kernel
theorem dL_law_2420 : decode cL_law 2420 = .ok (.invokevirtual 158, 3) := by decide +kernel
theorem dL_law_2423 : decode cL_law 2423 = .ok (.iload 5, 2) := by decide +kernel
theorem dL_law_2425 : decode cL_law 2425 = .ok (.if_icmp .eq 5, 3) := by decide +kernel
theorem dL_law_2428 : decode cL_law 2428 = .ok (.iconst 0, 1) := by decide +kernel
theorem dL_law_2429 : decode cL_law 2429 = .ok (.ireturn, 1) := by decide +kernel
theorem dL_law_2430 : decode cL_law 2430 = .ok (.iload 5, 2) := by decide +kernel
theorem dL_law_2432 : decode cL_law 2432 = .ok (.ifCond .ne 15, 3) := by decide +kernel
theorem dL_law_2435 : decode cL_law 2435 = .ok (.aload_n 3, 1) := by decide +kernel
theorem dL_law_2436 : decode cL_law 2436 = .ok (.iconst 0, 1) := by decide +kernel
theorem dL_law_2437 : decode cL_law 2437 = .ok (.laload, 1) := by decide +kernel
theorem dL_law_2438 : decode cL_law 2438 = .ok (.iload 6, 2) := by decide +kernel
theorem dL_law_2440 : decode cL_law 2440 = .ok (.i2l, 1) := by decide +kernel
theorem dL_law_2441 : decode cL_law 2441 = .ok (.lcmp, 1) := by decide +kernel
theorem dL_law_2442 : decode cL_law 2442 = .ok (.ifCond .eq 5, 3) := by decide +kernel
theorem dL_law_2445 : decode cL_law 2445 = .ok (.iconst 0, 1) := by decide +kernel
theorem dL_law_2446 : decode cL_law 2446 = .ok (.ireturn, 1) := by decide +kernel
theorem dL_law_2447 : decode cL_law 2447 = .ok (.goto 736, 3) := by decide +kernel
theorem dL_law_2450 : decode cL_law 2450 = .ok (.aload_n 1, 1) := by decide +kernel
theorem dL_law_2451 : decode cL_law 2451 = .ok (.aload_n 0, 1) := by decide +kernel
theorem dL_law_2452 : decode cL_law 2452 = .ok (.iload 4, 2) := by decide +kernel
theorem dL_law_2454 : decode cL_law 2454 = .ok (.iconst 1, 1) := by decide +kernel
theorem dL_law_2455 : decode cL_law 2455 = .ok (.iadd, 1) := by decide +kernel
theorem dL_law_2456 : decode cL_law 2456 = .ok (.iaload, 1) := by decide +kernel
theorem dL_law_2457 : decode cL_law 2457 = .ok (.aload_n 0, 1) := by decide +kernel
theorem dL_law_2458 : decode cL_law 2458 = .ok (.iload 4, 2) := by decide +kernel
theorem dL_law_2460 : decode cL_law 2460 = .ok (.iconst 2, 1) := by decide +kernel
theorem dL_law_2461 : decode cL_law 2461 = .ok (.iadd, 1) := by decide +kernel
theorem dL_law_2462 : decode cL_law 2462 = .ok (.iaload, 1) := by decide +kernel
theorem dL_law_2463 : decode cL_law 2463 = .ok (.aload_n 3, 1) := by decide +kernel
theorem dL_law_2464 : decode cL_law 2464 = .ok (.invokestatic 338, 3) := by decide +kernel
theorem dL_law_2467 : decode cL_law 2467 = .ok (.istore 5, 2) := by decide +kernel
theorem dL_law_2469 : decode cL_law 2469 = .ok (.aload_n 2, 1) := by decide +kernel
theorem dL_law_2470 : decode cL_law 2470 = .ok (.aload_n 0, 1) := by decide +kernel
theorem dL_law_2471 : decode cL_law 2471 = .ok (.iload 4, 2) := by decide +kernel
theorem dL_law_2473 : decode cL_law 2473 = .ok (.iconst 1, 1) := by decide +kernel
theorem dL_law_2474 : decode cL_law 2474 = .ok (.iadd, 1) := by decide +kernel
theorem dL_law_2475 : decode cL_law 2475 = .ok (.iaload, 1) := by decide +kernel
theorem dL_law_2476 : decode cL_law 2476 = .ok (.aload_n 0, 1) := by decide +kernel
theorem dL_law_2477 : decode cL_law 2477 = .ok (.iload 4, 2) := by decide +kernel
theorem dL_law_2479 : decode cL_law 2479 = .ok (.iconst 2, 1) := by decide +kernel
theorem dL_law_2480 : decode cL_law 2480 = .ok (.iadd, 1) := by decide +kernel
theorem dL_law_2481 : decode cL_law 2481 = .ok (.iaload, 1) := by decide +kernel
theorem dL_law_2482 : decode cL_law 2482 = .ok (.invokevirtual 340, 3) := by decide +kernel
theorem dL_law_2485 : decode cL_law 2485 = .ok (.istore 6, 2) := by decide +kernel
theorem dL_law_2487 : decode cL_law 2487 = .ok (.aload_n 2, 1) := by decide +kernel
theorem dL_law_2488 : decode cL_law 2488 = .ok (.invokevirtual 158, 3) := by decide +kernel
theorem dL_law_2491 : decode cL_law 2491 = .ok (.iload 5, 2) := by decide +kernel
theorem dL_law_2493 : decode cL_law 2493 = .ok (.if_icmp .eq 5, 3) := by decide +kernel
theorem dL_law_2496 : decode cL_law 2496 = .ok (.iconst 0, 1) := by decide +kernel
theorem dL_law_2497 : decode cL_law 2497 = .ok (.ireturn, 1) := by decide +kernel
theorem dL_law_2498 : decode cL_law 2498 = .ok (.iload 5, 2) := by decide +kernel
theorem dL_law_2500 : decode cL_law 2500 = .ok (.ifCond .ne 15, 3) := by decide +kernel
theorem dL_law_2503 : decode cL_law 2503 = .ok (.aload_n 3, 1) := by decide +kernel
theorem dL_law_2504 : decode cL_law 2504 = .ok (.iconst 0, 1) := by decide +kernel
theorem dL_law_2505 : decode cL_law 2505 = .ok (.laload, 1) := by decide +kernel
theorem dL_law_2506 : decode cL_law 2506 = .ok (.iload 6, 2) := by decide +kernel
theorem dL_law_2508 : decode cL_law 2508 = .ok (.i2l, 1) := by decide +kernel
theorem dL_law_2509 : decode cL_law 2509 = .ok (.lcmp, 1) := by decide +kernel
theorem dL_law_2510 : decode cL_law 2510 = .ok (.ifCond .eq 5, 3) := by decide +kernel
theorem dL_law_2513 : decode cL_law 2513 = .ok (.iconst 0, 1) := by decide +kernel
theorem dL_law_2514 : decode cL_law 2514 = .ok (.ireturn, 1) := by decide +kernel
theorem dL_law_2515 : decode cL_law 2515 = .ok (.goto 668, 3) := by decide +kernel
theorem dL_law_2518 : decode cL_law 2518 = .ok (.aload_n 1, 1) := by decide +kernel
theorem dL_law_2519 : decode cL_law 2519 = .ok (.aload_n 0, 1) := by decide +kernel
theorem dL_law_2520 : decode cL_law 2520 = .ok (.iload 4, 2) := by decide +kernel
theorem dL_law_2522 : decode cL_law 2522 = .ok (.iconst 1, 1) := by decide +kernel
theorem dL_law_2523 : decode cL_law 2523 = .ok (.iadd, 1) := by decide +kernel
theorem dL_law_2524 : decode cL_law 2524 = .ok (.iaload, 1) := by decide +kernel
theorem dL_law_2525 : decode cL_law 2525 = .ok (.aload_n 0, 1) := by decide +kernel
theorem dL_law_2526 : decode cL_law 2526 = .ok (.iload 4, 2) := by decide +kernel
theorem dL_law_2528 : decode cL_law 2528 = .ok (.iconst 2, 1) := by decide +kernel
theorem dL_law_2529 : decode cL_law 2529 = .ok (.iadd, 1) := by decide +kernel
theorem dL_law_2530 : decode cL_law 2530 = .ok (.iaload, 1) := by decide +kernel
theorem dL_law_2531 : decode cL_law 2531 = .ok (.aload_n 0, 1) := by decide +kernel
theorem dL_law_2532 : decode cL_law 2532 = .ok (.iload 4, 2) := by decide +kernel
theorem dL_law_2534 : decode cL_law 2534 = .ok (.iconst 3, 1) := by decide +kernel
theorem dL_law_2535 : decode cL_law 2535 = .ok (.iadd, 1) := by decide +kernel
theorem dL_law_2536 : decode cL_law 2536 = .ok (.iaload, 1) := by decide +kernel
theorem dL_law_2537 : decode cL_law 2537 = .ok (.aload_n 0, 1) := by decide +kernel
theorem dL_law_2538 : decode cL_law 2538 = .ok (.iload 4, 2) := by decide +kernel
theorem dL_law_2540 : decode cL_law 2540 = .ok (.iconst 4, 1) := by decide +kernel
theorem dL_law_2541 : decode cL_law 2541 = .ok (.iadd, 1) := by decide +kernel
theorem dL_law_2542 : decode cL_law 2542 = .ok (.iaload, 1) := by decide +kernel
theorem dL_law_2543 : decode cL_law 2543 = .ok (.aload_n 3, 1) := by decide +kernel
theorem dL_law_2544 : decode cL_law 2544 = .ok (.invokestatic 341, 3) := by decide +kernel
theorem dL_law_2547 : decode cL_law 2547 = .ok (.istore 5, 2) := by decide +kernel
theorem dL_law_2549 : decode cL_law 2549 = .ok (.aload_n 2, 1) := by decide +kernel
theorem dL_law_2550 : decode cL_law 2550 = .ok (.aload_n 0, 1) := by decide +kernel
theorem dL_law_2551 : decode cL_law 2551 = .ok (.iload 4, 2) := by decide +kernel
theorem dL_law_2553 : decode cL_law 2553 = .ok (.iconst 1, 1) := by decide +kernel
theorem dL_law_2554 : decode cL_law 2554 = .ok (.iadd, 1) := by decide +kernel
theorem dL_law_2555 : decode cL_law 2555 = .ok (.iaload, 1) := by decide +kernel
theorem dL_law_2556 : decode cL_law 2556 = .ok (.aload_n 0, 1) := by decide +kernel
theorem dL_law_2557 : decode cL_law 2557 = .ok (.iload 4, 2) := by decide +kernel
theorem dL_law_2559 : decode cL_law 2559 = .ok (.iconst 2, 1) := by decide +kernel
theorem dL_law_2560 : decode cL_law 2560 = .ok (.iadd, 1) := by decide +kernel
theorem dL_law_2561 : decode cL_law 2561 = .ok (.iaload, 1) := by decide +kernel
theorem dL_law_2562 : decode cL_law 2562 = .ok (.aload_n 0, 1) := by decide +kernel
theorem dL_law_2563 : decode cL_law 2563 = .ok (.iload 4, 2) := by decide +kernel
theorem dL_law_2565 : decode cL_law 2565 = .ok (.iconst 3, 1) := by decide +kernel
theorem dL_law_2566 : decode cL_law 2566 = .ok (.iadd, 1) := by decide +kernel
theorem dL_law_2567 : decode cL_law 2567 = .ok (.iaload, 1) := by decide +kernel
theorem dL_law_2568 : decode cL_law 2568 = .ok (.aload_n 0, 1) := by decide +kernel
theorem dL_law_2569 : decode cL_law 2569 = .ok (.iload 4, 2) := by decide +kernel
theorem dL_law_2571 : decode cL_law 2571 = .ok (.iconst 4, 1) := by decide +kernel
theorem dL_law_2572 : decode cL_law 2572 = .ok (.iadd, 1) := by decide +kernel
theorem dL_law_2573 : decode cL_law 2573 = .ok (.iaload, 1) := by decide +kernel
theorem dL_law_2574 : decode cL_law 2574 = .ok (.invokevirtual 344, 3) := by decide +kernel
theorem dL_law_2577 : decode cL_law 2577 = .ok (.istore 6, 2) := by decide +kernel
theorem dL_law_2579 : decode cL_law 2579 = .ok (.aload_n 2, 1) := by decide +kernel
theorem dL_law_2580 : decode cL_law 2580 = .ok (.invokevirtual 158, 3) := by decide +kernel
theorem dL_law_2583 : decode cL_law 2583 = .ok (.iload 5, 2) := by decide +kernel
theorem dL_law_2585 : decode cL_law 2585 = .ok (.if_icmp .eq 5, 3) := by decide +kernel
theorem dL_law_2588 : decode cL_law 2588 = .ok (.iconst 0, 1) := by decide +kernel
theorem dL_law_2589 : decode cL_law 2589 = .ok (.ireturn, 1) := by decide +kernel
theorem dL_law_2590 : decode cL_law 2590 = .ok (.iload 5, 2) := by decide +kernel
theorem dL_law_2592 : decode cL_law 2592 = .ok (.ifCond .ne 15, 3) := by decide +kernel
theorem dL_law_2595 : decode cL_law 2595 = .ok (.aload_n 3, 1) := by decide +kernel
theorem dL_law_2596 : decode cL_law 2596 = .ok (.iconst 0, 1) := by decide +kernel
theorem dL_law_2597 : decode cL_law 2597 = .ok (.laload, 1) := by decide +kernel
theorem dL_law_2598 : decode cL_law 2598 = .ok (.iload 6, 2) := by decide +kernel
theorem dL_law_2600 : decode cL_law 2600 = .ok (.i2l, 1) := by decide +kernel
theorem dL_law_2601 : decode cL_law 2601 = .ok (.lcmp, 1) := by decide +kernel
theorem dL_law_2602 : decode cL_law 2602 = .ok (.ifCond .eq 5, 3) := by decide +kernel
theorem dL_law_2605 : decode cL_law 2605 = .ok (.iconst 0, 1) := by decide +kernel
theorem dL_law_2606 : decode cL_law 2606 = .ok (.ireturn, 1) := by decide +kernel
theorem dL_law_2607 : decode cL_law 2607 = .ok (.goto 576, 3) := by decide +kernel
theorem dL_law_2610 : decode cL_law 2610 = .ok (.aload_n 1, 1) := by decide +kernel
theorem dL_law_2611 : decode cL_law 2611 = .ok (.aload_n 0, 1) := by decide +kernel
theorem dL_law_2612 : decode cL_law 2612 = .ok (.iload 4, 2) := by decide +kernel
theorem dL_law_2614 : decode cL_law 2614 = .ok (.iconst 1, 1) := by decide +kernel
theorem dL_law_2615 : decode cL_law 2615 = .ok (.iadd, 1) := by decide +kernel
theorem dL_law_2616 : decode cL_law 2616 = .ok (.iaload, 1) := by decide +kernel
theorem dL_law_2617 : decode cL_law 2617 = .ok (.aload_n 3, 1) := by decide +kernel
theorem dL_law_2618 : decode cL_law 2618 = .ok (.invokestatic 345, 3) := by decide +kernel
theorem dL_law_2621 : decode cL_law 2621 = .ok (.istore 5, 2) := by decide +kernel
theorem dL_law_2623 : decode cL_law 2623 = .ok (.aload_n 2, 1) := by decide +kernel
theorem dL_law_2624 : decode cL_law 2624 = .ok (.aload_n 0, 1) := by decide +kernel
theorem dL_law_2625 : decode cL_law 2625 = .ok (.iload 4, 2) := by decide +kernel
theorem dL_law_2627 : decode cL_law 2627 = .ok (.iconst 1, 1) := by decide +kernel
theorem dL_law_2628 : decode cL_law 2628 = .ok (.iadd, 1) := by decide +kernel
theorem dL_law_2629 : decode cL_law 2629 = .ok (.iaload, 1) := by decide +kernel
theorem dL_law_2630 : decode cL_law 2630 = .ok (.invokevirtual 347, 3) := by decide +kernel
theorem dL_law_2633 : decode cL_law 2633 = .ok (.istore 6, 2) := by decide +kernel
theorem dL_law_2635 : decode cL_law 2635 = .ok (.aload_n 2, 1) := by decide +kernel
theorem dL_law_2636 : decode cL_law 2636 = .ok (.invokevirtual 158, 3) := by decide +kernel
theorem dL_law_2639 : decode cL_law 2639 = .ok (.iload 5, 2) := by decide +kernel
theorem dL_law_2641 : decode cL_law 2641 = .ok (.if_icmp .eq 5, 3) := by decide +kernel
theorem dL_law_2644 : decode cL_law 2644 = .ok (.iconst 0, 1) := by decide +kernel
theorem dL_law_2645 : decode cL_law 2645 = .ok (.ireturn, 1) := by decide +kernel
theorem dL_law_2646 : decode cL_law 2646 = .ok (.iload 5, 2) := by decide +kernel
theorem dL_law_2648 : decode cL_law 2648 = .ok (.ifCond .ne 15, 3) := by decide +kernel
theorem dL_law_2651 : decode cL_law 2651 = .ok (.aload_n 3, 1) := by decide +kernel
theorem dL_law_2652 : decode cL_law 2652 = .ok (.iconst 0, 1) := by decide +kernel
theorem dL_law_2653 : decode cL_law 2653 = .ok (.laload, 1) := by decide +kernel
theorem dL_law_2654 : decode cL_law 2654 = .ok (.iload 6, 2) := by decide +kernel
theorem dL_law_2656 : decode cL_law 2656 = .ok (.i2l, 1) := by decide +kernel
theorem dL_law_2657 : decode cL_law 2657 = .ok (.lcmp, 1) := by decide +kernel
theorem dL_law_2658 : decode cL_law 2658 = .ok (.ifCond .eq 5, 3) := by decide +kernel
theorem dL_law_2661 : decode cL_law 2661 = .ok (.iconst 0, 1) := by decide +kernel
theorem dL_law_2662 : decode cL_law 2662 = .ok (.ireturn, 1) := by decide +kernel
theorem dL_law_2663 : decode cL_law 2663 = .ok (.goto 520, 3) := by decide +kernel
theorem dL_law_2666 : decode cL_law 2666 = .ok (.aload_n 1, 1) := by decide +kernel
theorem dL_law_2667 : decode cL_law 2667 = .ok (.aload_n 0, 1) := by decide +kernel
theorem dL_law_2668 : decode cL_law 2668 = .ok (.iload 4, 2) := by decide +kernel
theorem dL_law_2670 : decode cL_law 2670 = .ok (.iconst 1, 1) := by decide +kernel
theorem dL_law_2671 : decode cL_law 2671 = .ok (.iadd, 1) := by decide +kernel
theorem dL_law_2672 : decode cL_law 2672 = .ok (.iaload, 1) := by decide +kernel
theorem dL_law_2673 : decode cL_law 2673 = .ok (.aload_n 3, 1) := by decide +kernel
theorem dL_law_2674 : decode cL_law 2674 = .ok (.invokestatic 348, 3) := by decide +kernel
theorem dL_law_2677 : decode cL_law 2677 = .ok (.istore 5, 2) := by decide +kernel
theorem dL_law_2679 : decode cL_law 2679 = .ok (.aload_n 2, 1) := by decide +kernel
theorem dL_law_2680 : decode cL_law 2680 = .ok (.aload_n 0, 1) := by decide +kernel
theorem dL_law_2681 : decode cL_law 2681 = .ok (.iload 4, 2) := by decide +kernel
theorem dL_law_2683 : decode cL_law 2683 = .ok (.iconst 1, 1) := by decide +kernel
theorem dL_law_2684 : decode cL_law 2684 = .ok (.iadd, 1) := by decide +kernel
theorem dL_law_2685 : decode cL_law 2685 = .ok (.iaload, 1) := by decide +kernel
theorem dL_law_2686 : decode cL_law 2686 = .ok (.invokevirtual 350, 3) := by decide +kernel
theorem dL_law_2689 : decode cL_law 2689 = .ok (.istore 6, 2) := by decide +kernel
theorem dL_law_2691 : decode cL_law 2691 = .ok (.aload_n 2, 1) := by decide +kernel
theorem dL_law_2692 : decode cL_law 2692 = .ok (.invokevirtual 158, 3) := by decide +kernel
theorem dL_law_2695 : decode cL_law 2695 = .ok (.iload 5, 2) := by decide +kernel
theorem dL_law_2697 : decode cL_law 2697 = .ok (.if_icmp .eq 5, 3) := by decide +kernel
theorem dL_law_2700 : decode cL_law 2700 = .ok (.iconst 0, 1) := by decide +kernel
theorem dL_law_2701 : decode cL_law 2701 = .ok (.ireturn, 1) := by decide +kernel
theorem dL_law_2702 : decode cL_law 2702 = .ok (.iload 5, 2) := by decide +kernel
theorem dL_law_2704 : decode cL_law 2704 = .ok (.ifCond .ne 15, 3) := by decide +kernel
theorem dL_law_2707 : decode cL_law 2707 = .ok (.aload_n 3, 1) := by decide +kernel
theorem dL_law_2708 : decode cL_law 2708 = .ok (.iconst 0, 1) := by decide +kernel
theorem dL_law_2709 : decode cL_law 2709 = .ok (.laload, 1) := by decide +kernel
theorem dL_law_2710 : decode cL_law 2710 = .ok (.iload 6, 2) := by decide +kernel
theorem dL_law_2712 : decode cL_law 2712 = .ok (.i2l, 1) := by decide +kernel
theorem dL_law_2713 : decode cL_law 2713 = .ok (.lcmp, 1) := by decide +kernel
theorem dL_law_2714 : decode cL_law 2714 = .ok (.ifCond .eq 5, 3) := by decide +kernel
theorem dL_law_2717 : decode cL_law 2717 = .ok (.iconst 0, 1) := by decide +kernel
theorem dL_law_2718 : decode cL_law 2718 = .ok (.ireturn, 1) := by decide +kernel
theorem dL_law_2719 : decode cL_law 2719 = .ok (.goto 464, 3) := by decide +kernel
theorem dL_law_2722 : decode cL_law 2722 = .ok (.aload_n 1, 1) := by decide +kernel
theorem dL_law_2723 : decode cL_law 2723 = .ok (.aload_n 0, 1) := by decide +kernel
theorem dL_law_2724 : decode cL_law 2724 = .ok (.iload 4, 2) := by decide +kernel
theorem dL_law_2726 : decode cL_law 2726 = .ok (.iconst 1, 1) := by decide +kernel
theorem dL_law_2727 : decode cL_law 2727 = .ok (.iadd, 1) := by decide +kernel
theorem dL_law_2728 : decode cL_law 2728 = .ok (.iaload, 1) := by decide +kernel
theorem dL_law_2729 : decode cL_law 2729 = .ok (.aload_n 0, 1) := by decide +kernel
theorem dL_law_2730 : decode cL_law 2730 = .ok (.iload 4, 2) := by decide +kernel
theorem dL_law_2732 : decode cL_law 2732 = .ok (.iconst 2, 1) := by decide +kernel
theorem dL_law_2733 : decode cL_law 2733 = .ok (.iadd, 1) := by decide +kernel
theorem dL_law_2734 : decode cL_law 2734 = .ok (.iaload, 1) := by decide +kernel
theorem dL_law_2735 : decode cL_law 2735 = .ok (.aload_n 3, 1) := by decide +kernel
theorem dL_law_2736 : decode cL_law 2736 = .ok (.invokestatic 351, 3) := by decide +kernel
theorem dL_law_2739 : decode cL_law 2739 = .ok (.istore 5, 2) := by decide +kernel
theorem dL_law_2741 : decode cL_law 2741 = .ok (.aload_n 2, 1) := by decide +kernel
theorem dL_law_2742 : decode cL_law 2742 = .ok (.aload_n 0, 1) := by decide +kernel
theorem dL_law_2743 : decode cL_law 2743 = .ok (.iload 4, 2) := by decide +kernel
theorem dL_law_2745 : decode cL_law 2745 = .ok (.iconst 1, 1) := by decide +kernel
theorem dL_law_2746 : decode cL_law 2746 = .ok (.iadd, 1) := by decide +kernel
theorem dL_law_2747 : decode cL_law 2747 = .ok (.iaload, 1) := by decide +kernel
theorem dL_law_2748 : decode cL_law 2748 = .ok (.aload_n 0, 1) := by decide +kernel
theorem dL_law_2749 : decode cL_law 2749 = .ok (.iload 4, 2) := by decide +kernel
theorem dL_law_2751 : decode cL_law 2751 = .ok (.iconst 2, 1) := by decide +kernel
theorem dL_law_2752 : decode cL_law 2752 = .ok (.iadd, 1) := by decide +kernel
theorem dL_law_2753 : decode cL_law 2753 = .ok (.iaload, 1) := by decide +kernel
theorem dL_law_2754 : decode cL_law 2754 = .ok (.invokevirtual 353, 3) := by decide +kernel
theorem dL_law_2757 : decode cL_law 2757 = .ok (.istore 6, 2) := by decide +kernel
theorem dL_law_2759 : decode cL_law 2759 = .ok (.aload_n 2, 1) := by decide +kernel
theorem dL_law_2760 : decode cL_law 2760 = .ok (.invokevirtual 158, 3) := by decide +kernel
theorem dL_law_2763 : decode cL_law 2763 = .ok (.iload 5, 2) := by decide +kernel
theorem dL_law_2765 : decode cL_law 2765 = .ok (.if_icmp .eq 5, 3) := by decide +kernel
theorem dL_law_2768 : decode cL_law 2768 = .ok (.iconst 0, 1) := by decide +kernel
theorem dL_law_2769 : decode cL_law 2769 = .ok (.ireturn, 1) := by decide +kernel
theorem dL_law_2770 : decode cL_law 2770 = .ok (.iload 5, 2) := by decide +kernel
theorem dL_law_2772 : decode cL_law 2772 = .ok (.ifCond .ne 15, 3) := by decide +kernel
theorem dL_law_2775 : decode cL_law 2775 = .ok (.aload_n 3, 1) := by decide +kernel
theorem dL_law_2776 : decode cL_law 2776 = .ok (.iconst 0, 1) := by decide +kernel
theorem dL_law_2777 : decode cL_law 2777 = .ok (.laload, 1) := by decide +kernel
theorem dL_law_2778 : decode cL_law 2778 = .ok (.iload 6, 2) := by decide +kernel
theorem dL_law_2780 : decode cL_law 2780 = .ok (.i2l, 1) := by decide +kernel
theorem dL_law_2781 : decode cL_law 2781 = .ok (.lcmp, 1) := by decide +kernel
theorem dL_law_2782 : decode cL_law 2782 = .ok (.ifCond .eq 5, 3) := by decide +kernel
theorem dL_law_2785 : decode cL_law 2785 = .ok (.iconst 0, 1) := by decide +kernel
theorem dL_law_2786 : decode cL_law 2786 = .ok (.ireturn, 1) := by decide +kernel
theorem dL_law_2787 : decode cL_law 2787 = .ok (.goto 396, 3) := by decide +kernel
theorem dL_law_2790 : decode cL_law 2790 = .ok (.aload_n 1, 1) := by decide +kernel
theorem dL_law_2791 : decode cL_law 2791 = .ok (.aload_n 0, 1) := by decide +kernel
theorem dL_law_2792 : decode cL_law 2792 = .ok (.iload 4, 2) := by decide +kernel
theorem dL_law_2794 : decode cL_law 2794 = .ok (.iconst 1, 1) := by decide +kernel
theorem dL_law_2795 : decode cL_law 2795 = .ok (.iadd, 1) := by decide +kernel
theorem dL_law_2796 : decode cL_law 2796 = .ok (.iaload, 1) := by decide +kernel
theorem dL_law_2797 : decode cL_law 2797 = .ok (.aload_n 0, 1) := by decide +kernel
theorem dL_law_2798 : decode cL_law 2798 = .ok (.iload 4, 2) := by decide +kernel
theorem dL_law_2800 : decode cL_law 2800 = .ok (.iconst 2, 1) := by decide +kernel
theorem dL_law_2801 : decode cL_law 2801 = .ok (.iadd, 1) := by decide +kernel
theorem dL_law_2802 : decode cL_law 2802 = .ok (.iaload, 1) := by decide +kernel
theorem dL_law_2803 : decode cL_law 2803 = .ok (.aload_n 3, 1) := by decide +kernel
theorem dL_law_2804 : decode cL_law 2804 = .ok (.invokestatic 354, 3) := by decide +kernel
theorem dL_law_2807 : decode cL_law 2807 = .ok (.istore 5, 2) := by decide +kernel
theorem dL_law_2809 : decode cL_law 2809 = .ok (.aload_n 2, 1) := by decide +kernel
theorem dL_law_2810 : decode cL_law 2810 = .ok (.aload_n 0, 1) := by decide +kernel
theorem dL_law_2811 : decode cL_law 2811 = .ok (.iload 4, 2) := by decide +kernel
theorem dL_law_2813 : decode cL_law 2813 = .ok (.iconst 1, 1) := by decide +kernel
theorem dL_law_2814 : decode cL_law 2814 = .ok (.iadd, 1) := by decide +kernel
theorem dL_law_2815 : decode cL_law 2815 = .ok (.iaload, 1) := by decide +kernel
theorem dL_law_2816 : decode cL_law 2816 = .ok (.aload_n 0, 1) := by decide +kernel
theorem dL_law_2817 : decode cL_law 2817 = .ok (.iload 4, 2) := by decide +kernel
theorem dL_law_2819 : decode cL_law 2819 = .ok (.iconst 2, 1) := by decide +kernel
theorem dL_law_2820 : decode cL_law 2820 = .ok (.iadd, 1) := by decide +kernel
theorem dL_law_2821 : decode cL_law 2821 = .ok (.iaload, 1) := by decide +kernel
theorem dL_law_2822 : decode cL_law 2822 = .ok (.invokevirtual 356, 3) := by decide +kernel
theorem dL_law_2825 : decode cL_law 2825 = .ok (.istore 6, 2) := by decide +kernel
theorem dL_law_2827 : decode cL_law 2827 = .ok (.aload_n 2, 1) := by decide +kernel
theorem dL_law_2828 : decode cL_law 2828 = .ok (.invokevirtual 158, 3) := by decide +kernel
theorem dL_law_2831 : decode cL_law 2831 = .ok (.iload 5, 2) := by decide +kernel
theorem dL_law_2833 : decode cL_law 2833 = .ok (.if_icmp .eq 5, 3) := by decide +kernel
theorem dL_law_2836 : decode cL_law 2836 = .ok (.iconst 0, 1) := by decide +kernel
theorem dL_law_2837 : decode cL_law 2837 = .ok (.ireturn, 1) := by decide +kernel
theorem dL_law_2838 : decode cL_law 2838 = .ok (.iload 5, 2) := by decide +kernel
theorem dL_law_2840 : decode cL_law 2840 = .ok (.ifCond .ne 15, 3) := by decide +kernel
theorem dL_law_2843 : decode cL_law 2843 = .ok (.aload_n 3, 1) := by decide +kernel
theorem dL_law_2844 : decode cL_law 2844 = .ok (.iconst 0, 1) := by decide +kernel
theorem dL_law_2845 : decode cL_law 2845 = .ok (.laload, 1) := by decide +kernel
theorem dL_law_2846 : decode cL_law 2846 = .ok (.iload 6, 2) := by decide +kernel
theorem dL_law_2848 : decode cL_law 2848 = .ok (.i2l, 1) := by decide +kernel
theorem dL_law_2849 : decode cL_law 2849 = .ok (.lcmp, 1) := by decide +kernel
theorem dL_law_2850 : decode cL_law 2850 = .ok (.ifCond .eq 5, 3) := by decide +kernel
theorem dL_law_2853 : decode cL_law 2853 = .ok (.iconst 0, 1) := by decide +kernel
theorem dL_law_2854 : decode cL_law 2854 = .ok (.ireturn, 1) := by decide +kernel
theorem dL_law_2855 : decode cL_law 2855 = .ok (.goto 328, 3) := by decide +kernel
theorem dL_law_2858 : decode cL_law 2858 = .ok (.aload_n 1, 1) := by decide +kernel
theorem dL_law_2859 : decode cL_law 2859 = .ok (.aload_n 0, 1) := by decide +kernel
theorem dL_law_2860 : decode cL_law 2860 = .ok (.iload 4, 2) := by decide +kernel
theorem dL_law_2862 : decode cL_law 2862 = .ok (.iconst 1, 1) := by decide +kernel
theorem dL_law_2863 : decode cL_law 2863 = .ok (.iadd, 1) := by decide +kernel
theorem dL_law_2864 : decode cL_law 2864 = .ok (.iaload, 1) := by decide +kernel
theorem dL_law_2865 : decode cL_law 2865 = .ok (.aload_n 3, 1) := by decide +kernel
theorem dL_law_2866 : decode cL_law 2866 = .ok (.invokestatic 357, 3) := by decide +kernel
theorem dL_law_2869 : decode cL_law 2869 = .ok (.istore 5, 2) := by decide +kernel
theorem dL_law_2871 : decode cL_law 2871 = .ok (.aload_n 2, 1) := by decide +kernel
theorem dL_law_2872 : decode cL_law 2872 = .ok (.aload_n 0, 1) := by decide +kernel
theorem dL_law_2873 : decode cL_law 2873 = .ok (.iload 4, 2) := by decide +kernel
theorem dL_law_2875 : decode cL_law 2875 = .ok (.iconst 1, 1) := by decide +kernel
theorem dL_law_2876 : decode cL_law 2876 = .ok (.iadd, 1) := by decide +kernel
theorem dL_law_2877 : decode cL_law 2877 = .ok (.iaload, 1) := by decide +kernel
theorem dL_law_2878 : decode cL_law 2878 = .ok (.invokevirtual 359, 3) := by decide +kernel
theorem dL_law_2881 : decode cL_law 2881 = .ok (.istore 6, 2) := by decide +kernel
theorem dL_law_2883 : decode cL_law 2883 = .ok (.aload_n 2, 1) := by decide +kernel
theorem dL_law_2884 : decode cL_law 2884 = .ok (.invokevirtual 158, 3) := by decide +kernel
theorem dL_law_2887 : decode cL_law 2887 = .ok (.iload 5, 2) := by decide +kernel
theorem dL_law_2889 : decode cL_law 2889 = .ok (.if_icmp .eq 5, 3) := by decide +kernel
theorem dL_law_2892 : decode cL_law 2892 = .ok (.iconst 0, 1) := by decide +kernel
theorem dL_law_2893 : decode cL_law 2893 = .ok (.ireturn, 1) := by decide +kernel
theorem dL_law_2894 : decode cL_law 2894 = .ok (.iload 5, 2) := by decide +kernel
theorem dL_law_2896 : decode cL_law 2896 = .ok (.ifCond .ne 15, 3) := by decide +kernel
theorem dL_law_2899 : decode cL_law 2899 = .ok (.aload_n 3, 1) := by decide +kernel
theorem dL_law_2900 : decode cL_law 2900 = .ok (.iconst 0, 1) := by decide +kernel
theorem dL_law_2901 : decode cL_law 2901 = .ok (.laload, 1) := by decide +kernel
theorem dL_law_2902 : decode cL_law 2902 = .ok (.iload 6, 2) := by decide +kernel
theorem dL_law_2904 : decode cL_law 2904 = .ok (.i2l, 1) := by decide +kernel
theorem dL_law_2905 : decode cL_law 2905 = .ok (.lcmp, 1) := by decide +kernel
theorem dL_law_2906 : decode cL_law 2906 = .ok (.ifCond .eq 5, 3) := by decide +kernel
theorem dL_law_2909 : decode cL_law 2909 = .ok (.iconst 0, 1) := by decide +kernel
theorem dL_law_2910 : decode cL_law 2910 = .ok (.ireturn, 1) := by decide +kernel
theorem dL_law_2911 : decode cL_law 2911 = .ok (.goto 272, 3) := by decide +kernel
theorem dL_law_2914 : decode cL_law 2914 = .ok (.aload_n 1, 1) := by decide +kernel
theorem dL_law_2915 : decode cL_law 2915 = .ok (.aload_n 0, 1) := by decide +kernel
theorem dL_law_2916 : decode cL_law 2916 = .ok (.iload 4, 2) := by decide +kernel
theorem dL_law_2918 : decode cL_law 2918 = .ok (.iconst 1, 1) := by decide +kernel
theorem dL_law_2919 : decode cL_law 2919 = .ok (.iadd, 1) := by decide +kernel
theorem dL_law_2920 : decode cL_law 2920 = .ok (.iaload, 1) := by decide +kernel
theorem dL_law_2921 : decode cL_law 2921 = .ok (.aload_n 3, 1) := by decide +kernel
theorem dL_law_2922 : decode cL_law 2922 = .ok (.invokestatic 360, 3) := by decide +kernel
theorem dL_law_2925 : decode cL_law 2925 = .ok (.istore 5, 2) := by decide +kernel
theorem dL_law_2927 : decode cL_law 2927 = .ok (.aload_n 2, 1) := by decide +kernel
theorem dL_law_2928 : decode cL_law 2928 = .ok (.aload_n 0, 1) := by decide +kernel
theorem dL_law_2929 : decode cL_law 2929 = .ok (.iload 4, 2) := by decide +kernel
theorem dL_law_2931 : decode cL_law 2931 = .ok (.iconst 1, 1) := by decide +kernel
theorem dL_law_2932 : decode cL_law 2932 = .ok (.iadd, 1) := by decide +kernel
theorem dL_law_2933 : decode cL_law 2933 = .ok (.iaload, 1) := by decide +kernel
theorem dL_law_2934 : decode cL_law 2934 = .ok (.invokevirtual 362, 3) := by decide +kernel
theorem dL_law_2937 : decode cL_law 2937 = .ok (.istore 6, 2) := by decide +kernel
theorem dL_law_2939 : decode cL_law 2939 = .ok (.aload_n 2, 1) := by decide +kernel
theorem dL_law_2940 : decode cL_law 2940 = .ok (.invokevirtual 158, 3) := by decide +kernel
theorem dL_law_2943 : decode cL_law 2943 = .ok (.iload 5, 2) := by decide +kernel
theorem dL_law_2945 : decode cL_law 2945 = .ok (.if_icmp .eq 5, 3) := by decide +kernel
theorem dL_law_2948 : decode cL_law 2948 = .ok (.iconst 0, 1) := by decide +kernel
theorem dL_law_2949 : decode cL_law 2949 = .ok (.ireturn, 1) := by decide +kernel
theorem dL_law_2950 : decode cL_law 2950 = .ok (.iload 5, 2) := by decide +kernel
theorem dL_law_2952 : decode cL_law 2952 = .ok (.ifCond .ne 15, 3) := by decide +kernel
theorem dL_law_2955 : decode cL_law 2955 = .ok (.aload_n 3, 1) := by decide +kernel
theorem dL_law_2956 : decode cL_law 2956 = .ok (.iconst 0, 1) := by decide +kernel
theorem dL_law_2957 : decode cL_law 2957 = .ok (.laload, 1) := by decide +kernel
theorem dL_law_2958 : decode cL_law 2958 = .ok (.iload 6, 2) := by decide +kernel
theorem dL_law_2960 : decode cL_law 2960 = .ok (.i2l, 1) := by decide +kernel
theorem dL_law_2961 : decode cL_law 2961 = .ok (.lcmp, 1) := by decide +kernel
theorem dL_law_2962 : decode cL_law 2962 = .ok (.ifCond .eq 5, 3) := by decide +kernel
theorem dL_law_2965 : decode cL_law 2965 = .ok (.iconst 0, 1) := by decide +kernel
theorem dL_law_2966 : decode cL_law 2966 = .ok (.ireturn, 1) := by decide +kernel
theorem dL_law_2967 : decode cL_law 2967 = .ok (.goto 216, 3) := by decide +kernel
theorem dL_law_2970 : decode cL_law 2970 = .ok (.aload_n 1, 1) := by decide +kernel
theorem dL_law_2971 : decode cL_law 2971 = .ok (.aload_n 3, 1) := by decide +kernel
theorem dL_law_2972 : decode cL_law 2972 = .ok (.invokestatic 363, 3) := by decide +kernel
theorem dL_law_2975 : decode cL_law 2975 = .ok (.istore 5, 2) := by decide +kernel
theorem dL_law_2977 : decode cL_law 2977 = .ok (.aload_n 2, 1) := by decide +kernel
theorem dL_law_2978 : decode cL_law 2978 = .ok (.invokevirtual 365, 3) := by decide +kernel
theorem dL_law_2981 : decode cL_law 2981 = .ok (.istore 6, 2) := by decide +kernel
theorem dL_law_2983 : decode cL_law 2983 = .ok (.aload_n 2, 1) := by decide +kernel
theorem dL_law_2984 : decode cL_law 2984 = .ok (.invokevirtual 158, 3) := by decide +kernel
theorem dL_law_2987 : decode cL_law 2987 = .ok (.iload 5, 2) := by decide +kernel
theorem dL_law_2989 : decode cL_law 2989 = .ok (.if_icmp .eq 5, 3) := by decide +kernel
theorem dL_law_2992 : decode cL_law 2992 = .ok (.iconst 0, 1) := by decide +kernel
theorem dL_law_2993 : decode cL_law 2993 = .ok (.ireturn, 1) := by decide +kernel
theorem dL_law_2994 : decode cL_law 2994 = .ok (.iload 5, 2) := by decide +kernel
theorem dL_law_2996 : decode cL_law 2996 = .ok (.ifCond .ne 15, 3) := by decide +kernel
theorem dL_law_2999 : decode cL_law 2999 = .ok (.aload_n 3, 1) := by decide +kernel
theorem dL_law_3000 : decode cL_law 3000 = .ok (.iconst 0, 1) := by decide +kernel
theorem dL_law_3001 : decode cL_law 3001 = .ok (.laload, 1) := by decide +kernel
theorem dL_law_3002 : decode cL_law 3002 = .ok (.iload 6, 2) := by decide +kernel
theorem dL_law_3004 : decode cL_law 3004 = .ok (.i2l, 1) := by decide +kernel
theorem dL_law_3005 : decode cL_law 3005 = .ok (.lcmp, 1) := by decide +kernel
theorem dL_law_3006 : decode cL_law 3006 = .ok (.ifCond .eq 5, 3) := by decide +kernel
theorem dL_law_3009 : decode cL_law 3009 = .ok (.iconst 0, 1) := by decide +kernel
theorem dL_law_3010 : decode cL_law 3010 = .ok (.ireturn, 1) := by decide +kernel
theorem dL_law_3011 : decode cL_law 3011 = .ok (.goto 172, 3) := by decide +kernel
theorem dL_law_3014 : decode cL_law 3014 = .ok (.aload_n 1, 1) := by decide +kernel
theorem dL_law_3015 : decode cL_law 3015 = .ok (.aload_n 0, 1) := by decide +kernel
theorem dL_law_3016 : decode cL_law 3016 = .ok (.iload 4, 2) := by decide +kernel
theorem dL_law_3018 : decode cL_law 3018 = .ok (.iconst 1, 1) := by decide +kernel
theorem dL_law_3019 : decode cL_law 3019 = .ok (.iadd, 1) := by decide +kernel
theorem dL_law_3020 : decode cL_law 3020 = .ok (.iaload, 1) := by decide +kernel
theorem dL_law_3021 : decode cL_law 3021 = .ok (.aload_n 3, 1) := by decide +kernel
theorem dL_law_3022 : decode cL_law 3022 = .ok (.invokestatic 366, 3) := by decide +kernel
theorem dL_law_3025 : decode cL_law 3025 = .ok (.istore 5, 2) := by decide +kernel
theorem dL_law_3027 : decode cL_law 3027 = .ok (.aload_n 2, 1) := by decide +kernel
theorem dL_law_3028 : decode cL_law 3028 = .ok (.aload_n 0, 1) := by decide +kernel
theorem dL_law_3029 : decode cL_law 3029 = .ok (.iload 4, 2) := by decide +kernel
theorem dL_law_3031 : decode cL_law 3031 = .ok (.iconst 1, 1) := by decide +kernel
theorem dL_law_3032 : decode cL_law 3032 = .ok (.iadd, 1) := by decide +kernel
theorem dL_law_3033 : decode cL_law 3033 = .ok (.iaload, 1) := by decide +kernel
theorem dL_law_3034 : decode cL_law 3034 = .ok (.invokevirtual 368, 3) := by decide +kernel
theorem dL_law_3037 : decode cL_law 3037 = .ok (.istore 6, 2) := by decide +kernel
theorem dL_law_3039 : decode cL_law 3039 = .ok (.aload_n 2, 1) := by decide +kernel
theorem dL_law_3040 : decode cL_law 3040 = .ok (.invokevirtual 158, 3) := by decide +kernel
theorem dL_law_3043 : decode cL_law 3043 = .ok (.iload 5, 2) := by decide +kernel
theorem dL_law_3045 : decode cL_law 3045 = .ok (.if_icmp .eq 5, 3) := by decide +kernel
theorem dL_law_3048 : decode cL_law 3048 = .ok (.iconst 0, 1) := by decide +kernel
theorem dL_law_3049 : decode cL_law 3049 = .ok (.ireturn, 1) := by decide +kernel
theorem dL_law_3050 : decode cL_law 3050 = .ok (.iload 5, 2) := by decide +kernel
theorem dL_law_3052 : decode cL_law 3052 = .ok (.ifCond .ne 15, 3) := by decide +kernel
theorem dL_law_3055 : decode cL_law 3055 = .ok (.aload_n 3, 1) := by decide +kernel
theorem dL_law_3056 : decode cL_law 3056 = .ok (.iconst 0, 1) := by decide +kernel
theorem dL_law_3057 : decode cL_law 3057 = .ok (.laload, 1) := by decide +kernel
theorem dL_law_3058 : decode cL_law 3058 = .ok (.iload 6, 2) := by decide +kernel
theorem dL_law_3060 : decode cL_law 3060 = .ok (.i2l, 1) := by decide +kernel
theorem dL_law_3061 : decode cL_law 3061 = .ok (.lcmp, 1) := by decide +kernel
theorem dL_law_3062 : decode cL_law 3062 = .ok (.ifCond .eq 5, 3) := by decide +kernel
theorem dL_law_3065 : decode cL_law 3065 = .ok (.iconst 0, 1) := by decide +kernel
theorem dL_law_3066 : decode cL_law 3066 = .ok (.ireturn, 1) := by decide +kernel
theorem dL_law_3067 : decode cL_law 3067 = .ok (.goto 116, 3) := by decide +kernel
theorem dL_law_3070 : decode cL_law 3070 = .ok (.aload_n 1, 1) := by decide +kernel
theorem dL_law_3071 : decode cL_law 3071 = .ok (.aload_n 0, 1) := by decide +kernel
theorem dL_law_3072 : decode cL_law 3072 = .ok (.iload 4, 2) := by decide +kernel
theorem dL_law_3074 : decode cL_law 3074 = .ok (.iconst 1, 1) := by decide +kernel
theorem dL_law_3075 : decode cL_law 3075 = .ok (.iadd, 1) := by decide +kernel
theorem dL_law_3076 : decode cL_law 3076 = .ok (.iaload, 1) := by decide +kernel
theorem dL_law_3077 : decode cL_law 3077 = .ok (.aload_n 3, 1) := by decide +kernel
theorem dL_law_3078 : decode cL_law 3078 = .ok (.invokestatic 369, 3) := by decide +kernel
theorem dL_law_3081 : decode cL_law 3081 = .ok (.istore 5, 2) := by decide +kernel
theorem dL_law_3083 : decode cL_law 3083 = .ok (.aload_n 2, 1) := by decide +kernel
theorem dL_law_3084 : decode cL_law 3084 = .ok (.aload_n 0, 1) := by decide +kernel
theorem dL_law_3085 : decode cL_law 3085 = .ok (.iload 4, 2) := by decide +kernel
theorem dL_law_3087 : decode cL_law 3087 = .ok (.iconst 1, 1) := by decide +kernel
theorem dL_law_3088 : decode cL_law 3088 = .ok (.iadd, 1) := by decide +kernel
theorem dL_law_3089 : decode cL_law 3089 = .ok (.iaload, 1) := by decide +kernel
theorem dL_law_3090 : decode cL_law 3090 = .ok (.invokevirtual 371, 3) := by decide +kernel
theorem dL_law_3093 : decode cL_law 3093 = .ok (.istore 6, 2) := by decide +kernel
theorem dL_law_3095 : decode cL_law 3095 = .ok (.aload_n 2, 1) := by decide +kernel
theorem dL_law_3096 : decode cL_law 3096 = .ok (.invokevirtual 158, 3) := by decide +kernel
theorem dL_law_3099 : decode cL_law 3099 = .ok (.iload 5, 2) := by decide +kernel
theorem dL_law_3101 : decode cL_law 3101 = .ok (.if_icmp .eq 5, 3) := by decide +kernel
theorem dL_law_3104 : decode cL_law 3104 = .ok (.iconst 0, 1) := by decide +kernel
theorem dL_law_3105 : decode cL_law 3105 = .ok (.ireturn, 1) := by decide +kernel
theorem dL_law_3106 : decode cL_law 3106 = .ok (.iload 5, 2) := by decide +kernel
theorem dL_law_3108 : decode cL_law 3108 = .ok (.ifCond .ne 15, 3) := by decide +kernel
theorem dL_law_3111 : decode cL_law 3111 = .ok (.aload_n 3, 1) := by decide +kernel
theorem dL_law_3112 : decode cL_law 3112 = .ok (.iconst 0, 1) := by decide +kernel
theorem dL_law_3113 : decode cL_law 3113 = .ok (.laload, 1) := by decide +kernel
theorem dL_law_3114 : decode cL_law 3114 = .ok (.iload 6, 2) := by decide +kernel
theorem dL_law_3116 : decode cL_law 3116 = .ok (.i2l, 1) := by decide +kernel
theorem dL_law_3117 : decode cL_law 3117 = .ok (.lcmp, 1) := by decide +kernel
theorem dL_law_3118 : decode cL_law 3118 = .ok (.ifCond .eq 5, 3) := by decide +kernel
theorem dL_law_3121 : decode cL_law 3121 = .ok (.iconst 0, 1) := by decide +kernel
theorem dL_law_3122 : decode cL_law 3122 = .ok (.ireturn, 1) := by decide +kernel
theorem dL_law_3123 : decode cL_law 3123 = .ok (.goto 60, 3) := by decide +kernel
theorem dL_law_3126 : decode cL_law 3126 = .ok (.aload_n 1, 1) := by decide +kernel
theorem dL_law_3127 : decode cL_law 3127 = .ok (.invokevirtual 372, 3) := by decide +kernel
theorem dL_law_3130 : decode cL_law 3130 = .ok (.aload_n 2, 1) := by decide +kernel
theorem dL_law_3131 : decode cL_law 3131 = .ok (.invokevirtual 375, 3) := by decide +kernel
theorem dL_law_3134 : decode cL_law 3134 = .ok (.if_icmp .eq 49, 3) := by decide +kernel
theorem dL_law_3137 : decode cL_law 3137 = .ok (.iconst 0, 1) := by decide +kernel
theorem dL_law_3138 : decode cL_law 3138 = .ok (.ireturn, 1) := by decide +kernel
theorem dL_law_3139 : decode cL_law 3139 = .ok (.aload_n 1, 1) := by decide +kernel
theorem dL_law_3140 : decode cL_law 3140 = .ok (.aload_n 3, 1) := by decide +kernel
theorem dL_law_3141 : decode cL_law 3141 = .ok (.invokestatic 376, 3) := by decide +kernel
theorem dL_law_3144 : decode cL_law 3144 = .ok (.istore 5, 2) := by decide +kernel
theorem dL_law_3146 : decode cL_law 3146 = .ok (.aload_n 2, 1) := by decide +kernel
theorem dL_law_3147 : decode cL_law 3147 = .ok (.invokevirtual 378, 3) := by decide +kernel
theorem dL_law_3150 : decode cL_law 3150 = .ok (.istore 6, 2) := by decide +kernel
theorem dL_law_3152 : decode cL_law 3152 = .ok (.aload_n 2, 1) := by decide +kernel
theorem dL_law_3153 : decode cL_law 3153 = .ok (.invokevirtual 158, 3) := by decide +kernel
theorem dL_law_3156 : decode cL_law 3156 = .ok (.iload 5, 2) := by decide +kernel
theorem dL_law_3158 : decode cL_law 3158 = .ok (.if_icmp .eq 5, 3) := by decide +kernel
theorem dL_law_3161 : decode cL_law 3161 = .ok (.iconst 0, 1) := by decide +kernel
theorem dL_law_3162 : decode cL_law 3162 = .ok (.ireturn, 1) := by decide +kernel
theorem dL_law_3163 : decode cL_law 3163 = .ok (.iload 5, 2) := by decide +kernel
theorem dL_law_3165 : decode cL_law 3165 = .ok (.ifCond .ne 15, 3) := by decide +kernel
theorem dL_law_3168 : decode cL_law 3168 = .ok (.aload_n 3, 1) := by decide +kernel
theorem dL_law_3169 : decode cL_law 3169 = .ok (.iconst 0, 1) := by decide +kernel
theorem dL_law_3170 : decode cL_law 3170 = .ok (.laload, 1) := by decide +kernel
theorem dL_law_3171 : decode cL_law 3171 = .ok (.iload 6, 2) := by decide +kernel
theorem dL_law_3173 : decode cL_law 3173 = .ok (.i2l, 1) := by decide +kernel
theorem dL_law_3174 : decode cL_law 3174 = .ok (.lcmp, 1) := by decide +kernel
theorem dL_law_3175 : decode cL_law 3175 = .ok (.ifCond .eq 5, 3) := by decide +kernel
theorem dL_law_3178 : decode cL_law 3178 = .ok (.iconst 0, 1) := by decide +kernel
theorem dL_law_3179 : decode cL_law 3179 = .ok (.ireturn, 1) := by decide +kernel
theorem dL_law_3180 : decode cL_law 3180 = .ok (.goto 3, 3) := by decide +kernel
theorem dL_law_3183 : decode cL_law 3183 = .ok (.iinc 4 6, 3) := by decide +kernel
theorem dL_law_3186 : decode cL_law 3186 = .ok (.goto (-3163), 3) := by decide +kernel
theorem dL_law_3189 : decode cL_law 3189 = .ok (.iconst 1, 1) := by decide +kernel
theorem dL_law_3190 : decode cL_law 3190 = .ok (.ireturn, 1) := by decide +kernel
