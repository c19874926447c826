theorem d_law_1825 : decode code 1825 = .ok (.invokestatic 267, 3) := by decide +kernel
theorem d_law_1828 : decode code 1828 = .ok (.istore 6, 2) := by decide +kernel
theorem d_law_1830 : decode code 1830 = .ok (.aload_n 2, 1) := by decide +kernel
theorem d_law_1831 : decode code 1831 = .ok (.aload_n 0, 1) := by decide +kernel
theorem d_law_1832 : decode code 1832 = .ok (.iload 5, 2) := by decide +kernel
theorem d_law_1834 : decode code 1834 = .ok (.iconst 1, 1) := by decide +kernel
theorem d_law_1835 : decode code 1835 = .ok (.iadd, 1) := by decide +kernel
theorem d_law_1836 : decode code 1836 = .ok (.iaload, 1) := by decide +kernel
theorem d_law_1837 : decode code 1837 = .ok (.invokevirtual 269, 3) := by decide +kernel
theorem d_law_1840 : decode code 1840 = .ok (.istore 7, 2) := by decide +kernel
theorem d_law_1842 : decode code 1842 = .ok (.aload_n 2, 1) := by decide +kernel
theorem d_law_1843 : decode code 1843 = .ok (.invokevirtual 160, 3) := by decide +kernel
theorem d_law_1846 : decode code 1846 = .ok (.iload 6, 2) := by decide +kernel
theorem d_law_1848 : decode code 1848 = .ok (.if_icmp .eq 5, 3) := by decide +kernel
theorem d_law_1853 : decode code 1853 = .ok (.iload 6, 2) := by decide +kernel
theorem d_law_1855 : decode code 1855 = .ok (.ifCond .ne 15, 3) := by decide +kernel
theorem d_law_1858 : decode code 1858 = .ok (.aload_n 3, 1) := by decide +kernel
theorem d_law_1859 : decode code 1859 = .ok (.iconst 0, 1) := by decide +kernel
theorem d_law_1860 : decode code 1860 = .ok (.laload, 1) := by decide +kernel
theorem d_law_1861 : decode code 1861 = .ok (.iload 7, 2) := by decide +kernel
theorem d_law_1863 : decode code 1863 = .ok (.i2l, 1) := by decide +kernel
theorem d_law_1864 : decode code 1864 = .ok (.lcmp, 1) := by decide +kernel
theorem d_law_1865 : decode code 1865 = .ok (.ifCond .eq 5, 3) := by decide +kernel
theorem d_law_1870 : decode code 1870 = .ok (.goto 1202, 3) := by decide +kernel
theorem d_law_1873 : decode code 1873 = .ok (.aload_n 1, 1) := by decide +kernel
theorem d_law_1874 : decode code 1874 = .ok (.aload_n 0, 1) := by decide +kernel
theorem d_law_1875 : decode code 1875 = .ok (.iload 5, 2) := by decide +kernel
theorem d_law_1877 : decode code 1877 = .ok (.iconst 1, 1) := by decide +kernel
theorem d_law_1878 : decode code 1878 = .ok (.iadd, 1) := by decide +kernel
theorem d_law_1879 : decode code 1879 = .ok (.iaload, 1) := by decide +kernel
theorem d_law_1880 : decode code 1880 = .ok (.aload_n 0, 1) := by decide +kernel
theorem d_law_1881 : decode code 1881 = .ok (.iload 5, 2) := by decide +kernel
theorem d_law_1883 : decode code 1883 = .ok (.iconst 2, 1) := by decide +kernel
theorem d_law_1884 : decode code 1884 = .ok (.iadd, 1) := by decide +kernel
theorem d_law_1885 : decode code 1885 = .ok (.iaload, 1) := by decide +kernel
theorem d_law_1886 : decode code 1886 = .ok (.aload_n 3, 1) := by decide +kernel
theorem d_law_1887 : decode code 1887 = .ok (.invokestatic 270, 3) := by decide +kernel
theorem d_law_1890 : decode code 1890 = .ok (.istore 6, 2) := by decide +kernel
theorem d_law_1892 : decode code 1892 = .ok (.aload_n 2, 1) := by decide +kernel
theorem d_law_1893 : decode code 1893 = .ok (.aload_n 0, 1) := by decide +kernel
theorem d_law_1894 : decode code 1894 = .ok (.iload 5, 2) := by decide +kernel
theorem d_law_1896 : decode code 1896 = .ok (.iconst 1, 1) := by decide +kernel
theorem d_law_1897 : decode code 1897 = .ok (.iadd, 1) := by decide +kernel
theorem d_law_1898 : decode code 1898 = .ok (.iaload, 1) := by decide +kernel
theorem d_law_1899 : decode code 1899 = .ok (.aload_n 0, 1) := by decide +kernel
theorem d_law_1900 : decode code 1900 = .ok (.iload 5, 2) := by decide +kernel
theorem d_law_1902 : decode code 1902 = .ok (.iconst 2, 1) := by decide +kernel
theorem d_law_1903 : decode code 1903 = .ok (.iadd, 1) := by decide +kernel
theorem d_law_1904 : decode code 1904 = .ok (.iaload, 1) := by decide +kernel
theorem d_law_1905 : decode code 1905 = .ok (.invokevirtual 272, 3) := by decide +kernel
theorem d_law_1908 : decode code 1908 = .ok (.istore 7, 2) := by decide +kernel
theorem d_law_1910 : decode code 1910 = .ok (.aload_n 2, 1) := by decide +kernel
theorem d_law_1911 : decode code 1911 = .ok (.invokevirtual 160, 3) := by decide +kernel
theorem d_law_1914 : decode code 1914 = .ok (.iload 6, 2) := by decide +kernel
theorem d_law_1916 : decode code 1916 = .ok (.if_icmp .eq 5, 3) := by decide +kernel
theorem d_law_1921 : decode code 1921 = .ok (.iload 6, 2) := by decide +kernel
theorem d_law_1923 : decode code 1923 = .ok (.ifCond .ne 15, 3) := by decide +kernel
theorem d_law_1938 : decode code 1938 = .ok (.goto 1134, 3) := by decide +kernel
theorem d_law_1941 : decode code 1941 = .ok (.aload_n 1, 1) := by decide +kernel
theorem d_law_1942 : decode code 1942 = .ok (.aload_n 0, 1) := by decide +kernel
theorem d_law_1943 : decode code 1943 = .ok (.iload 5, 2) := by decide +kernel
theorem d_law_1945 : decode code 1945 = .ok (.iconst 1, 1) := by decide +kernel
theorem d_law_1946 : decode code 1946 = .ok (.iadd, 1) := by decide +kernel
theorem d_law_1947 : decode code 1947 = .ok (.iaload, 1) := by decide +kernel
theorem d_law_1948 : decode code 1948 = .ok (.aload_n 3, 1) := by decide +kernel
theorem d_law_1949 : decode code 1949 = .ok (.invokestatic 273, 3) := by decide +kernel
theorem d_law_1952 : decode code 1952 = .ok (.istore 6, 2) := by decide +kernel
theorem d_law_1954 : decode code 1954 = .ok (.aload_n 2, 1) := by decide +kernel
theorem d_law_1955 : decode code 1955 = .ok (.aload_n 0, 1) := by decide +kernel
theorem d_law_1956 : decode code 1956 = .ok (.iload 5, 2) := by decide +kernel
theorem d_law_1958 : decode code 1958 = .ok (.iconst 1, 1) := by decide +kernel
theorem d_law_1959 : decode code 1959 = .ok (.iadd, 1) := by decide +kernel
theorem d_law_1960 : decode code 1960 = .ok (.iaload, 1) := by decide +kernel
theorem d_law_1961 : decode code 1961 = .ok (.invokevirtual 275, 3) := by decide +kernel
theorem d_law_1964 : decode code 1964 = .ok (.istore 7, 2) := by decide +kernel
theorem d_law_1966 : decode code 1966 = .ok (.aload_n 2, 1) := by decide +kernel
theorem d_law_1967 : decode code 1967 = .ok (.invokevirtual 160, 3) := by decide +kernel
theorem d_law_1970 : decode code 1970 = .ok (.iload 6, 2) := by decide +kernel
theorem d_law_1972 : decode code 1972 = .ok (.if_icmp .eq 5, 3) := by decide +kernel
theorem d_law_1977 : decode code 1977 = .ok (.iload 6, 2) := by decide +kernel
theorem d_law_1979 : decode code 1979 = .ok (.ifCond .ne 15, 3) := by decide +kernel
theorem d_law_1994 : decode code 1994 = .ok (.goto 1078, 3) := by decide +kernel
theorem d_law_1997 : decode code 1997 = .ok (.aload_n 1, 1) := by decide +kernel
theorem d_law_1998 : decode code 1998 = .ok (.aload_n 0, 1) := by decide +kernel
theorem d_law_1999 : decode code 1999 = .ok (.iload 5, 2) := by decide +kernel
theorem d_law_2001 : decode code 2001 = .ok (.iconst 1, 1) := by decide +kernel
theorem d_law_2002 : decode code 2002 = .ok (.iadd, 1) := by decide +kernel
theorem d_law_2003 : decode code 2003 = .ok (.iaload, 1) := by decide +kernel
theorem d_law_2004 : decode code 2004 = .ok (.aload_n 0, 1) := by decide +kernel
theorem d_law_2005 : decode code 2005 = .ok (.iload 5, 2) := by decide +kernel
theorem d_law_2007 : decode code 2007 = .ok (.iconst 2, 1) := by decide +kernel
theorem d_law_2008 : decode code 2008 = .ok (.iadd, 1) := by decide +kernel
theorem d_law_2009 : decode code 2009 = .ok (.iaload, 1) := by decide +kernel
theorem d_law_2010 : decode code 2010 = .ok (.aload_n 3, 1) := by decide +kernel
theorem d_law_2011 : decode code 2011 = .ok (.invokestatic 276, 3) := by decide +kernel
theorem d_law_2014 : decode code 2014 = .ok (.istore 6, 2) := by decide +kernel
theorem d_law_2016 : decode code 2016 = .ok (.aload_n 2, 1) := by decide +kernel
theorem d_law_2017 : decode code 2017 = .ok (.aload_n 0, 1) := by decide +kernel
theorem d_law_2018 : decode code 2018 = .ok (.iload 5, 2) := by decide +kernel
theorem d_law_2020 : decode code 2020 = .ok (.iconst 1, 1) := by decide +kernel
theorem d_law_2021 : decode code 2021 = .ok (.iadd, 1) := by decide +kernel
theorem d_law_2022 : decode code 2022 = .ok (.iaload, 1) := by decide +kernel
theorem d_law_2023 : decode code 2023 = .ok (.aload_n 0, 1) := by decide +kernel
theorem d_law_2024 : decode code 2024 = .ok (.iload 5, 2) := by decide +kernel
theorem d_law_2026 : decode code 2026 = .ok (.iconst 2, 1) := by decide +kernel
theorem d_law_2027 : decode code 2027 = .ok (.iadd, 1) := by decide +kernel
theorem d_law_2028 : decode code 2028 = .ok (.iaload, 1) := by decide +kernel
theorem d_law_2029 : decode code 2029 = .ok (.invokevirtual 278, 3) := by decide +kernel
theorem d_law_2032 : decode code 2032 = .ok (.istore 7, 2) := by decide +kernel
theorem d_law_2034 : decode code 2034 = .ok (.aload_n 2, 1) := by decide +kernel
theorem d_law_2035 : decode code 2035 = .ok (.invokevirtual 160, 3) := by decide +kernel
theorem d_law_2038 : decode code 2038 = .ok (.iload 6, 2) := by decide +kernel
theorem d_law_2040 : decode code 2040 = .ok (.if_icmp .eq 5, 3) := by decide +kernel
theorem d_law_2045 : decode code 2045 = .ok (.iload 6, 2) := by decide +kernel
theorem d_law_2047 : decode code 2047 = .ok (.ifCond .ne 15, 3) := by decide +kernel
theorem d_law_2050 : decode code 2050 = .ok (.aload_n 3, 1) := by decide +kernel
theorem d_law_2051 : decode code 2051 = .ok (.iconst 0, 1) := by decide +kernel
theorem d_law_2052 : decode code 2052 = .ok (.laload, 1) := by decide +kernel
theorem d_law_2053 : decode code 2053 = .ok (.iload 7, 2) := by decide +kernel
theorem d_law_2055 : decode code 2055 = .ok (.i2l, 1) := by decide +kernel
theorem d_law_2056 : decode code 2056 = .ok (.lcmp, 1) := by decide +kernel
theorem d_law_2057 : decode code 2057 = .ok (.ifCond .eq 5, 3) := by decide +kernel
theorem d_law_2062 : decode code 2062 = .ok (.goto 1010, 3) := by decide +kernel
theorem d_law_2065 : decode code 2065 = .ok (.aload_n 1, 1) := by decide +kernel
theorem d_law_2066 : decode code 2066 = .ok (.aload_n 0, 1) := by decide +kernel
theorem d_law_2067 : decode code 2067 = .ok (.iload 5, 2) := by decide +kernel
theorem d_law_2069 : decode code 2069 = .ok (.iconst 1, 1) := by decide +kernel
theorem d_law_2070 : decode code 2070 = .ok (.iadd, 1) := by decide +kernel
theorem d_law_2071 : decode code 2071 = .ok (.iaload, 1) := by decide +kernel
theorem d_law_2072 : decode code 2072 = .ok (.aload_n 3, 1) := by decide +kernel
theorem d_law_2073 : decode code 2073 = .ok (.invokestatic 279, 3) := by decide +kernel
theorem d_law_2076 : decode code 2076 = .ok (.istore 6, 2) := by decide +kernel
theorem d_law_2078 : decode code 2078 = .ok (.aload_n 2, 1) := by decide +kernel
theorem d_law_2079 : decode code 2079 = .ok (.aload_n 0, 1) := by decide +kernel
theorem d_law_2080 : decode code 2080 = .ok (.iload 5, 2) := by decide +kernel
theorem d_law_2082 : decode code 2082 = .ok (.iconst 1, 1) := by decide +kernel
theorem d_law_2083 : decode code 2083 = .ok (.iadd, 1) := by decide +kernel
theorem d_law_2084 : decode code 2084 = .ok (.iaload, 1) := by decide +kernel
theorem d_law_2085 : decode code 2085 = .ok (.invokevirtual 281, 3) := by decide +kernel
theorem d_law_2088 : decode code 2088 = .ok (.istore 7, 2) := by decide +kernel
theorem d_law_2090 : decode code 2090 = .ok (.aload_n 2, 1) := by decide +kernel
theorem d_law_2091 : decode code 2091 = .ok (.invokevirtual 160, 3) := by decide +kernel
theorem d_law_2094 : decode code 2094 = .ok (.iload 6, 2) := by decide +kernel
theorem d_law_2096 : decode code 2096 = .ok (.if_icmp .eq 5, 3) := by decide +kernel
theorem d_law_2101 : decode code 2101 = .ok (.iload 6, 2) := by decide +kernel
theorem d_law_2103 : decode code 2103 = .ok (.ifCond .ne 15, 3) := by decide +kernel
theorem d_law_2106 : decode code 2106 = .ok (.aload_n 3, 1) := by decide +kernel
theorem d_law_2107 : decode code 2107 = .ok (.iconst 0, 1) := by decide +kernel
theorem d_law_2108 : decode code 2108 = .ok (.laload, 1) := by decide +kernel
theorem d_law_2109 : decode code 2109 = .ok (.iload 7, 2) := by decide +kernel
