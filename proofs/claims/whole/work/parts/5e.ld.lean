theorem rd_Law_law_1820 : decode mb_Law_law 1820 = .ok (.goto 964, 3) := by decide +kernel
theorem rd_Law_law_1823 : decode mb_Law_law 1823 = .ok (.aload_n 1, 1) := by decide +kernel
theorem rd_Law_law_1824 : decode mb_Law_law 1824 = .ok (.aload_n 0, 1) := by decide +kernel
theorem rd_Law_law_1825 : decode mb_Law_law 1825 = .ok (.iload 4, 2) := by decide +kernel
theorem rd_Law_law_1827 : decode mb_Law_law 1827 = .ok (.iconst 1, 1) := by decide +kernel
theorem rd_Law_law_1828 : decode mb_Law_law 1828 = .ok (.iadd, 1) := by decide +kernel
theorem rd_Law_law_1829 : decode mb_Law_law 1829 = .ok (.iaload, 1) := by decide +kernel
theorem rd_Law_law_1830 : decode mb_Law_law 1830 = .ok (.aload_n 3, 1) := by decide +kernel
theorem rd_Law_law_1831 : decode mb_Law_law 1831 = .ok (.invokestatic 259, 3) := by decide +kernel
theorem rd_Law_law_1834 : decode mb_Law_law 1834 = .ok (.istore 5, 2) := by decide +kernel
theorem rd_Law_law_1836 : decode mb_Law_law 1836 = .ok (.aload_n 2, 1) := by decide +kernel
theorem rd_Law_law_1837 : decode mb_Law_law 1837 = .ok (.aload_n 0, 1) := by decide +kernel
theorem rd_Law_law_1838 : decode mb_Law_law 1838 = .ok (.iload 4, 2) := by decide +kernel
theorem rd_Law_law_1840 : decode mb_Law_law 1840 = .ok (.iconst 1, 1) := by decide +kernel
theorem rd_Law_law_1841 : decode mb_Law_law 1841 = .ok (.iadd, 1) := by decide +kernel
theorem rd_Law_law_1842 : decode mb_Law_law 1842 = .ok (.iaload, 1) := by decide +kernel
theorem rd_Law_law_1843 : decode mb_Law_law 1843 = .ok (.invokevirtual 261, 3) := by decide +kernel
theorem rd_Law_law_1846 : decode mb_Law_law 1846 = .ok (.istore 6, 2) := by decide +kernel
theorem rd_Law_law_1848 : decode mb_Law_law 1848 = .ok (.aload_n 2, 1) := by decide +kernel
theorem rd_Law_law_1849 : decode mb_Law_law 1849 = .ok (.invokevirtual 189, 3) := by decide +kernel
theorem rd_Law_law_1852 : decode mb_Law_law 1852 = .ok (.iload 5, 2) := by decide +kernel
theorem rd_Law_law_1854 : decode mb_Law_law 1854 = .ok (.if_icmp .eq 5, 3) := by decide +kernel
theorem rd_Law_law_1859 : decode mb_Law_law 1859 = .ok (.iload 5, 2) := by decide +kernel
theorem rd_Law_law_1861 : decode mb_Law_law 1861 = .ok (.ifCond .ne 15, 3) := by decide +kernel
theorem rd_Law_law_1864 : decode mb_Law_law 1864 = .ok (.aload_n 3, 1) := by decide +kernel
theorem rd_Law_law_1865 : decode mb_Law_law 1865 = .ok (.iconst 0, 1) := by decide +kernel
theorem rd_Law_law_1866 : decode mb_Law_law 1866 = .ok (.laload, 1) := by decide +kernel
theorem rd_Law_law_1867 : decode mb_Law_law 1867 = .ok (.iload 6, 2) := by decide +kernel
theorem rd_Law_law_1869 : decode mb_Law_law 1869 = .ok (.i2l, 1) := by decide +kernel
theorem rd_Law_law_1870 : decode mb_Law_law 1870 = .ok (.lcmp, 1) := by decide +kernel
theorem rd_Law_law_1871 : decode mb_Law_law 1871 = .ok (.ifCond .eq 5, 3) := by decide +kernel
theorem rd_Law_law_1876 : decode mb_Law_law 1876 = .ok (.goto 908, 3) := by decide +kernel
theorem rd_Law_law_1879 : decode mb_Law_law 1879 = .ok (.aload_n 1, 1) := by decide +kernel
theorem rd_Law_law_1880 : decode mb_Law_law 1880 = .ok (.invokevirtual 262, 3) := by decide +kernel
theorem rd_Law_law_1883 : decode mb_Law_law 1883 = .ok (.aload_n 2, 1) := by decide +kernel
theorem rd_Law_law_1884 : decode mb_Law_law 1884 = .ok (.invokevirtual 265, 3) := by decide +kernel
theorem rd_Law_law_1887 : decode mb_Law_law 1887 = .ok (.if_icmp .eq 897, 3) := by decide +kernel
theorem rd_Law_law_1892 : decode mb_Law_law 1892 = .ok (.aload_n 1, 1) := by decide +kernel
theorem rd_Law_law_1893 : decode mb_Law_law 1893 = .ok (.invokevirtual 266, 3) := by decide +kernel
theorem rd_Law_law_1896 : decode mb_Law_law 1896 = .ok (.aload_n 2, 1) := by decide +kernel
theorem rd_Law_law_1897 : decode mb_Law_law 1897 = .ok (.invokevirtual 269, 3) := by decide +kernel
theorem rd_Law_law_1900 : decode mb_Law_law 1900 = .ok (.if_icmp .eq 884, 3) := by decide +kernel
theorem rd_Law_law_1905 : decode mb_Law_law 1905 = .ok (.aload_n 1, 1) := by decide +kernel
theorem rd_Law_law_1906 : decode mb_Law_law 1906 = .ok (.invokevirtual 270, 3) := by decide +kernel
theorem rd_Law_law_1909 : decode mb_Law_law 1909 = .ok (.dstore 5, 2) := by decide +kernel
theorem rd_Law_law_1911 : decode mb_Law_law 1911 = .ok (.aload_n 2, 1) := by decide +kernel
theorem rd_Law_law_1912 : decode mb_Law_law 1912 = .ok (.invokevirtual 274, 3) := by decide +kernel
theorem rd_Law_law_1915 : decode mb_Law_law 1915 = .ok (.dstore 7, 2) := by decide +kernel
theorem rd_Law_law_1917 : decode mb_Law_law 1917 = .ok (.dload 5, 2) := by decide +kernel
theorem rd_Law_law_1919 : decode mb_Law_law 1919 = .ok (.dload 7, 2) := by decide +kernel
theorem rd_Law_law_1921 : decode mb_Law_law 1921 = .ok (.dcmp .l, 1) := by decide +kernel
theorem rd_Law_law_1922 : decode mb_Law_law 1922 = .ok (.ifCond .eq 21, 3) := by decide +kernel
theorem rd_Law_law_1925 : decode mb_Law_law 1925 = .ok (.dload 5, 2) := by decide +kernel
theorem rd_Law_law_1927 : decode mb_Law_law 1927 = .ok (.dload 5, 2) := by decide +kernel
theorem rd_Law_law_1929 : decode mb_Law_law 1929 = .ok (.dcmp .l, 1) := by decide +kernel
theorem rd_Law_law_1930 : decode mb_Law_law 1930 = .ok (.ifCond .eq 11, 3) := by decide +kernel
theorem rd_Law_law_1933 : decode mb_Law_law 1933 = .ok (.dload 7, 2) := by decide +kernel
theorem rd_Law_law_1935 : decode mb_Law_law 1935 = .ok (.dload 7, 2) := by decide +kernel
theorem rd_Law_law_1937 : decode mb_Law_law 1937 = .ok (.dcmp .l, 1) := by decide +kernel
theorem rd_Law_law_1938 : decode mb_Law_law 1938 = .ok (.ifCond .ne 5, 3) := by decide +kernel
theorem rd_Law_law_1941 : decode mb_Law_law 1941 = .ok (.iconst 0, 1) := by decide +kernel
theorem rd_Law_law_1942 : decode mb_Law_law 1942 = .ok (.ireturn, 1) := by decide +kernel
theorem rd_Law_law_1943 : decode mb_Law_law 1943 = .ok (.goto 841, 3) := by decide +kernel
theorem rd_Law_law_1946 : decode mb_Law_law 1946 = .ok (.aload_n 1, 1) := by decide +kernel
theorem rd_Law_law_1947 : decode mb_Law_law 1947 = .ok (.invokevirtual 275, 3) := by decide +kernel
theorem rd_Law_law_1950 : decode mb_Law_law 1950 = .ok (.f2d, 1) := by decide +kernel
theorem rd_Law_law_1951 : decode mb_Law_law 1951 = .ok (.dstore 5, 2) := by decide +kernel
theorem rd_Law_law_1953 : decode mb_Law_law 1953 = .ok (.aload_n 2, 1) := by decide +kernel
theorem rd_Law_law_1954 : decode mb_Law_law 1954 = .ok (.invokevirtual 279, 3) := by decide +kernel
theorem rd_Law_law_1957 : decode mb_Law_law 1957 = .ok (.f2d, 1) := by decide +kernel
theorem rd_Law_law_1958 : decode mb_Law_law 1958 = .ok (.dstore 7, 2) := by decide +kernel
theorem rd_Law_law_1960 : decode mb_Law_law 1960 = .ok (.dload 5, 2) := by decide +kernel
theorem rd_Law_law_1962 : decode mb_Law_law 1962 = .ok (.dload 7, 2) := by decide +kernel
theorem rd_Law_law_1964 : decode mb_Law_law 1964 = .ok (.dcmp .l, 1) := by decide +kernel
theorem rd_Law_law_1965 : decode mb_Law_law 1965 = .ok (.ifCond .eq 21, 3) := by decide +kernel
theorem rd_Law_law_1968 : decode mb_Law_law 1968 = .ok (.dload 5, 2) := by decide +kernel
theorem rd_Law_law_1970 : decode mb_Law_law 1970 = .ok (.dload 5, 2) := by decide +kernel
theorem rd_Law_law_1972 : decode mb_Law_law 1972 = .ok (.dcmp .l, 1) := by decide +kernel
theorem rd_Law_law_1973 : decode mb_Law_law 1973 = .ok (.ifCond .eq 11, 3) := by decide +kernel
theorem rd_Law_law_1976 : decode mb_Law_law 1976 = .ok (.dload 7, 2) := by decide +kernel
theorem rd_Law_law_1978 : decode mb_Law_law 1978 = .ok (.dload 7, 2) := by decide +kernel
theorem rd_Law_law_1980 : decode mb_Law_law 1980 = .ok (.dcmp .l, 1) := by decide +kernel
theorem rd_Law_law_1981 : decode mb_Law_law 1981 = .ok (.ifCond .ne 5, 3) := by decide +kernel
theorem rd_Law_law_1984 : decode mb_Law_law 1984 = .ok (.iconst 0, 1) := by decide +kernel
theorem rd_Law_law_1985 : decode mb_Law_law 1985 = .ok (.ireturn, 1) := by decide +kernel
theorem rd_Law_law_1986 : decode mb_Law_law 1986 = .ok (.goto 798, 3) := by decide +kernel
theorem rd_Law_law_1989 : decode mb_Law_law 1989 = .ok (.aload_n 1, 1) := by decide +kernel
theorem rd_Law_law_1990 : decode mb_Law_law 1990 = .ok (.invokevirtual 280, 3) := by decide +kernel
theorem rd_Law_law_1993 : decode mb_Law_law 1993 = .ok (.aload_n 2, 1) := by decide +kernel
theorem rd_Law_law_1994 : decode mb_Law_law 1994 = .ok (.invokevirtual 284, 3) := by decide +kernel
theorem rd_Law_law_1997 : decode mb_Law_law 1997 = .ok (.if_icmp .eq 787, 3) := by decide +kernel
theorem rd_Law_law_2002 : decode mb_Law_law 2002 = .ok (.aload_n 1, 1) := by decide +kernel
theorem rd_Law_law_2003 : decode mb_Law_law 2003 = .ok (.aload_n 3, 1) := by decide +kernel
theorem rd_Law_law_2004 : decode mb_Law_law 2004 = .ok (.invokestatic 285, 3) := by decide +kernel
theorem rd_Law_law_2007 : decode mb_Law_law 2007 = .ok (.istore 5, 2) := by decide +kernel
theorem rd_Law_law_2009 : decode mb_Law_law 2009 = .ok (.aload_n 2, 1) := by decide +kernel
theorem rd_Law_law_2010 : decode mb_Law_law 2010 = .ok (.invokevirtual 288, 3) := by decide +kernel
theorem rd_Law_law_2013 : decode mb_Law_law 2013 = .ok (.istore 6, 2) := by decide +kernel
theorem rd_Law_law_2015 : decode mb_Law_law 2015 = .ok (.aload_n 2, 1) := by decide +kernel
theorem rd_Law_law_2016 : decode mb_Law_law 2016 = .ok (.invokevirtual 189, 3) := by decide +kernel
theorem rd_Law_law_2019 : decode mb_Law_law 2019 = .ok (.iload 5, 2) := by decide +kernel
theorem rd_Law_law_2021 : decode mb_Law_law 2021 = .ok (.if_icmp .eq 5, 3) := by decide +kernel
theorem rd_Law_law_2026 : decode mb_Law_law 2026 = .ok (.iload 5, 2) := by decide +kernel
theorem rd_Law_law_2028 : decode mb_Law_law 2028 = .ok (.ifCond .ne 15, 3) := by decide +kernel
theorem rd_Law_law_2031 : decode mb_Law_law 2031 = .ok (.aload_n 3, 1) := by decide +kernel
theorem rd_Law_law_2032 : decode mb_Law_law 2032 = .ok (.iconst 0, 1) := by decide +kernel
theorem rd_Law_law_2033 : decode mb_Law_law 2033 = .ok (.laload, 1) := by decide +kernel
theorem rd_Law_law_2034 : decode mb_Law_law 2034 = .ok (.iload 6, 2) := by decide +kernel
theorem rd_Law_law_2036 : decode mb_Law_law 2036 = .ok (.i2l, 1) := by decide +kernel
theorem rd_Law_law_2037 : decode mb_Law_law 2037 = .ok (.lcmp, 1) := by decide +kernel
theorem rd_Law_law_2038 : decode mb_Law_law 2038 = .ok (.ifCond .eq 5, 3) := by decide +kernel
theorem rd_Law_law_2043 : decode mb_Law_law 2043 = .ok (.goto 741, 3) := by decide +kernel
theorem rd_Law_law_2046 : decode mb_Law_law 2046 = .ok (.aload_n 1, 1) := by decide +kernel
theorem rd_Law_law_2047 : decode mb_Law_law 2047 = .ok (.aload_n 0, 1) := by decide +kernel
theorem rd_Law_law_2048 : decode mb_Law_law 2048 = .ok (.iload 4, 2) := by decide +kernel
theorem rd_Law_law_2050 : decode mb_Law_law 2050 = .ok (.iconst 1, 1) := by decide +kernel
theorem rd_Law_law_2051 : decode mb_Law_law 2051 = .ok (.iadd, 1) := by decide +kernel
theorem rd_Law_law_2052 : decode mb_Law_law 2052 = .ok (.iaload, 1) := by decide +kernel
theorem rd_Law_law_2053 : decode mb_Law_law 2053 = .ok (.aload_n 0, 1) := by decide +kernel
theorem rd_Law_law_2054 : decode mb_Law_law 2054 = .ok (.iload 4, 2) := by decide +kernel
theorem rd_Law_law_2056 : decode mb_Law_law 2056 = .ok (.iconst 2, 1) := by decide +kernel
theorem rd_Law_law_2057 : decode mb_Law_law 2057 = .ok (.iadd, 1) := by decide +kernel
theorem rd_Law_law_2058 : decode mb_Law_law 2058 = .ok (.iaload, 1) := by decide +kernel
theorem rd_Law_law_2059 : decode mb_Law_law 2059 = .ok (.aload_n 0, 1) := by decide +kernel
theorem rd_Law_law_2060 : decode mb_Law_law 2060 = .ok (.iload 4, 2) := by decide +kernel
theorem rd_Law_law_2062 : decode mb_Law_law 2062 = .ok (.iconst 3, 1) := by decide +kernel
theorem rd_Law_law_2063 : decode mb_Law_law 2063 = .ok (.iadd, 1) := by decide +kernel
theorem rd_Law_law_2064 : decode mb_Law_law 2064 = .ok (.iaload, 1) := by decide +kernel
theorem rd_Law_law_2065 : decode mb_Law_law 2065 = .ok (.aload_n 3, 1) := by decide +kernel
theorem rd_Law_law_2066 : decode mb_Law_law 2066 = .ok (.invokestatic 289, 3) := by decide +kernel
theorem rd_Law_law_2069 : decode mb_Law_law 2069 = .ok (.istore 5, 2) := by decide +kernel
theorem rd_Law_law_2071 : decode mb_Law_law 2071 = .ok (.aload_n 2, 1) := by decide +kernel
theorem rd_Law_law_2072 : decode mb_Law_law 2072 = .ok (.aload_n 0, 1) := by decide +kernel
theorem rd_Law_law_2073 : decode mb_Law_law 2073 = .ok (.iload 4, 2) := by decide +kernel
theorem rd_Law_law_2075 : decode mb_Law_law 2075 = .ok (.iconst 1, 1) := by decide +kernel
theorem rd_Law_law_2076 : decode mb_Law_law 2076 = .ok (.iadd, 1) := by decide +kernel
theorem rd_Law_law_2077 : decode mb_Law_law 2077 = .ok (.iaload, 1) := by decide +kernel
theorem rd_Law_law_2078 : decode mb_Law_law 2078 = .ok (.aload_n 0, 1) := by decide +kernel
theorem rd_Law_law_2079 : decode mb_Law_law 2079 = .ok (.iload 4, 2) := by decide +kernel
theorem rd_Law_law_2081 : decode mb_Law_law 2081 = .ok (.iconst 2, 1) := by decide +kernel
theorem rd_Law_law_2082 : decode mb_Law_law 2082 = .ok (.iadd, 1) := by decide +kernel
theorem rd_Law_law_2083 : decode mb_Law_law 2083 = .ok (.iaload, 1) := by decide +kernel
theorem rd_Law_law_2084 : decode mb_Law_law 2084 = .ok (.aload_n 0, 1) := by decide +kernel
theorem rd_Law_law_2085 : decode mb_Law_law 2085 = .ok (.iload 4, 2) := by decide +kernel
theorem rd_Law_law_2087 : decode mb_Law_law 2087 = .ok (.iconst 3, 1) := by decide +kernel
theorem rd_Law_law_2088 : decode mb_Law_law 2088 = .ok (.iadd, 1) := by decide +kernel
theorem rd_Law_law_2089 : decode mb_Law_law 2089 = .ok (.iaload, 1) := by decide +kernel
theorem rd_Law_law_2090 : decode mb_Law_law 2090 = .ok (.invokevirtual 292, 3) := by decide +kernel
theorem rd_Law_law_2093 : decode mb_Law_law 2093 = .ok (.istore 6, 2) := by decide +kernel
theorem rd_Law_law_2095 : decode mb_Law_law 2095 = .ok (.aload_n 2, 1) := by decide +kernel
theorem rd_Law_law_2096 : decode mb_Law_law 2096 = .ok (.invokevirtual 189, 3) := by decide +kernel
theorem rd_Law_law_2099 : decode mb_Law_law 2099 = .ok (.iload 5, 2) := by decide +kernel
theorem rd_Law_law_2101 : decode mb_Law_law 2101 = .ok (.if_icmp .eq 5, 3) := by decide +kernel
theorem rd_Law_law_2106 : decode mb_Law_law 2106 = .ok (.iload 5, 2) := by decide +kernel
theorem rd_Law_law_2108 : decode mb_Law_law 2108 = .ok (.ifCond .ne 15, 3) := by decide +kernel
theorem rd_Law_law_2111 : decode mb_Law_law 2111 = .ok (.aload_n 3, 1) := by decide +kernel
theorem rd_Law_law_2112 : decode mb_Law_law 2112 = .ok (.iconst 0, 1) := by decide +kernel
theorem rd_Law_law_2113 : decode mb_Law_law 2113 = .ok (.laload, 1) := by decide +kernel
theorem rd_Law_law_2114 : decode mb_Law_law 2114 = .ok (.iload 6, 2) := by decide +kernel
theorem rd_Law_law_2116 : decode mb_Law_law 2116 = .ok (.i2l, 1) := by decide +kernel
theorem rd_Law_law_2117 : decode mb_Law_law 2117 = .ok (.lcmp, 1) := by decide +kernel
theorem rd_Law_law_2118 : decode mb_Law_law 2118 = .ok (.ifCond .eq 5, 3) := by decide +kernel
theorem rd_Law_law_2123 : decode mb_Law_law 2123 = .ok (.goto 661, 3) := by decide +kernel
theorem rd_Law_law_2126 : decode mb_Law_law 2126 = .ok (.aload_n 1, 1) := by decide +kernel
theorem rd_Law_law_2127 : decode mb_Law_law 2127 = .ok (.aload_n 0, 1) := by decide +kernel
theorem rd_Law_law_2128 : decode mb_Law_law 2128 = .ok (.iload 4, 2) := by decide +kernel
theorem rd_Law_law_2130 : decode mb_Law_law 2130 = .ok (.iconst 1, 1) := by decide +kernel
theorem rd_Law_law_2131 : decode mb_Law_law 2131 = .ok (.iadd, 1) := by decide +kernel
theorem rd_Law_law_2132 : decode mb_Law_law 2132 = .ok (.iaload, 1) := by decide +kernel
theorem rd_Law_law_2133 : decode mb_Law_law 2133 = .ok (.aload_n 0, 1) := by decide +kernel
theorem rd_Law_law_2134 : decode mb_Law_law 2134 = .ok (.iload 4, 2) := by decide +kernel
theorem rd_Law_law_2136 : decode mb_Law_law 2136 = .ok (.iconst 2, 1) := by decide +kernel
theorem rd_Law_law_2137 : decode mb_Law_law 2137 = .ok (.iadd, 1) := by decide +kernel
theorem rd_Law_law_2138 : decode mb_Law_law 2138 = .ok (.iaload, 1) := by decide +kernel
theorem rd_Law_law_2139 : decode mb_Law_law 2139 = .ok (.aload_n 0, 1) := by decide +kernel
theorem rd_Law_law_2140 : decode mb_Law_law 2140 = .ok (.iload 4, 2) := by decide +kernel
theorem rd_Law_law_2142 : decode mb_Law_law 2142 = .ok (.iconst 3, 1) := by decide +kernel
theorem rd_Law_law_2143 : decode mb_Law_law 2143 = .ok (.iadd, 1) := by decide +kernel
theorem rd_Law_law_2144 : decode mb_Law_law 2144 = .ok (.iaload, 1) := by decide +kernel
theorem rd_Law_law_2145 : decode mb_Law_law 2145 = .ok (.aload_n 3, 1) := by decide +kernel
theorem rd_Law_law_2146 : decode mb_Law_law 2146 = .ok (.invokestatic 293, 3) := by decide +kernel
theorem rd_Law_law_2149 : decode mb_Law_law 2149 = .ok (.istore 5, 2) := by decide +kernel
theorem rd_Law_law_2151 : decode mb_Law_law 2151 = .ok (.aload_n 2, 1) := by decide +kernel
theorem rd_Law_law_2152 : decode mb_Law_law 2152 = .ok (.aload_n 0, 1) := by decide +kernel
theorem rd_Law_law_2153 : decode mb_Law_law 2153 = .ok (.iload 4, 2) := by decide +kernel
theorem rd_Law_law_2155 : decode mb_Law_law 2155 = .ok (.iconst 1, 1) := by decide +kernel
theorem rd_Law_law_2156 : decode mb_Law_law 2156 = .ok (.iadd, 1) := by decide +kernel
theorem rd_Law_law_2157 : decode mb_Law_law 2157 = .ok (.iaload, 1) := by decide +kernel
theorem rd_Law_law_2158 : decode mb_Law_law 2158 = .ok (.aload_n 0, 1) := by decide +kernel
theorem rd_Law_law_2159 : decode mb_Law_law 2159 = .ok (.iload 4, 2) := by decide +kernel
theorem rd_Law_law_2161 : decode mb_Law_law 2161 = .ok (.iconst 2, 1) := by decide +kernel
theorem rd_Law_law_2162 : decode mb_Law_law 2162 = .ok (.iadd, 1) := by decide +kernel
theorem rd_Law_law_2163 : decode mb_Law_law 2163 = .ok (.iaload, 1) := by decide +kernel
theorem rd_Law_law_2164 : decode mb_Law_law 2164 = .ok (.aload_n 0, 1) := by decide +kernel
theorem rd_Law_law_2165 : decode mb_Law_law 2165 = .ok (.iload 4, 2) := by decide +kernel
theorem rd_Law_law_2167 : decode mb_Law_law 2167 = .ok (.iconst 3, 1) := by decide +kernel
theorem rd_Law_law_2168 : decode mb_Law_law 2168 = .ok (.iadd, 1) := by decide +kernel
theorem rd_Law_law_2169 : decode mb_Law_law 2169 = .ok (.iaload, 1) := by decide +kernel
theorem rd_Law_law_2170 : decode mb_Law_law 2170 = .ok (.invokevirtual 295, 3) := by decide +kernel
theorem rd_Law_law_2173 : decode mb_Law_law 2173 = .ok (.istore 6, 2) := by decide +kernel
theorem rd_Law_law_2175 : decode mb_Law_law 2175 = .ok (.aload_n 2, 1) := by decide +kernel
theorem rd_Law_law_2176 : decode mb_Law_law 2176 = .ok (.invokevirtual 189, 3) := by decide +kernel
theorem rd_Law_law_2179 : decode mb_Law_law 2179 = .ok (.iload 5, 2) := by decide +kernel
theorem rd_Law_law_2181 : decode mb_Law_law 2181 = .ok (.if_icmp .eq 5, 3) := by decide +kernel
theorem rd_Law_law_2186 : decode mb_Law_law 2186 = .ok (.iload 5, 2) := by decide +kernel
theorem rd_Law_law_2188 : decode mb_Law_law 2188 = .ok (.ifCond .ne 15, 3) := by decide +kernel
theorem rd_Law_law_2191 : decode mb_Law_law 2191 = .ok (.aload_n 3, 1) := by decide +kernel
theorem rd_Law_law_2192 : decode mb_Law_law 2192 = .ok (.iconst 0, 1) := by decide +kernel
theorem rd_Law_law_2193 : decode mb_Law_law 2193 = .ok (.laload, 1) := by decide +kernel
theorem rd_Law_law_2194 : decode mb_Law_law 2194 = .ok (.iload 6, 2) := by decide +kernel
theorem rd_Law_law_2196 : decode mb_Law_law 2196 = .ok (.i2l, 1) := by decide +kernel
theorem rd_Law_law_2197 : decode mb_Law_law 2197 = .ok (.lcmp, 1) := by decide +kernel
theorem rd_Law_law_2198 : decode mb_Law_law 2198 = .ok (.ifCond .eq 5, 3) := by decide +kernel
theorem rd_Law_law_2203 : decode mb_Law_law 2203 = .ok (.goto 581, 3) := by decide +kernel
theorem rd_Law_law_2206 : decode mb_Law_law 2206 = .ok (.aload_n 1, 1) := by decide +kernel
theorem rd_Law_law_2207 : decode mb_Law_law 2207 = .ok (.aload_n 0, 1) := by decide +kernel
theorem rd_Law_law_2208 : decode mb_Law_law 2208 = .ok (.iload 4, 2) := by decide +kernel
theorem rd_Law_law_2210 : decode mb_Law_law 2210 = .ok (.iconst 1, 1) := by decide +kernel
theorem rd_Law_law_2211 : decode mb_Law_law 2211 = .ok (.iadd, 1) := by decide +kernel
theorem rd_Law_law_2212 : decode mb_Law_law 2212 = .ok (.iaload, 1) := by decide +kernel
