/-! the law: what its instructions are -/
theorem dd_L_law_2002 : decode Y_L_law.2.1 2002 = .ok (.iaload, 1) := by decide +kernel
theorem dd_L_law_2003 : decode Y_L_law.2.1 2003 = .ok (.aload_n 0, 1) := by decide +kernel
theorem dd_L_law_2004 : decode Y_L_law.2.1 2004 = .ok (.iload 4, 2) := by decide +kernel
theorem dd_L_law_2006 : decode Y_L_law.2.1 2006 = .ok (.iconst 3, 1) := by decide +kernel
theorem dd_L_law_2007 : decode Y_L_law.2.1 2007 = .ok (.iadd, 1) := by decide +kernel
theorem dd_L_law_2008 : decode Y_L_law.2.1 2008 = .ok (.iaload, 1) := by decide +kernel
theorem dd_L_law_2009 : decode Y_L_law.2.1 2009 = .ok (.invokevirtual 214, 3) := by decide +kernel
theorem dd_L_law_2012 : decode Y_L_law.2.1 2012 = .ok (.istore 6, 2) := by decide +kernel
theorem dd_L_law_2014 : decode Y_L_law.2.1 2014 = .ok (.aload_n 2, 1) := by decide +kernel
theorem dd_L_law_2015 : decode Y_L_law.2.1 2015 = .ok (.invokevirtual 117, 3) := by decide +kernel
theorem dd_L_law_2018 : decode Y_L_law.2.1 2018 = .ok (.iload 5, 2) := by decide +kernel
theorem dd_L_law_2020 : decode Y_L_law.2.1 2020 = .ok (.if_icmp .eq 5, 3) := by decide +kernel
theorem dd_L_law_2023 : decode Y_L_law.2.1 2023 = .ok (.iconst 0, 1) := by decide +kernel
theorem dd_L_law_2024 : decode Y_L_law.2.1 2024 = .ok (.ireturn, 1) := by decide +kernel
theorem dd_L_law_2025 : decode Y_L_law.2.1 2025 = .ok (.iload 5, 2) := by decide +kernel
theorem dd_L_law_2027 : decode Y_L_law.2.1 2027 = .ok (.ifCond .ne 15, 3) := by decide +kernel
theorem dd_L_law_2030 : decode Y_L_law.2.1 2030 = .ok (.aload_n 3, 1) := by decide +kernel
theorem dd_L_law_2031 : decode Y_L_law.2.1 2031 = .ok (.iconst 0, 1) := by decide +kernel
theorem dd_L_law_2032 : decode Y_L_law.2.1 2032 = .ok (.laload, 1) := by decide +kernel
theorem dd_L_law_2033 : decode Y_L_law.2.1 2033 = .ok (.iload 6, 2) := by decide +kernel
theorem dd_L_law_2035 : decode Y_L_law.2.1 2035 = .ok (.i2l, 1) := by decide +kernel
theorem dd_L_law_2036 : decode Y_L_law.2.1 2036 = .ok (.lcmp, 1) := by decide +kernel
theorem dd_L_law_2037 : decode Y_L_law.2.1 2037 = .ok (.ifCond .eq 5, 3) := by decide +kernel
theorem dd_L_law_2040 : decode Y_L_law.2.1 2040 = .ok (.iconst 0, 1) := by decide +kernel
theorem dd_L_law_2041 : decode Y_L_law.2.1 2041 = .ok (.ireturn, 1) := by decide +kernel
theorem dd_L_law_2042 : decode Y_L_law.2.1 2042 = .ok (.goto 219, 3) := by decide +kernel
theorem dd_L_law_2045 : decode Y_L_law.2.1 2045 = .ok (.aload_n 1, 1) := by decide +kernel
theorem dd_L_law_2046 : decode Y_L_law.2.1 2046 = .ok (.aload_n 0, 1) := by decide +kernel
theorem dd_L_law_2047 : decode Y_L_law.2.1 2047 = .ok (.iload 4, 2) := by decide +kernel
theorem dd_L_law_2049 : decode Y_L_law.2.1 2049 = .ok (.iconst 1, 1) := by decide +kernel
theorem dd_L_law_2050 : decode Y_L_law.2.1 2050 = .ok (.iadd, 1) := by decide +kernel
theorem dd_L_law_2051 : decode Y_L_law.2.1 2051 = .ok (.iaload, 1) := by decide +kernel
theorem dd_L_law_2052 : decode Y_L_law.2.1 2052 = .ok (.aload_n 0, 1) := by decide +kernel
theorem dd_L_law_2053 : decode Y_L_law.2.1 2053 = .ok (.iload 4, 2) := by decide +kernel
theorem dd_L_law_2055 : decode Y_L_law.2.1 2055 = .ok (.iconst 2, 1) := by decide +kernel
theorem dd_L_law_2056 : decode Y_L_law.2.1 2056 = .ok (.iadd, 1) := by decide +kernel
theorem dd_L_law_2057 : decode Y_L_law.2.1 2057 = .ok (.iaload, 1) := by decide +kernel
theorem dd_L_law_2058 : decode Y_L_law.2.1 2058 = .ok (.aload_n 0, 1) := by decide +kernel
theorem dd_L_law_2059 : decode Y_L_law.2.1 2059 = .ok (.iload 4, 2) := by decide +kernel
theorem dd_L_law_2061 : decode Y_L_law.2.1 2061 = .ok (.iconst 3, 1) := by decide +kernel
theorem dd_L_law_2062 : decode Y_L_law.2.1 2062 = .ok (.iadd, 1) := by decide +kernel
theorem dd_L_law_2063 : decode Y_L_law.2.1 2063 = .ok (.iaload, 1) := by decide +kernel
theorem dd_L_law_2064 : decode Y_L_law.2.1 2064 = .ok (.aload_n 3, 1) := by decide +kernel
theorem dd_L_law_2065 : decode Y_L_law.2.1 2065 = .ok (.invokestatic 215, 3) := by decide +kernel
theorem dd_L_law_2068 : decode Y_L_law.2.1 2068 = .ok (.istore 5, 2) := by decide +kernel
theorem dd_L_law_2070 : decode Y_L_law.2.1 2070 = .ok (.aload_n 2, 1) := by decide +kernel
theorem dd_L_law_2071 : decode Y_L_law.2.1 2071 = .ok (.aload_n 0, 1) := by decide +kernel
theorem dd_L_law_2072 : decode Y_L_law.2.1 2072 = .ok (.iload 4, 2) := by decide +kernel
theorem dd_L_law_2074 : decode Y_L_law.2.1 2074 = .ok (.iconst 1, 1) := by decide +kernel
theorem dd_L_law_2075 : decode Y_L_law.2.1 2075 = .ok (.iadd, 1) := by decide +kernel
theorem dd_L_law_2076 : decode Y_L_law.2.1 2076 = .ok (.iaload, 1) := by decide +kernel
theorem dd_L_law_2077 : decode Y_L_law.2.1 2077 = .ok (.aload_n 0, 1) := by decide +kernel
theorem dd_L_law_2078 : decode Y_L_law.2.1 2078 = .ok (.iload 4, 2) := by decide +kernel
theorem dd_L_law_2080 : decode Y_L_law.2.1 2080 = .ok (.iconst 2, 1) := by decide +kernel
theorem dd_L_law_2081 : decode Y_L_law.2.1 2081 = .ok (.iadd, 1) := by decide +kernel
theorem dd_L_law_2082 : decode Y_L_law.2.1 2082 = .ok (.iaload, 1) := by decide +kernel
theorem dd_L_law_2083 : decode Y_L_law.2.1 2083 = .ok (.aload_n 0, 1) := by decide +kernel
theorem dd_L_law_2084 : decode Y_L_law.2.1 2084 = .ok (.iload 4, 2) := by decide +kernel
theorem dd_L_law_2086 : decode Y_L_law.2.1 2086 = .ok (.iconst 3, 1) := by decide +kernel
theorem dd_L_law_2087 : decode Y_L_law.2.1 2087 = .ok (.iadd, 1) := by decide +kernel
theorem dd_L_law_2088 : decode Y_L_law.2.1 2088 = .ok (.iaload, 1) := by decide +kernel
theorem dd_L_law_2089 : decode Y_L_law.2.1 2089 = .ok (.invokevirtual 217, 3) := by decide +kernel
theorem dd_L_law_2092 : decode Y_L_law.2.1 2092 = .ok (.istore 6, 2) := by decide +kernel
theorem dd_L_law_2094 : decode Y_L_law.2.1 2094 = .ok (.aload_n 2, 1) := by decide +kernel
theorem dd_L_law_2095 : decode Y_L_law.2.1 2095 = .ok (.invokevirtual 117, 3) := by decide +kernel
theorem dd_L_law_2098 : decode Y_L_law.2.1 2098 = .ok (.iload 5, 2) := by decide +kernel
theorem dd_L_law_2100 : decode Y_L_law.2.1 2100 = .ok (.if_icmp .eq 5, 3) := by decide +kernel
theorem dd_L_law_2103 : decode Y_L_law.2.1 2103 = .ok (.iconst 0, 1) := by decide +kernel
theorem dd_L_law_2104 : decode Y_L_law.2.1 2104 = .ok (.ireturn, 1) := by decide +kernel
theorem dd_L_law_2105 : decode Y_L_law.2.1 2105 = .ok (.iload 5, 2) := by decide +kernel
theorem dd_L_law_2107 : decode Y_L_law.2.1 2107 = .ok (.ifCond .ne 15, 3) := by decide +kernel
theorem dd_L_law_2110 : decode Y_L_law.2.1 2110 = .ok (.aload_n 3, 1) := by decide +kernel
theorem dd_L_law_2111 : decode Y_L_law.2.1 2111 = .ok (.iconst 0, 1) := by decide +kernel
theorem dd_L_law_2112 : decode Y_L_law.2.1 2112 = .ok (.laload, 1) := by decide +kernel
theorem dd_L_law_2113 : decode Y_L_law.2.1 2113 = .ok (.iload 6, 2) := by decide +kernel
theorem dd_L_law_2115 : decode Y_L_law.2.1 2115 = .ok (.i2l, 1) := by decide +kernel
theorem dd_L_law_2116 : decode Y_L_law.2.1 2116 = .ok (.lcmp, 1) := by decide +kernel
theorem dd_L_law_2117 : decode Y_L_law.2.1 2117 = .ok (.ifCond .eq 5, 3) := by decide +kernel
theorem dd_L_law_2120 : decode Y_L_law.2.1 2120 = .ok (.iconst 0, 1) := by decide +kernel
theorem dd_L_law_2121 : decode Y_L_law.2.1 2121 = .ok (.ireturn, 1) := by decide +kernel
theorem dd_L_law_2122 : decode Y_L_law.2.1 2122 = .ok (.goto 139, 3) := by decide +kernel
theorem dd_L_law_2125 : decode Y_L_law.2.1 2125 = .ok (.aload_n 1, 1) := by decide +kernel
theorem dd_L_law_2126 : decode Y_L_law.2.1 2126 = .ok (.aload_n 0, 1) := by decide +kernel
theorem dd_L_law_2127 : decode Y_L_law.2.1 2127 = .ok (.iload 4, 2) := by decide +kernel
theorem dd_L_law_2129 : decode Y_L_law.2.1 2129 = .ok (.iconst 1, 1) := by decide +kernel
theorem dd_L_law_2130 : decode Y_L_law.2.1 2130 = .ok (.iadd, 1) := by decide +kernel
theorem dd_L_law_2131 : decode Y_L_law.2.1 2131 = .ok (.iaload, 1) := by decide +kernel
theorem dd_L_law_2132 : decode Y_L_law.2.1 2132 = .ok (.aload_n 3, 1) := by decide +kernel
theorem dd_L_law_2133 : decode Y_L_law.2.1 2133 = .ok (.invokestatic 218, 3) := by decide +kernel
theorem dd_L_law_2136 : decode Y_L_law.2.1 2136 = .ok (.istore 5, 2) := by decide +kernel
theorem dd_L_law_2138 : decode Y_L_law.2.1 2138 = .ok (.aload_n 2, 1) := by decide +kernel
theorem dd_L_law_2139 : decode Y_L_law.2.1 2139 = .ok (.aload_n 0, 1) := by decide +kernel
theorem dd_L_law_2140 : decode Y_L_law.2.1 2140 = .ok (.iload 4, 2) := by decide +kernel
theorem dd_L_law_2142 : decode Y_L_law.2.1 2142 = .ok (.iconst 1, 1) := by decide +kernel
theorem dd_L_law_2143 : decode Y_L_law.2.1 2143 = .ok (.iadd, 1) := by decide +kernel
theorem dd_L_law_2144 : decode Y_L_law.2.1 2144 = .ok (.iaload, 1) := by decide +kernel
theorem dd_L_law_2145 : decode Y_L_law.2.1 2145 = .ok (.invokevirtual 220, 3) := by decide +kernel
theorem dd_L_law_2148 : decode Y_L_law.2.1 2148 = .ok (.istore 6, 2) := by decide +kernel
theorem dd_L_law_2150 : decode Y_L_law.2.1 2150 = .ok (.aload_n 2, 1) := by decide +kernel
theorem dd_L_law_2151 : decode Y_L_law.2.1 2151 = .ok (.invokevirtual 117, 3) := by decide +kernel
theorem dd_L_law_2154 : decode Y_L_law.2.1 2154 = .ok (.iload 5, 2) := by decide +kernel
theorem dd_L_law_2156 : decode Y_L_law.2.1 2156 = .ok (.if_icmp .eq 5, 3) := by decide +kernel
theorem dd_L_law_2159 : decode Y_L_law.2.1 2159 = .ok (.iconst 0, 1) := by decide +kernel
theorem dd_L_law_2160 : decode Y_L_law.2.1 2160 = .ok (.ireturn, 1) := by decide +kernel
theorem dd_L_law_2161 : decode Y_L_law.2.1 2161 = .ok (.iload 5, 2) := by decide +kernel
theorem dd_L_law_2163 : decode Y_L_law.2.1 2163 = .ok (.ifCond .ne 15, 3) := by decide +kernel
theorem dd_L_law_2166 : decode Y_L_law.2.1 2166 = .ok (.aload_n 3, 1) := by decide +kernel
theorem dd_L_law_2167 : decode Y_L_law.2.1 2167 = .ok (.iconst 0, 1) := by decide +kernel
theorem dd_L_law_2168 : decode Y_L_law.2.1 2168 = .ok (.laload, 1) := by decide +kernel
theorem dd_L_law_2169 : decode Y_L_law.2.1 2169 = .ok (.iload 6, 2) := by decide +kernel
theorem dd_L_law_2171 : decode Y_L_law.2.1 2171 = .ok (.i2l, 1) := by decide +kernel
theorem dd_L_law_2172 : decode Y_L_law.2.1 2172 = .ok (.lcmp, 1) := by decide +kernel
theorem dd_L_law_2173 : decode Y_L_law.2.1 2173 = .ok (.ifCond .eq 5, 3) := by decide +kernel
theorem dd_L_law_2176 : decode Y_L_law.2.1 2176 = .ok (.iconst 0, 1) := by decide +kernel
theorem dd_L_law_2177 : decode Y_L_law.2.1 2177 = .ok (.ireturn, 1) := by decide +kernel
theorem dd_L_law_2178 : decode Y_L_law.2.1 2178 = .ok (.goto 83, 3) := by decide +kernel
theorem dd_L_law_2181 : decode Y_L_law.2.1 2181 = .ok (.aload_n 1, 1) := by decide +kernel
theorem dd_L_law_2182 : decode Y_L_law.2.1 2182 = .ok (.aload_n 0, 1) := by decide +kernel
theorem dd_L_law_2183 : decode Y_L_law.2.1 2183 = .ok (.iload 4, 2) := by decide +kernel
theorem dd_L_law_2185 : decode Y_L_law.2.1 2185 = .ok (.iconst 1, 1) := by decide +kernel
