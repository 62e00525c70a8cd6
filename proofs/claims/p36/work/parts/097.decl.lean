def LL_law_15 : List (Nat × Instr × Nat) := [(2060, .invokevirtual 193, 3), (2063, .pop, 1), (2064, .aload_n 2, 1), (2065, .aload_n 0, 1), (2066, .iload_n 3, 1), (2067, .iconst 1, 1), (2068, .iadd, 1), (2069, .iaload, 1), (2070, .aload_n 0, 1), (2071, .iload_n 3, 1), (2072, .iconst 2, 1), (2073, .iadd, 1), (2074, .iaload, 1), (2075, .invokevirtual 196, 3), (2078, .pop, 1), (2079, .goto 666, 3), (2082, .aload_n 1, 1), (2083, .aload_n 0, 1), (2084, .iload_n 3, 1), (2085, .iconst 1, 1), (2086, .iadd, 1), (2087, .iaload, 1), (2088, .aload_n 0, 1), (2089, .iload_n 3, 1), (2090, .iconst 2, 1), (2091, .iadd, 1), (2092, .iaload, 1), (2093, .aload_n 0, 1), (2094, .iload_n 3, 1), (2095, .iconst 3, 1), (2096, .iadd, 1), (2097, .iaload, 1), (2098, .aload_n 0, 1), (2099, .iload_n 3, 1), (2100, .iconst 4, 1), (2101, .iadd, 1), (2102, .iaload, 1), (2103, .aload_n 0, 1), (2104, .iload_n 3, 1), (2105, .iconst 5, 1), (2106, .iadd, 1), (2107, .iaload, 1), (2108, .invokevirtual 197, 3), (2111, .pop, 1), (2112, .aload_n 2, 1), (2113, .aload_n 0, 1), (2114, .iload_n 3, 1), (2115, .iconst 1, 1), (2116, .iadd, 1), (2117, .iaload, 1), (2118, .aload_n 0, 1), (2119, .iload_n 3, 1), (2120, .iconst 2, 1), (2121, .iadd, 1), (2122, .iaload, 1), (2123, .aload_n 0, 1), (2124, .iload_n 3, 1), (2125, .iconst 3, 1), (2126, .iadd, 1), (2127, .iaload, 1), (2128, .aload_n 0, 1), (2129, .iload_n 3, 1), (2130, .iconst 4, 1), (2131, .iadd, 1), (2132, .iaload, 1), (2133, .aload_n 0, 1), (2134, .iload_n 3, 1), (2135, .iconst 5, 1), (2136, .iadd, 1), (2137, .iaload, 1), (2138, .invokevirtual 200, 3), (2141, .pop, 1), (2142, .goto 603, 3), (2145, .aload_n 1, 1), (2146, .invokevirtual 201, 3), (2149, .pop, 1), (2150, .aload_n 2, 1), (2151, .invokevirtual 204, 3), (2154, .pop, 1), (2155, .goto 590, 3), (2158, .aload_n 1, 1), (2159, .aload_n 0, 1), (2160, .iload_n 3, 1), (2161, .iconst 1, 1), (2162, .iadd, 1), (2163, .iaload, 1), (2164, .invokevirtual 205, 3), (2167, .pop, 1), (2168, .aload_n 2, 1), (2169, .aload_n 0, 1), (2170, .iload_n 3, 1), (2171, .iconst 1, 1), (2172, .iadd, 1), (2173, .iaload, 1), (2174, .invokevirtual 208, 3), (2177, .pop, 1), (2178, .goto 567, 3), (2181, .aload_n 1, 1), (2182, .aload_n 0, 1), (2183, .iload_n 3, 1)]
theorem kL_law_15 : chkB code LL_law_15 = true := by decide +kernel
theorem dL_law_2060 : decode code 2060 = .ok (.invokevirtual 193, 3) := getB' kL_law_15 0 rfl
theorem dL_law_2063 : decode code 2063 = .ok (.pop, 1) := getB' kL_law_15 1 rfl
theorem dL_law_2064 : decode code 2064 = .ok (.aload_n 2, 1) := getB' kL_law_15 2 rfl
theorem dL_law_2065 : decode code 2065 = .ok (.aload_n 0, 1) := getB' kL_law_15 3 rfl
theorem dL_law_2066 : decode code 2066 = .ok (.iload_n 3, 1) := getB' kL_law_15 4 rfl
theorem dL_law_2067 : decode code 2067 = .ok (.iconst 1, 1) := getB' kL_law_15 5 rfl
theorem dL_law_2068 : decode code 2068 = .ok (.iadd, 1) := getB' kL_law_15 6 rfl
theorem dL_law_2069 : decode code 2069 = .ok (.iaload, 1) := getB' kL_law_15 7 rfl
theorem dL_law_2070 : decode code 2070 = .ok (.aload_n 0, 1) := getB' kL_law_15 8 rfl
theorem dL_law_2071 : decode code 2071 = .ok (.iload_n 3, 1) := getB' kL_law_15 9 rfl
theorem dL_law_2072 : decode code 2072 = .ok (.iconst 2, 1) := getB' kL_law_15 10 rfl
theorem dL_law_2073 : decode code 2073 = .ok (.iadd, 1) := getB' kL_law_15 11 rfl
theorem dL_law_2074 : decode code 2074 = .ok (.iaload, 1) := getB' kL_law_15 12 rfl
theorem dL_law_2075 : decode code 2075 = .ok (.invokevirtual 196, 3) := getB' kL_law_15 13 rfl
theorem dL_law_2078 : decode code 2078 = .ok (.pop, 1) := getB' kL_law_15 14 rfl
theorem dL_law_2079 : decode code 2079 = .ok (.goto 666, 3) := getB' kL_law_15 15 rfl
theorem dL_law_2082 : decode code 2082 = .ok (.aload_n 1, 1) := getB' kL_law_15 16 rfl
theorem dL_law_2083 : decode code 2083 = .ok (.aload_n 0, 1) := getB' kL_law_15 17 rfl
theorem dL_law_2084 : decode code 2084 = .ok (.iload_n 3, 1) := getB' kL_law_15 18 rfl
theorem dL_law_2085 : decode code 2085 = .ok (.iconst 1, 1) := getB' kL_law_15 19 rfl
theorem dL_law_2086 : decode code 2086 = .ok (.iadd, 1) := getB' kL_law_15 20 rfl
theorem dL_law_2087 : decode code 2087 = .ok (.iaload, 1) := getB' kL_law_15 21 rfl
theorem dL_law_2088 : decode code 2088 = .ok (.aload_n 0, 1) := getB' kL_law_15 22 rfl
theorem dL_law_2089 : decode code 2089 = .ok (.iload_n 3, 1) := getB' kL_law_15 23 rfl
theorem dL_law_2090 : decode code 2090 = .ok (.iconst 2, 1) := getB' kL_law_15 24 rfl
theorem dL_law_2091 : decode code 2091 = .ok (.iadd, 1) := getB' kL_law_15 25 rfl
theorem dL_law_2092 : decode code 2092 = .ok (.iaload, 1) := getB' kL_law_15 26 rfl
theorem dL_law_2093 : decode code 2093 = .ok (.aload_n 0, 1) := getB' kL_law_15 27 rfl
theorem dL_law_2094 : decode code 2094 = .ok (.iload_n 3, 1) := getB' kL_law_15 28 rfl
theorem dL_law_2095 : decode code 2095 = .ok (.iconst 3, 1) := getB' kL_law_15 29 rfl
theorem dL_law_2096 : decode code 2096 = .ok (.iadd, 1) := getB' kL_law_15 30 rfl
theorem dL_law_2097 : decode code 2097 = .ok (.iaload, 1) := getB' kL_law_15 31 rfl
theorem dL_law_2098 : decode code 2098 = .ok (.aload_n 0, 1) := getB' kL_law_15 32 rfl
theorem dL_law_2099 : decode code 2099 = .ok (.iload_n 3, 1) := getB' kL_law_15 33 rfl
theorem dL_law_2100 : decode code 2100 = .ok (.iconst 4, 1) := getB' kL_law_15 34 rfl
theorem dL_law_2101 : decode code 2101 = .ok (.iadd, 1) := getB' kL_law_15 35 rfl
theorem dL_law_2102 : decode code 2102 = .ok (.iaload, 1) := getB' kL_law_15 36 rfl
theorem dL_law_2103 : decode code 2103 = .ok (.aload_n 0, 1) := getB' kL_law_15 37 rfl
theorem dL_law_2104 : decode code 2104 = .ok (.iload_n 3, 1) := getB' kL_law_15 38 rfl
theorem dL_law_2105 : decode code 2105 = .ok (.iconst 5, 1) := getB' kL_law_15 39 rfl
theorem dL_law_2106 : decode code 2106 = .ok (.iadd, 1) := getB' kL_law_15 40 rfl
theorem dL_law_2107 : decode code 2107 = .ok (.iaload, 1) := getB' kL_law_15 41 rfl
theorem dL_law_2108 : decode code 2108 = .ok (.invokevirtual 197, 3) := getB' kL_law_15 42 rfl
theorem dL_law_2111 : decode code 2111 = .ok (.pop, 1) := getB' kL_law_15 43 rfl
theorem dL_law_2112 : decode code 2112 = .ok (.aload_n 2, 1) := getB' kL_law_15 44 rfl
theorem dL_law_2113 : decode code 2113 = .ok (.aload_n 0, 1) := getB' kL_law_15 45 rfl
theorem dL_law_2114 : decode code 2114 = .ok (.iload_n 3, 1) := getB' kL_law_15 46 rfl
theorem dL_law_2115 : decode code 2115 = .ok (.iconst 1, 1) := getB' kL_law_15 47 rfl
theorem dL_law_2116 : decode code 2116 = .ok (.iadd, 1) := getB' kL_law_15 48 rfl
theorem dL_law_2117 : decode code 2117 = .ok (.iaload, 1) := getB' kL_law_15 49 rfl
theorem dL_law_2118 : decode code 2118 = .ok (.aload_n 0, 1) := getB' kL_law_15 50 rfl
theorem dL_law_2119 : decode code 2119 = .ok (.iload_n 3, 1) := getB' kL_law_15 51 rfl
theorem dL_law_2120 : decode code 2120 = .ok (.iconst 2, 1) := getB' kL_law_15 52 rfl
theorem dL_law_2121 : decode code 2121 = .ok (.iadd, 1) := getB' kL_law_15 53 rfl
theorem dL_law_2122 : decode code 2122 = .ok (.iaload, 1) := getB' kL_law_15 54 rfl
theorem dL_law_2123 : decode code 2123 = .ok (.aload_n 0, 1) := getB' kL_law_15 55 rfl
theorem dL_law_2124 : decode code 2124 = .ok (.iload_n 3, 1) := getB' kL_law_15 56 rfl
theorem dL_law_2125 : decode code 2125 = .ok (.iconst 3, 1) := getB' kL_law_15 57 rfl
theorem dL_law_2126 : decode code 2126 = .ok (.iadd, 1) := getB' kL_law_15 58 rfl
theorem dL_law_2127 : decode code 2127 = .ok (.iaload, 1) := getB' kL_law_15 59 rfl
theorem dL_law_2128 : decode code 2128 = .ok (.aload_n 0, 1) := getB' kL_law_15 60 rfl
theorem dL_law_2129 : decode code 2129 = .ok (.iload_n 3, 1) := getB' kL_law_15 61 rfl
theorem dL_law_2130 : decode code 2130 = .ok (.iconst 4, 1) := getB' kL_law_15 62 rfl
theorem dL_law_2131 : decode code 2131 = .ok (.iadd, 1) := getB' kL_law_15 63 rfl
theorem dL_law_2132 : decode code 2132 = .ok (.iaload, 1) := getB' kL_law_15 64 rfl
theorem dL_law_2133 : decode code 2133 = .ok (.aload_n 0, 1) := getB' kL_law_15 65 rfl
theorem dL_law_2134 : decode code 2134 = .ok (.iload_n 3, 1) := getB' kL_law_15 66 rfl
theorem dL_law_2135 : decode code 2135 = .ok (.iconst 5, 1) := getB' kL_law_15 67 rfl
theorem dL_law_2136 : decode code 2136 = .ok (.iadd, 1) := getB' kL_law_15 68 rfl
theorem dL_law_2137 : decode code 2137 = .ok (.iaload, 1) := getB' kL_law_15 69 rfl
theorem dL_law_2138 : decode code 2138 = .ok (.invokevirtual 200, 3) := getB' kL_law_15 70 rfl
theorem dL_law_2141 : decode code 2141 = .ok (.pop, 1) := getB' kL_law_15 71 rfl
theorem dL_law_2142 : decode code 2142 = .ok (.goto 603, 3) := getB' kL_law_15 72 rfl
theorem dL_law_2145 : decode code 2145 = .ok (.aload_n 1, 1) := getB' kL_law_15 73 rfl
theorem dL_law_2146 : decode code 2146 = .ok (.invokevirtual 201, 3) := getB' kL_law_15 74 rfl
theorem dL_law_2149 : decode code 2149 = .ok (.pop, 1) := getB' kL_law_15 75 rfl
theorem dL_law_2150 : decode code 2150 = .ok (.aload_n 2, 1) := getB' kL_law_15 76 rfl
theorem dL_law_2151 : decode code 2151 = .ok (.invokevirtual 204, 3) := getB' kL_law_15 77 rfl
theorem dL_law_2154 : decode code 2154 = .ok (.pop, 1) := getB' kL_law_15 78 rfl
theorem dL_law_2155 : decode code 2155 = .ok (.goto 590, 3) := getB' kL_law_15 79 rfl
theorem dL_law_2158 : decode code 2158 = .ok (.aload_n 1, 1) := getB' kL_law_15 80 rfl
theorem dL_law_2159 : decode code 2159 = .ok (.aload_n 0, 1) := getB' kL_law_15 81 rfl
theorem dL_law_2160 : decode code 2160 = .ok (.iload_n 3, 1) := getB' kL_law_15 82 rfl
theorem dL_law_2161 : decode code 2161 = .ok (.iconst 1, 1) := getB' kL_law_15 83 rfl
theorem dL_law_2162 : decode code 2162 = .ok (.iadd, 1) := getB' kL_law_15 84 rfl
theorem dL_law_2163 : decode code 2163 = .ok (.iaload, 1) := getB' kL_law_15 85 rfl
theorem dL_law_2164 : decode code 2164 = .ok (.invokevirtual 205, 3) := getB' kL_law_15 86 rfl
theorem dL_law_2167 : decode code 2167 = .ok (.pop, 1) := getB' kL_law_15 87 rfl
theorem dL_law_2168 : decode code 2168 = .ok (.aload_n 2, 1) := getB' kL_law_15 88 rfl
theorem dL_law_2169 : decode code 2169 = .ok (.aload_n 0, 1) := getB' kL_law_15 89 rfl
theorem dL_law_2170 : decode code 2170 = .ok (.iload_n 3, 1) := getB' kL_law_15 90 rfl
theorem dL_law_2171 : decode code 2171 = .ok (.iconst 1, 1) := getB' kL_law_15 91 rfl
theorem dL_law_2172 : decode code 2172 = .ok (.iadd, 1) := getB' kL_law_15 92 rfl
theorem dL_law_2173 : decode code 2173 = .ok (.iaload, 1) := getB' kL_law_15 93 rfl
theorem dL_law_2174 : decode code 2174 = .ok (.invokevirtual 208, 3) := getB' kL_law_15 94 rfl
theorem dL_law_2177 : decode code 2177 = .ok (.pop, 1) := getB' kL_law_15 95 rfl
theorem dL_law_2178 : decode code 2178 = .ok (.goto 567, 3) := getB' kL_law_15 96 rfl
theorem dL_law_2181 : decode code 2181 = .ok (.aload_n 1, 1) := getB' kL_law_15 97 rfl
theorem dL_law_2182 : decode code 2182 = .ok (.aload_n 0, 1) := getB' kL_law_15 98 rfl
theorem dL_law_2183 : decode code 2183 = .ok (.iload_n 3, 1) := getB' kL_law_15 99 rfl
