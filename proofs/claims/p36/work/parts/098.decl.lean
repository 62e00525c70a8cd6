def LL_law_16 : List (Nat × Instr × Nat) := [(2184, .iconst 1, 1), (2185, .iadd, 1), (2186, .iaload, 1), (2187, .invokevirtual 209, 3), (2190, .pop, 1), (2191, .aload_n 2, 1), (2192, .aload_n 0, 1), (2193, .iload_n 3, 1), (2194, .iconst 1, 1), (2195, .iadd, 1), (2196, .iaload, 1), (2197, .invokevirtual 212, 3), (2200, .pop, 1), (2201, .goto 544, 3), (2204, .aload_n 1, 1), (2205, .aload_n 0, 1), (2206, .iload_n 3, 1), (2207, .iconst 1, 1), (2208, .iadd, 1), (2209, .iaload, 1), (2210, .aload_n 0, 1), (2211, .iload_n 3, 1), (2212, .iconst 2, 1), (2213, .iadd, 1), (2214, .iaload, 1), (2215, .aload_n 0, 1), (2216, .iload_n 3, 1), (2217, .iconst 3, 1), (2218, .iadd, 1), (2219, .iaload, 1), (2220, .invokevirtual 213, 3), (2223, .pop, 1), (2224, .aload_n 2, 1), (2225, .aload_n 0, 1), (2226, .iload_n 3, 1), (2227, .iconst 1, 1), (2228, .iadd, 1), (2229, .iaload, 1), (2230, .aload_n 0, 1), (2231, .iload_n 3, 1), (2232, .iconst 2, 1), (2233, .iadd, 1), (2234, .iaload, 1), (2235, .aload_n 0, 1), (2236, .iload_n 3, 1), (2237, .iconst 3, 1), (2238, .iadd, 1), (2239, .iaload, 1), (2240, .invokevirtual 216, 3), (2243, .pop, 1), (2244, .goto 501, 3), (2247, .aload_n 1, 1), (2248, .aload_n 0, 1), (2249, .iload_n 3, 1), (2250, .iconst 1, 1), (2251, .iadd, 1), (2252, .iaload, 1), (2253, .invokevirtual 217, 3), (2256, .pop, 1), (2257, .aload_n 2, 1), (2258, .aload_n 0, 1), (2259, .iload_n 3, 1), (2260, .iconst 1, 1), (2261, .iadd, 1), (2262, .iaload, 1), (2263, .invokevirtual 220, 3), (2266, .pop, 1), (2267, .goto 478, 3), (2270, .aload_n 1, 1), (2271, .invokevirtual 221, 3), (2274, .pop, 1), (2275, .aload_n 2, 1), (2276, .invokevirtual 224, 3), (2279, .pop, 1), (2280, .goto 465, 3), (2283, .aload_n 1, 1), (2284, .aload_n 0, 1), (2285, .iload_n 3, 1), (2286, .iconst 1, 1), (2287, .iadd, 1), (2288, .iaload, 1), (2289, .aload_n 0, 1), (2290, .iload_n 3, 1), (2291, .iconst 2, 1), (2292, .iadd, 1), (2293, .iaload, 1), (2294, .invokevirtual 225, 3), (2297, .pop, 1), (2298, .aload_n 2, 1), (2299, .aload_n 0, 1), (2300, .iload_n 3, 1), (2301, .iconst 1, 1), (2302, .iadd, 1), (2303, .iaload, 1), (2304, .aload_n 0, 1), (2305, .iload_n 3, 1), (2306, .iconst 2, 1), (2307, .iadd, 1), (2308, .iaload, 1), (2309, .invokevirtual 228, 3)]
theorem kL_law_16 : chkB code LL_law_16 = true := by decide +kernel
theorem dL_law_2184 : decode code 2184 = .ok (.iconst 1, 1) := getB' kL_law_16 0 rfl
theorem dL_law_2185 : decode code 2185 = .ok (.iadd, 1) := getB' kL_law_16 1 rfl
theorem dL_law_2186 : decode code 2186 = .ok (.iaload, 1) := getB' kL_law_16 2 rfl
theorem dL_law_2187 : decode code 2187 = .ok (.invokevirtual 209, 3) := getB' kL_law_16 3 rfl
theorem dL_law_2190 : decode code 2190 = .ok (.pop, 1) := getB' kL_law_16 4 rfl
theorem dL_law_2191 : decode code 2191 = .ok (.aload_n 2, 1) := getB' kL_law_16 5 rfl
theorem dL_law_2192 : decode code 2192 = .ok (.aload_n 0, 1) := getB' kL_law_16 6 rfl
theorem dL_law_2193 : decode code 2193 = .ok (.iload_n 3, 1) := getB' kL_law_16 7 rfl
theorem dL_law_2194 : decode code 2194 = .ok (.iconst 1, 1) := getB' kL_law_16 8 rfl
theorem dL_law_2195 : decode code 2195 = .ok (.iadd, 1) := getB' kL_law_16 9 rfl
theorem dL_law_2196 : decode code 2196 = .ok (.iaload, 1) := getB' kL_law_16 10 rfl
theorem dL_law_2197 : decode code 2197 = .ok (.invokevirtual 212, 3) := getB' kL_law_16 11 rfl
theorem dL_law_2200 : decode code 2200 = .ok (.pop, 1) := getB' kL_law_16 12 rfl
theorem dL_law_2201 : decode code 2201 = .ok (.goto 544, 3) := getB' kL_law_16 13 rfl
theorem dL_law_2204 : decode code 2204 = .ok (.aload_n 1, 1) := getB' kL_law_16 14 rfl
theorem dL_law_2205 : decode code 2205 = .ok (.aload_n 0, 1) := getB' kL_law_16 15 rfl
theorem dL_law_2206 : decode code 2206 = .ok (.iload_n 3, 1) := getB' kL_law_16 16 rfl
theorem dL_law_2207 : decode code 2207 = .ok (.iconst 1, 1) := getB' kL_law_16 17 rfl
theorem dL_law_2208 : decode code 2208 = .ok (.iadd, 1) := getB' kL_law_16 18 rfl
theorem dL_law_2209 : decode code 2209 = .ok (.iaload, 1) := getB' kL_law_16 19 rfl
theorem dL_law_2210 : decode code 2210 = .ok (.aload_n 0, 1) := getB' kL_law_16 20 rfl
theorem dL_law_2211 : decode code 2211 = .ok (.iload_n 3, 1) := getB' kL_law_16 21 rfl
theorem dL_law_2212 : decode code 2212 = .ok (.iconst 2, 1) := getB' kL_law_16 22 rfl
theorem dL_law_2213 : decode code 2213 = .ok (.iadd, 1) := getB' kL_law_16 23 rfl
theorem dL_law_2214 : decode code 2214 = .ok (.iaload, 1) := getB' kL_law_16 24 rfl
theorem dL_law_2215 : decode code 2215 = .ok (.aload_n 0, 1) := getB' kL_law_16 25 rfl
theorem dL_law_2216 : decode code 2216 = .ok (.iload_n 3, 1) := getB' kL_law_16 26 rfl
theorem dL_law_2217 : decode code 2217 = .ok (.iconst 3, 1) := getB' kL_law_16 27 rfl
theorem dL_law_2218 : decode code 2218 = .ok (.iadd, 1) := getB' kL_law_16 28 rfl
theorem dL_law_2219 : decode code 2219 = .ok (.iaload, 1) := getB' kL_law_16 29 rfl
theorem dL_law_2220 : decode code 2220 = .ok (.invokevirtual 213, 3) := getB' kL_law_16 30 rfl
theorem dL_law_2223 : decode code 2223 = .ok (.pop, 1) := getB' kL_law_16 31 rfl
theorem dL_law_2224 : decode code 2224 = .ok (.aload_n 2, 1) := getB' kL_law_16 32 rfl
theorem dL_law_2225 : decode code 2225 = .ok (.aload_n 0, 1) := getB' kL_law_16 33 rfl
theorem dL_law_2226 : decode code 2226 = .ok (.iload_n 3, 1) := getB' kL_law_16 34 rfl
theorem dL_law_2227 : decode code 2227 = .ok (.iconst 1, 1) := getB' kL_law_16 35 rfl
theorem dL_law_2228 : decode code 2228 = .ok (.iadd, 1) := getB' kL_law_16 36 rfl
theorem dL_law_2229 : decode code 2229 = .ok (.iaload, 1) := getB' kL_law_16 37 rfl
theorem dL_law_2230 : decode code 2230 = .ok (.aload_n 0, 1) := getB' kL_law_16 38 rfl
theorem dL_law_2231 : decode code 2231 = .ok (.iload_n 3, 1) := getB' kL_law_16 39 rfl
theorem dL_law_2232 : decode code 2232 = .ok (.iconst 2, 1) := getB' kL_law_16 40 rfl
theorem dL_law_2233 : decode code 2233 = .ok (.iadd, 1) := getB' kL_law_16 41 rfl
theorem dL_law_2234 : decode code 2234 = .ok (.iaload, 1) := getB' kL_law_16 42 rfl
theorem dL_law_2235 : decode code 2235 = .ok (.aload_n 0, 1) := getB' kL_law_16 43 rfl
theorem dL_law_2236 : decode code 2236 = .ok (.iload_n 3, 1) := getB' kL_law_16 44 rfl
theorem dL_law_2237 : decode code 2237 = .ok (.iconst 3, 1) := getB' kL_law_16 45 rfl
theorem dL_law_2238 : decode code 2238 = .ok (.iadd, 1) := getB' kL_law_16 46 rfl
theorem dL_law_2239 : decode code 2239 = .ok (.iaload, 1) := getB' kL_law_16 47 rfl
theorem dL_law_2240 : decode code 2240 = .ok (.invokevirtual 216, 3) := getB' kL_law_16 48 rfl
theorem dL_law_2243 : decode code 2243 = .ok (.pop, 1) := getB' kL_law_16 49 rfl
theorem dL_law_2244 : decode code 2244 = .ok (.goto 501, 3) := getB' kL_law_16 50 rfl
theorem dL_law_2247 : decode code 2247 = .ok (.aload_n 1, 1) := getB' kL_law_16 51 rfl
theorem dL_law_2248 : decode code 2248 = .ok (.aload_n 0, 1) := getB' kL_law_16 52 rfl
theorem dL_law_2249 : decode code 2249 = .ok (.iload_n 3, 1) := getB' kL_law_16 53 rfl
theorem dL_law_2250 : decode code 2250 = .ok (.iconst 1, 1) := getB' kL_law_16 54 rfl
theorem dL_law_2251 : decode code 2251 = .ok (.iadd, 1) := getB' kL_law_16 55 rfl
theorem dL_law_2252 : decode code 2252 = .ok (.iaload, 1) := getB' kL_law_16 56 rfl
theorem dL_law_2253 : decode code 2253 = .ok (.invokevirtual 217, 3) := getB' kL_law_16 57 rfl
theorem dL_law_2256 : decode code 2256 = .ok (.pop, 1) := getB' kL_law_16 58 rfl
theorem dL_law_2257 : decode code 2257 = .ok (.aload_n 2, 1) := getB' kL_law_16 59 rfl
theorem dL_law_2258 : decode code 2258 = .ok (.aload_n 0, 1) := getB' kL_law_16 60 rfl
theorem dL_law_2259 : decode code 2259 = .ok (.iload_n 3, 1) := getB' kL_law_16 61 rfl
theorem dL_law_2260 : decode code 2260 = .ok (.iconst 1, 1) := getB' kL_law_16 62 rfl
theorem dL_law_2261 : decode code 2261 = .ok (.iadd, 1) := getB' kL_law_16 63 rfl
theorem dL_law_2262 : decode code 2262 = .ok (.iaload, 1) := getB' kL_law_16 64 rfl
theorem dL_law_2263 : decode code 2263 = .ok (.invokevirtual 220, 3) := getB' kL_law_16 65 rfl
theorem dL_law_2266 : decode code 2266 = .ok (.pop, 1) := getB' kL_law_16 66 rfl
theorem dL_law_2267 : decode code 2267 = .ok (.goto 478, 3) := getB' kL_law_16 67 rfl
theorem dL_law_2270 : decode code 2270 = .ok (.aload_n 1, 1) := getB' kL_law_16 68 rfl
theorem dL_law_2271 : decode code 2271 = .ok (.invokevirtual 221, 3) := getB' kL_law_16 69 rfl
theorem dL_law_2274 : decode code 2274 = .ok (.pop, 1) := getB' kL_law_16 70 rfl
theorem dL_law_2275 : decode code 2275 = .ok (.aload_n 2, 1) := getB' kL_law_16 71 rfl
theorem dL_law_2276 : decode code 2276 = .ok (.invokevirtual 224, 3) := getB' kL_law_16 72 rfl
theorem dL_law_2279 : decode code 2279 = .ok (.pop, 1) := getB' kL_law_16 73 rfl
theorem dL_law_2280 : decode code 2280 = .ok (.goto 465, 3) := getB' kL_law_16 74 rfl
theorem dL_law_2283 : decode code 2283 = .ok (.aload_n 1, 1) := getB' kL_law_16 75 rfl
theorem dL_law_2284 : decode code 2284 = .ok (.aload_n 0, 1) := getB' kL_law_16 76 rfl
theorem dL_law_2285 : decode code 2285 = .ok (.iload_n 3, 1) := getB' kL_law_16 77 rfl
theorem dL_law_2286 : decode code 2286 = .ok (.iconst 1, 1) := getB' kL_law_16 78 rfl
theorem dL_law_2287 : decode code 2287 = .ok (.iadd, 1) := getB' kL_law_16 79 rfl
theorem dL_law_2288 : decode code 2288 = .ok (.iaload, 1) := getB' kL_law_16 80 rfl
theorem dL_law_2289 : decode code 2289 = .ok (.aload_n 0, 1) := getB' kL_law_16 81 rfl
theorem dL_law_2290 : decode code 2290 = .ok (.iload_n 3, 1) := getB' kL_law_16 82 rfl
theorem dL_law_2291 : decode code 2291 = .ok (.iconst 2, 1) := getB' kL_law_16 83 rfl
theorem dL_law_2292 : decode code 2292 = .ok (.iadd, 1) := getB' kL_law_16 84 rfl
theorem dL_law_2293 : decode code 2293 = .ok (.iaload, 1) := getB' kL_law_16 85 rfl
theorem dL_law_2294 : decode code 2294 = .ok (.invokevirtual 225, 3) := getB' kL_law_16 86 rfl
theorem dL_law_2297 : decode code 2297 = .ok (.pop, 1) := getB' kL_law_16 87 rfl
theorem dL_law_2298 : decode code 2298 = .ok (.aload_n 2, 1) := getB' kL_law_16 88 rfl
theorem dL_law_2299 : decode code 2299 = .ok (.aload_n 0, 1) := getB' kL_law_16 89 rfl
theorem dL_law_2300 : decode code 2300 = .ok (.iload_n 3, 1) := getB' kL_law_16 90 rfl
theorem dL_law_2301 : decode code 2301 = .ok (.iconst 1, 1) := getB' kL_law_16 91 rfl
theorem dL_law_2302 : decode code 2302 = .ok (.iadd, 1) := getB' kL_law_16 92 rfl
theorem dL_law_2303 : decode code 2303 = .ok (.iaload, 1) := getB' kL_law_16 93 rfl
theorem dL_law_2304 : decode code 2304 = .ok (.aload_n 0, 1) := getB' kL_law_16 94 rfl
theorem dL_law_2305 : decode code 2305 = .ok (.iload_n 3, 1) := getB' kL_law_16 95 rfl
theorem dL_law_2306 : decode code 2306 = .ok (.iconst 2, 1) := getB' kL_law_16 96 rfl
theorem dL_law_2307 : decode code 2307 = .ok (.iadd, 1) := getB' kL_law_16 97 rfl
theorem dL_law_2308 : decode code 2308 = .ok (.iaload, 1) := getB' kL_law_16 98 rfl
theorem dL_law_2309 : decode code 2309 = .ok (.invokevirtual 228, 3) := getB' kL_law_16 99 rfl
