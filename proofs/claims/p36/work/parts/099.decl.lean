def LL_law_17 : List (Nat × Instr × Nat) := [(2312, .pop, 1), (2313, .goto 432, 3), (2316, .aload_n 1, 1), (2317, .aload_n 0, 1), (2318, .iload_n 3, 1), (2319, .iconst 1, 1), (2320, .iadd, 1), (2321, .iaload, 1), (2322, .aload_n 0, 1), (2323, .iload_n 3, 1), (2324, .iconst 2, 1), (2325, .iadd, 1), (2326, .iaload, 1), (2327, .aload_n 0, 1), (2328, .iload_n 3, 1), (2329, .iconst 3, 1), (2330, .iadd, 1), (2331, .iaload, 1), (2332, .aload_n 0, 1), (2333, .iload_n 3, 1), (2334, .iconst 4, 1), (2335, .iadd, 1), (2336, .iaload, 1), (2337, .invokevirtual 229, 3), (2340, .pop, 1), (2341, .aload_n 2, 1), (2342, .aload_n 0, 1), (2343, .iload_n 3, 1), (2344, .iconst 1, 1), (2345, .iadd, 1), (2346, .iaload, 1), (2347, .aload_n 0, 1), (2348, .iload_n 3, 1), (2349, .iconst 2, 1), (2350, .iadd, 1), (2351, .iaload, 1), (2352, .aload_n 0, 1), (2353, .iload_n 3, 1), (2354, .iconst 3, 1), (2355, .iadd, 1), (2356, .iaload, 1), (2357, .aload_n 0, 1), (2358, .iload_n 3, 1), (2359, .iconst 4, 1), (2360, .iadd, 1), (2361, .iaload, 1), (2362, .invokevirtual 232, 3), (2365, .pop, 1), (2366, .goto 379, 3), (2369, .aload_n 1, 1), (2370, .aload_n 0, 1), (2371, .iload_n 3, 1), (2372, .iconst 1, 1), (2373, .iadd, 1), (2374, .iaload, 1), (2375, .aload_n 0, 1), (2376, .iload_n 3, 1), (2377, .iconst 2, 1), (2378, .iadd, 1), (2379, .iaload, 1), (2380, .aload_n 0, 1), (2381, .iload_n 3, 1), (2382, .iconst 3, 1), (2383, .iadd, 1), (2384, .iaload, 1), (2385, .invokevirtual 233, 3), (2388, .pop, 1), (2389, .aload_n 2, 1), (2390, .aload_n 0, 1), (2391, .iload_n 3, 1), (2392, .iconst 1, 1), (2393, .iadd, 1), (2394, .iaload, 1), (2395, .aload_n 0, 1), (2396, .iload_n 3, 1), (2397, .iconst 2, 1), (2398, .iadd, 1), (2399, .iaload, 1), (2400, .aload_n 0, 1), (2401, .iload_n 3, 1), (2402, .iconst 3, 1), (2403, .iadd, 1), (2404, .iaload, 1), (2405, .invokevirtual 236, 3), (2408, .pop, 1), (2409, .goto 336, 3), (2412, .aload_n 1, 1), (2413, .aload_n 0, 1), (2414, .iload_n 3, 1), (2415, .iconst 1, 1), (2416, .iadd, 1), (2417, .iaload, 1), (2418, .aload_n 0, 1), (2419, .iload_n 3, 1), (2420, .iconst 2, 1), (2421, .iadd, 1), (2422, .iaload, 1), (2423, .aload_n 0, 1), (2424, .iload_n 3, 1), (2425, .iconst 3, 1)]
theorem kL_law_17 : chkB code LL_law_17 = true := by decide +kernel
theorem dL_law_2312 : decode code 2312 = .ok (.pop, 1) := getB' kL_law_17 0 rfl
theorem dL_law_2313 : decode code 2313 = .ok (.goto 432, 3) := getB' kL_law_17 1 rfl
theorem dL_law_2316 : decode code 2316 = .ok (.aload_n 1, 1) := getB' kL_law_17 2 rfl
theorem dL_law_2317 : decode code 2317 = .ok (.aload_n 0, 1) := getB' kL_law_17 3 rfl
theorem dL_law_2318 : decode code 2318 = .ok (.iload_n 3, 1) := getB' kL_law_17 4 rfl
theorem dL_law_2319 : decode code 2319 = .ok (.iconst 1, 1) := getB' kL_law_17 5 rfl
theorem dL_law_2320 : decode code 2320 = .ok (.iadd, 1) := getB' kL_law_17 6 rfl
theorem dL_law_2321 : decode code 2321 = .ok (.iaload, 1) := getB' kL_law_17 7 rfl
theorem dL_law_2322 : decode code 2322 = .ok (.aload_n 0, 1) := getB' kL_law_17 8 rfl
theorem dL_law_2323 : decode code 2323 = .ok (.iload_n 3, 1) := getB' kL_law_17 9 rfl
theorem dL_law_2324 : decode code 2324 = .ok (.iconst 2, 1) := getB' kL_law_17 10 rfl
theorem dL_law_2325 : decode code 2325 = .ok (.iadd, 1) := getB' kL_law_17 11 rfl
theorem dL_law_2326 : decode code 2326 = .ok (.iaload, 1) := getB' kL_law_17 12 rfl
theorem dL_law_2327 : decode code 2327 = .ok (.aload_n 0, 1) := getB' kL_law_17 13 rfl
theorem dL_law_2328 : decode code 2328 = .ok (.iload_n 3, 1) := getB' kL_law_17 14 rfl
theorem dL_law_2329 : decode code 2329 = .ok (.iconst 3, 1) := getB' kL_law_17 15 rfl
theorem dL_law_2330 : decode code 2330 = .ok (.iadd, 1) := getB' kL_law_17 16 rfl
theorem dL_law_2331 : decode code 2331 = .ok (.iaload, 1) := getB' kL_law_17 17 rfl
theorem dL_law_2332 : decode code 2332 = .ok (.aload_n 0, 1) := getB' kL_law_17 18 rfl
theorem dL_law_2333 : decode code 2333 = .ok (.iload_n 3, 1) := getB' kL_law_17 19 rfl
theorem dL_law_2334 : decode code 2334 = .ok (.iconst 4, 1) := getB' kL_law_17 20 rfl
theorem dL_law_2335 : decode code 2335 = .ok (.iadd, 1) := getB' kL_law_17 21 rfl
theorem dL_law_2336 : decode code 2336 = .ok (.iaload, 1) := getB' kL_law_17 22 rfl
theorem dL_law_2337 : decode code 2337 = .ok (.invokevirtual 229, 3) := getB' kL_law_17 23 rfl
theorem dL_law_2340 : decode code 2340 = .ok (.pop, 1) := getB' kL_law_17 24 rfl
theorem dL_law_2341 : decode code 2341 = .ok (.aload_n 2, 1) := getB' kL_law_17 25 rfl
theorem dL_law_2342 : decode code 2342 = .ok (.aload_n 0, 1) := getB' kL_law_17 26 rfl
theorem dL_law_2343 : decode code 2343 = .ok (.iload_n 3, 1) := getB' kL_law_17 27 rfl
theorem dL_law_2344 : decode code 2344 = .ok (.iconst 1, 1) := getB' kL_law_17 28 rfl
theorem dL_law_2345 : decode code 2345 = .ok (.iadd, 1) := getB' kL_law_17 29 rfl
theorem dL_law_2346 : decode code 2346 = .ok (.iaload, 1) := getB' kL_law_17 30 rfl
theorem dL_law_2347 : decode code 2347 = .ok (.aload_n 0, 1) := getB' kL_law_17 31 rfl
theorem dL_law_2348 : decode code 2348 = .ok (.iload_n 3, 1) := getB' kL_law_17 32 rfl
theorem dL_law_2349 : decode code 2349 = .ok (.iconst 2, 1) := getB' kL_law_17 33 rfl
theorem dL_law_2350 : decode code 2350 = .ok (.iadd, 1) := getB' kL_law_17 34 rfl
theorem dL_law_2351 : decode code 2351 = .ok (.iaload, 1) := getB' kL_law_17 35 rfl
theorem dL_law_2352 : decode code 2352 = .ok (.aload_n 0, 1) := getB' kL_law_17 36 rfl
theorem dL_law_2353 : decode code 2353 = .ok (.iload_n 3, 1) := getB' kL_law_17 37 rfl
theorem dL_law_2354 : decode code 2354 = .ok (.iconst 3, 1) := getB' kL_law_17 38 rfl
theorem dL_law_2355 : decode code 2355 = .ok (.iadd, 1) := getB' kL_law_17 39 rfl
theorem dL_law_2356 : decode code 2356 = .ok (.iaload, 1) := getB' kL_law_17 40 rfl
theorem dL_law_2357 : decode code 2357 = .ok (.aload_n 0, 1) := getB' kL_law_17 41 rfl
theorem dL_law_2358 : decode code 2358 = .ok (.iload_n 3, 1) := getB' kL_law_17 42 rfl
theorem dL_law_2359 : decode code 2359 = .ok (.iconst 4, 1) := getB' kL_law_17 43 rfl
theorem dL_law_2360 : decode code 2360 = .ok (.iadd, 1) := getB' kL_law_17 44 rfl
theorem dL_law_2361 : decode code 2361 = .ok (.iaload, 1) := getB' kL_law_17 45 rfl
theorem dL_law_2362 : decode code 2362 = .ok (.invokevirtual 232, 3) := getB' kL_law_17 46 rfl
theorem dL_law_2365 : decode code 2365 = .ok (.pop, 1) := getB' kL_law_17 47 rfl
theorem dL_law_2366 : decode code 2366 = .ok (.goto 379, 3) := getB' kL_law_17 48 rfl
theorem dL_law_2369 : decode code 2369 = .ok (.aload_n 1, 1) := getB' kL_law_17 49 rfl
theorem dL_law_2370 : decode code 2370 = .ok (.aload_n 0, 1) := getB' kL_law_17 50 rfl
theorem dL_law_2371 : decode code 2371 = .ok (.iload_n 3, 1) := getB' kL_law_17 51 rfl
theorem dL_law_2372 : decode code 2372 = .ok (.iconst 1, 1) := getB' kL_law_17 52 rfl
theorem dL_law_2373 : decode code 2373 = .ok (.iadd, 1) := getB' kL_law_17 53 rfl
theorem dL_law_2374 : decode code 2374 = .ok (.iaload, 1) := getB' kL_law_17 54 rfl
theorem dL_law_2375 : decode code 2375 = .ok (.aload_n 0, 1) := getB' kL_law_17 55 rfl
theorem dL_law_2376 : decode code 2376 = .ok (.iload_n 3, 1) := getB' kL_law_17 56 rfl
theorem dL_law_2377 : decode code 2377 = .ok (.iconst 2, 1) := getB' kL_law_17 57 rfl
theorem dL_law_2378 : decode code 2378 = .ok (.iadd, 1) := getB' kL_law_17 58 rfl
theorem dL_law_2379 : decode code 2379 = .ok (.iaload, 1) := getB' kL_law_17 59 rfl
theorem dL_law_2380 : decode code 2380 = .ok (.aload_n 0, 1) := getB' kL_law_17 60 rfl
theorem dL_law_2381 : decode code 2381 = .ok (.iload_n 3, 1) := getB' kL_law_17 61 rfl
theorem dL_law_2382 : decode code 2382 = .ok (.iconst 3, 1) := getB' kL_law_17 62 rfl
theorem dL_law_2383 : decode code 2383 = .ok (.iadd, 1) := getB' kL_law_17 63 rfl
theorem dL_law_2384 : decode code 2384 = .ok (.iaload, 1) := getB' kL_law_17 64 rfl
theorem dL_law_2385 : decode code 2385 = .ok (.invokevirtual 233, 3) := getB' kL_law_17 65 rfl
theorem dL_law_2388 : decode code 2388 = .ok (.pop, 1) := getB' kL_law_17 66 rfl
theorem dL_law_2389 : decode code 2389 = .ok (.aload_n 2, 1) := getB' kL_law_17 67 rfl
theorem dL_law_2390 : decode code 2390 = .ok (.aload_n 0, 1) := getB' kL_law_17 68 rfl
theorem dL_law_2391 : decode code 2391 = .ok (.iload_n 3, 1) := getB' kL_law_17 69 rfl
theorem dL_law_2392 : decode code 2392 = .ok (.iconst 1, 1) := getB' kL_law_17 70 rfl
theorem dL_law_2393 : decode code 2393 = .ok (.iadd, 1) := getB' kL_law_17 71 rfl
theorem dL_law_2394 : decode code 2394 = .ok (.iaload, 1) := getB' kL_law_17 72 rfl
theorem dL_law_2395 : decode code 2395 = .ok (.aload_n 0, 1) := getB' kL_law_17 73 rfl
theorem dL_law_2396 : decode code 2396 = .ok (.iload_n 3, 1) := getB' kL_law_17 74 rfl
theorem dL_law_2397 : decode code 2397 = .ok (.iconst 2, 1) := getB' kL_law_17 75 rfl
theorem dL_law_2398 : decode code 2398 = .ok (.iadd, 1) := getB' kL_law_17 76 rfl
theorem dL_law_2399 : decode code 2399 = .ok (.iaload, 1) := getB' kL_law_17 77 rfl
theorem dL_law_2400 : decode code 2400 = .ok (.aload_n 0, 1) := getB' kL_law_17 78 rfl
theorem dL_law_2401 : decode code 2401 = .ok (.iload_n 3, 1) := getB' kL_law_17 79 rfl
theorem dL_law_2402 : decode code 2402 = .ok (.iconst 3, 1) := getB' kL_law_17 80 rfl
theorem dL_law_2403 : decode code 2403 = .ok (.iadd, 1) := getB' kL_law_17 81 rfl
theorem dL_law_2404 : decode code 2404 = .ok (.iaload, 1) := getB' kL_law_17 82 rfl
theorem dL_law_2405 : decode code 2405 = .ok (.invokevirtual 236, 3) := getB' kL_law_17 83 rfl
theorem dL_law_2408 : decode code 2408 = .ok (.pop, 1) := getB' kL_law_17 84 rfl
theorem dL_law_2409 : decode code 2409 = .ok (.goto 336, 3) := getB' kL_law_17 85 rfl
theorem dL_law_2412 : decode code 2412 = .ok (.aload_n 1, 1) := getB' kL_law_17 86 rfl
theorem dL_law_2413 : decode code 2413 = .ok (.aload_n 0, 1) := getB' kL_law_17 87 rfl
theorem dL_law_2414 : decode code 2414 = .ok (.iload_n 3, 1) := getB' kL_law_17 88 rfl
theorem dL_law_2415 : decode code 2415 = .ok (.iconst 1, 1) := getB' kL_law_17 89 rfl
theorem dL_law_2416 : decode code 2416 = .ok (.iadd, 1) := getB' kL_law_17 90 rfl
theorem dL_law_2417 : decode code 2417 = .ok (.iaload, 1) := getB' kL_law_17 91 rfl
theorem dL_law_2418 : decode code 2418 = .ok (.aload_n 0, 1) := getB' kL_law_17 92 rfl
theorem dL_law_2419 : decode code 2419 = .ok (.iload_n 3, 1) := getB' kL_law_17 93 rfl
theorem dL_law_2420 : decode code 2420 = .ok (.iconst 2, 1) := getB' kL_law_17 94 rfl
theorem dL_law_2421 : decode code 2421 = .ok (.iadd, 1) := getB' kL_law_17 95 rfl
theorem dL_law_2422 : decode code 2422 = .ok (.iaload, 1) := getB' kL_law_17 96 rfl
theorem dL_law_2423 : decode code 2423 = .ok (.aload_n 0, 1) := getB' kL_law_17 97 rfl
theorem dL_law_2424 : decode code 2424 = .ok (.iload_n 3, 1) := getB' kL_law_17 98 rfl
theorem dL_law_2425 : decode code 2425 = .ok (.iconst 3, 1) := getB' kL_law_17 99 rfl
