def LL_law_18 : List (Nat × Instr × Nat) := [(2426, .iadd, 1), (2427, .iaload, 1), (2428, .aload_n 0, 1), (2429, .iload_n 3, 1), (2430, .iconst 4, 1), (2431, .iadd, 1), (2432, .iaload, 1), (2433, .invokevirtual 237, 3), (2436, .pop, 1), (2437, .aload_n 2, 1), (2438, .aload_n 0, 1), (2439, .iload_n 3, 1), (2440, .iconst 1, 1), (2441, .iadd, 1), (2442, .iaload, 1), (2443, .aload_n 0, 1), (2444, .iload_n 3, 1), (2445, .iconst 2, 1), (2446, .iadd, 1), (2447, .iaload, 1), (2448, .aload_n 0, 1), (2449, .iload_n 3, 1), (2450, .iconst 3, 1), (2451, .iadd, 1), (2452, .iaload, 1), (2453, .aload_n 0, 1), (2454, .iload_n 3, 1), (2455, .iconst 4, 1), (2456, .iadd, 1), (2457, .iaload, 1), (2458, .invokevirtual 240, 3), (2461, .pop, 1), (2462, .goto 283, 3), (2465, .aload_n 1, 1), (2466, .aload_n 0, 1), (2467, .iload_n 3, 1), (2468, .iconst 1, 1), (2469, .iadd, 1), (2470, .iaload, 1), (2471, .aload_n 0, 1), (2472, .iload_n 3, 1), (2473, .iconst 2, 1), (2474, .iadd, 1), (2475, .iaload, 1), (2476, .aload_n 0, 1), (2477, .iload_n 3, 1), (2478, .iconst 3, 1), (2479, .iadd, 1), (2480, .iaload, 1), (2481, .aload_n 0, 1), (2482, .iload_n 3, 1), (2483, .iconst 4, 1), (2484, .iadd, 1), (2485, .iaload, 1), (2486, .ifCond .eq 7, 3), (2489, .iconst 1, 1), (2490, .goto 4, 3), (2493, .iconst 0, 1), (2494, .invokevirtual 241, 3), (2497, .pop, 1), (2498, .aload_n 2, 1), (2499, .aload_n 0, 1), (2500, .iload_n 3, 1), (2501, .iconst 1, 1), (2502, .iadd, 1), (2503, .iaload, 1), (2504, .aload_n 0, 1), (2505, .iload_n 3, 1), (2506, .iconst 2, 1), (2507, .iadd, 1), (2508, .iaload, 1), (2509, .aload_n 0, 1), (2510, .iload_n 3, 1), (2511, .iconst 3, 1), (2512, .iadd, 1), (2513, .iaload, 1), (2514, .aload_n 0, 1), (2515, .iload_n 3, 1), (2516, .iconst 4, 1), (2517, .iadd, 1), (2518, .iaload, 1), (2519, .ifCond .eq 7, 3), (2522, .iconst 1, 1), (2523, .goto 4, 3), (2526, .iconst 0, 1), (2527, .invokevirtual 245, 3), (2530, .pop, 1), (2531, .goto 214, 3), (2534, .aload_n 1, 1), (2535, .aload_n 0, 1), (2536, .iload_n 3, 1), (2537, .iconst 1, 1), (2538, .iadd, 1), (2539, .iaload, 1), (2540, .aload_n 0, 1), (2541, .iload_n 3, 1), (2542, .iconst 2, 1), (2543, .iadd, 1), (2544, .iaload, 1), (2545, .aload_n 0, 1)]
theorem kL_law_18 : chkB code LL_law_18 = true := by decide +kernel
theorem dL_law_2426 : decode code 2426 = .ok (.iadd, 1) := getB' kL_law_18 0 rfl
theorem dL_law_2427 : decode code 2427 = .ok (.iaload, 1) := getB' kL_law_18 1 rfl
theorem dL_law_2428 : decode code 2428 = .ok (.aload_n 0, 1) := getB' kL_law_18 2 rfl
theorem dL_law_2429 : decode code 2429 = .ok (.iload_n 3, 1) := getB' kL_law_18 3 rfl
theorem dL_law_2430 : decode code 2430 = .ok (.iconst 4, 1) := getB' kL_law_18 4 rfl
theorem dL_law_2431 : decode code 2431 = .ok (.iadd, 1) := getB' kL_law_18 5 rfl
theorem dL_law_2432 : decode code 2432 = .ok (.iaload, 1) := getB' kL_law_18 6 rfl
theorem dL_law_2433 : decode code 2433 = .ok (.invokevirtual 237, 3) := getB' kL_law_18 7 rfl
theorem dL_law_2436 : decode code 2436 = .ok (.pop, 1) := getB' kL_law_18 8 rfl
theorem dL_law_2437 : decode code 2437 = .ok (.aload_n 2, 1) := getB' kL_law_18 9 rfl
theorem dL_law_2438 : decode code 2438 = .ok (.aload_n 0, 1) := getB' kL_law_18 10 rfl
theorem dL_law_2439 : decode code 2439 = .ok (.iload_n 3, 1) := getB' kL_law_18 11 rfl
theorem dL_law_2440 : decode code 2440 = .ok (.iconst 1, 1) := getB' kL_law_18 12 rfl
theorem dL_law_2441 : decode code 2441 = .ok (.iadd, 1) := getB' kL_law_18 13 rfl
theorem dL_law_2442 : decode code 2442 = .ok (.iaload, 1) := getB' kL_law_18 14 rfl
theorem dL_law_2443 : decode code 2443 = .ok (.aload_n 0, 1) := getB' kL_law_18 15 rfl
theorem dL_law_2444 : decode code 2444 = .ok (.iload_n 3, 1) := getB' kL_law_18 16 rfl
theorem dL_law_2445 : decode code 2445 = .ok (.iconst 2, 1) := getB' kL_law_18 17 rfl
theorem dL_law_2446 : decode code 2446 = .ok (.iadd, 1) := getB' kL_law_18 18 rfl
theorem dL_law_2447 : decode code 2447 = .ok (.iaload, 1) := getB' kL_law_18 19 rfl
theorem dL_law_2448 : decode code 2448 = .ok (.aload_n 0, 1) := getB' kL_law_18 20 rfl
theorem dL_law_2449 : decode code 2449 = .ok (.iload_n 3, 1) := getB' kL_law_18 21 rfl
theorem dL_law_2450 : decode code 2450 = .ok (.iconst 3, 1) := getB' kL_law_18 22 rfl
theorem dL_law_2451 : decode code 2451 = .ok (.iadd, 1) := getB' kL_law_18 23 rfl
theorem dL_law_2452 : decode code 2452 = .ok (.iaload, 1) := getB' kL_law_18 24 rfl
theorem dL_law_2453 : decode code 2453 = .ok (.aload_n 0, 1) := getB' kL_law_18 25 rfl
theorem dL_law_2454 : decode code 2454 = .ok (.iload_n 3, 1) := getB' kL_law_18 26 rfl
theorem dL_law_2455 : decode code 2455 = .ok (.iconst 4, 1) := getB' kL_law_18 27 rfl
theorem dL_law_2456 : decode code 2456 = .ok (.iadd, 1) := getB' kL_law_18 28 rfl
theorem dL_law_2457 : decode code 2457 = .ok (.iaload, 1) := getB' kL_law_18 29 rfl
theorem dL_law_2458 : decode code 2458 = .ok (.invokevirtual 240, 3) := getB' kL_law_18 30 rfl
theorem dL_law_2461 : decode code 2461 = .ok (.pop, 1) := getB' kL_law_18 31 rfl
theorem dL_law_2462 : decode code 2462 = .ok (.goto 283, 3) := getB' kL_law_18 32 rfl
theorem dL_law_2465 : decode code 2465 = .ok (.aload_n 1, 1) := getB' kL_law_18 33 rfl
theorem dL_law_2466 : decode code 2466 = .ok (.aload_n 0, 1) := getB' kL_law_18 34 rfl
theorem dL_law_2467 : decode code 2467 = .ok (.iload_n 3, 1) := getB' kL_law_18 35 rfl
theorem dL_law_2468 : decode code 2468 = .ok (.iconst 1, 1) := getB' kL_law_18 36 rfl
theorem dL_law_2469 : decode code 2469 = .ok (.iadd, 1) := getB' kL_law_18 37 rfl
theorem dL_law_2470 : decode code 2470 = .ok (.iaload, 1) := getB' kL_law_18 38 rfl
theorem dL_law_2471 : decode code 2471 = .ok (.aload_n 0, 1) := getB' kL_law_18 39 rfl
theorem dL_law_2472 : decode code 2472 = .ok (.iload_n 3, 1) := getB' kL_law_18 40 rfl
theorem dL_law_2473 : decode code 2473 = .ok (.iconst 2, 1) := getB' kL_law_18 41 rfl
theorem dL_law_2474 : decode code 2474 = .ok (.iadd, 1) := getB' kL_law_18 42 rfl
theorem dL_law_2475 : decode code 2475 = .ok (.iaload, 1) := getB' kL_law_18 43 rfl
theorem dL_law_2476 : decode code 2476 = .ok (.aload_n 0, 1) := getB' kL_law_18 44 rfl
theorem dL_law_2477 : decode code 2477 = .ok (.iload_n 3, 1) := getB' kL_law_18 45 rfl
theorem dL_law_2478 : decode code 2478 = .ok (.iconst 3, 1) := getB' kL_law_18 46 rfl
theorem dL_law_2479 : decode code 2479 = .ok (.iadd, 1) := getB' kL_law_18 47 rfl
theorem dL_law_2480 : decode code 2480 = .ok (.iaload, 1) := getB' kL_law_18 48 rfl
theorem dL_law_2481 : decode code 2481 = .ok (.aload_n 0, 1) := getB' kL_law_18 49 rfl
theorem dL_law_2482 : decode code 2482 = .ok (.iload_n 3, 1) := getB' kL_law_18 50 rfl
theorem dL_law_2483 : decode code 2483 = .ok (.iconst 4, 1) := getB' kL_law_18 51 rfl
theorem dL_law_2484 : decode code 2484 = .ok (.iadd, 1) := getB' kL_law_18 52 rfl
theorem dL_law_2485 : decode code 2485 = .ok (.iaload, 1) := getB' kL_law_18 53 rfl
theorem dL_law_2486 : decode code 2486 = .ok (.ifCond .eq 7, 3) := getB' kL_law_18 54 rfl
theorem dL_law_2489 : decode code 2489 = .ok (.iconst 1, 1) := getB' kL_law_18 55 rfl
theorem dL_law_2490 : decode code 2490 = .ok (.goto 4, 3) := getB' kL_law_18 56 rfl
theorem dL_law_2493 : decode code 2493 = .ok (.iconst 0, 1) := getB' kL_law_18 57 rfl
theorem dL_law_2494 : decode code 2494 = .ok (.invokevirtual 241, 3) := getB' kL_law_18 58 rfl
theorem dL_law_2497 : decode code 2497 = .ok (.pop, 1) := getB' kL_law_18 59 rfl
theorem dL_law_2498 : decode code 2498 = .ok (.aload_n 2, 1) := getB' kL_law_18 60 rfl
theorem dL_law_2499 : decode code 2499 = .ok (.aload_n 0, 1) := getB' kL_law_18 61 rfl
theorem dL_law_2500 : decode code 2500 = .ok (.iload_n 3, 1) := getB' kL_law_18 62 rfl
theorem dL_law_2501 : decode code 2501 = .ok (.iconst 1, 1) := getB' kL_law_18 63 rfl
theorem dL_law_2502 : decode code 2502 = .ok (.iadd, 1) := getB' kL_law_18 64 rfl
theorem dL_law_2503 : decode code 2503 = .ok (.iaload, 1) := getB' kL_law_18 65 rfl
theorem dL_law_2504 : decode code 2504 = .ok (.aload_n 0, 1) := getB' kL_law_18 66 rfl
theorem dL_law_2505 : decode code 2505 = .ok (.iload_n 3, 1) := getB' kL_law_18 67 rfl
theorem dL_law_2506 : decode code 2506 = .ok (.iconst 2, 1) := getB' kL_law_18 68 rfl
theorem dL_law_2507 : decode code 2507 = .ok (.iadd, 1) := getB' kL_law_18 69 rfl
theorem dL_law_2508 : decode code 2508 = .ok (.iaload, 1) := getB' kL_law_18 70 rfl
theorem dL_law_2509 : decode code 2509 = .ok (.aload_n 0, 1) := getB' kL_law_18 71 rfl
theorem dL_law_2510 : decode code 2510 = .ok (.iload_n 3, 1) := getB' kL_law_18 72 rfl
theorem dL_law_2511 : decode code 2511 = .ok (.iconst 3, 1) := getB' kL_law_18 73 rfl
theorem dL_law_2512 : decode code 2512 = .ok (.iadd, 1) := getB' kL_law_18 74 rfl
theorem dL_law_2513 : decode code 2513 = .ok (.iaload, 1) := getB' kL_law_18 75 rfl
theorem dL_law_2514 : decode code 2514 = .ok (.aload_n 0, 1) := getB' kL_law_18 76 rfl
theorem dL_law_2515 : decode code 2515 = .ok (.iload_n 3, 1) := getB' kL_law_18 77 rfl
theorem dL_law_2516 : decode code 2516 = .ok (.iconst 4, 1) := getB' kL_law_18 78 rfl
theorem dL_law_2517 : decode code 2517 = .ok (.iadd, 1) := getB' kL_law_18 79 rfl
theorem dL_law_2518 : decode code 2518 = .ok (.iaload, 1) := getB' kL_law_18 80 rfl
theorem dL_law_2519 : decode code 2519 = .ok (.ifCond .eq 7, 3) := getB' kL_law_18 81 rfl
theorem dL_law_2522 : decode code 2522 = .ok (.iconst 1, 1) := getB' kL_law_18 82 rfl
theorem dL_law_2523 : decode code 2523 = .ok (.goto 4, 3) := getB' kL_law_18 83 rfl
theorem dL_law_2526 : decode code 2526 = .ok (.iconst 0, 1) := getB' kL_law_18 84 rfl
theorem dL_law_2527 : decode code 2527 = .ok (.invokevirtual 245, 3) := getB' kL_law_18 85 rfl
theorem dL_law_2530 : decode code 2530 = .ok (.pop, 1) := getB' kL_law_18 86 rfl
theorem dL_law_2531 : decode code 2531 = .ok (.goto 214, 3) := getB' kL_law_18 87 rfl
theorem dL_law_2534 : decode code 2534 = .ok (.aload_n 1, 1) := getB' kL_law_18 88 rfl
theorem dL_law_2535 : decode code 2535 = .ok (.aload_n 0, 1) := getB' kL_law_18 89 rfl
theorem dL_law_2536 : decode code 2536 = .ok (.iload_n 3, 1) := getB' kL_law_18 90 rfl
theorem dL_law_2537 : decode code 2537 = .ok (.iconst 1, 1) := getB' kL_law_18 91 rfl
theorem dL_law_2538 : decode code 2538 = .ok (.iadd, 1) := getB' kL_law_18 92 rfl
theorem dL_law_2539 : decode code 2539 = .ok (.iaload, 1) := getB' kL_law_18 93 rfl
theorem dL_law_2540 : decode code 2540 = .ok (.aload_n 0, 1) := getB' kL_law_18 94 rfl
theorem dL_law_2541 : decode code 2541 = .ok (.iload_n 3, 1) := getB' kL_law_18 95 rfl
theorem dL_law_2542 : decode code 2542 = .ok (.iconst 2, 1) := getB' kL_law_18 96 rfl
theorem dL_law_2543 : decode code 2543 = .ok (.iadd, 1) := getB' kL_law_18 97 rfl
theorem dL_law_2544 : decode code 2544 = .ok (.iaload, 1) := getB' kL_law_18 98 rfl
theorem dL_law_2545 : decode code 2545 = .ok (.aload_n 0, 1) := getB' kL_law_18 99 rfl
