def LL_law_19 : List (Nat × Instr × Nat) := [(2546, .iload_n 3, 1), (2547, .iconst 3, 1), (2548, .iadd, 1), (2549, .iaload, 1), (2550, .invokevirtual 246, 3), (2553, .pop, 1), (2554, .aload_n 2, 1), (2555, .aload_n 0, 1), (2556, .iload_n 3, 1), (2557, .iconst 1, 1), (2558, .iadd, 1), (2559, .iaload, 1), (2560, .aload_n 0, 1), (2561, .iload_n 3, 1), (2562, .iconst 2, 1), (2563, .iadd, 1), (2564, .iaload, 1), (2565, .aload_n 0, 1), (2566, .iload_n 3, 1), (2567, .iconst 3, 1), (2568, .iadd, 1), (2569, .iaload, 1), (2570, .invokevirtual 249, 3), (2573, .pop, 1), (2574, .goto 171, 3), (2577, .aload_n 1, 1), (2578, .aload_n 0, 1), (2579, .iload_n 3, 1), (2580, .iconst 1, 1), (2581, .iadd, 1), (2582, .iaload, 1), (2583, .invokevirtual 250, 3), (2586, .pop, 1), (2587, .aload_n 2, 1), (2588, .aload_n 0, 1), (2589, .iload_n 3, 1), (2590, .iconst 1, 1), (2591, .iadd, 1), (2592, .iaload, 1), (2593, .invokevirtual 253, 3), (2596, .pop, 1), (2597, .goto 148, 3), (2600, .aload_n 1, 1), (2601, .aload_n 0, 1), (2602, .iload_n 3, 1), (2603, .iconst 1, 1), (2604, .iadd, 1), (2605, .iaload, 1), (2606, .aload_n 0, 1), (2607, .iload_n 3, 1), (2608, .iconst 2, 1), (2609, .iadd, 1), (2610, .iaload, 1), (2611, .invokevirtual 254, 3), (2614, .pop, 1), (2615, .aload_n 2, 1), (2616, .aload_n 0, 1), (2617, .iload_n 3, 1), (2618, .iconst 1, 1), (2619, .iadd, 1), (2620, .iaload, 1), (2621, .aload_n 0, 1), (2622, .iload_n 3, 1), (2623, .iconst 2, 1), (2624, .iadd, 1), (2625, .iaload, 1), (2626, .invokevirtual 257, 3), (2629, .pop, 1), (2630, .goto 115, 3), (2633, .aload_n 1, 1), (2634, .aload_n 0, 1), (2635, .iload_n 3, 1), (2636, .iconst 1, 1), (2637, .iadd, 1), (2638, .iaload, 1), (2639, .aload_n 0, 1), (2640, .iload_n 3, 1), (2641, .iconst 2, 1), (2642, .iadd, 1), (2643, .iaload, 1), (2644, .invokevirtual 258, 3), (2647, .pop, 1), (2648, .aload_n 2, 1), (2649, .aload_n 0, 1), (2650, .iload_n 3, 1), (2651, .iconst 1, 1), (2652, .iadd, 1), (2653, .iaload, 1), (2654, .aload_n 0, 1), (2655, .iload_n 3, 1), (2656, .iconst 2, 1), (2657, .iadd, 1), (2658, .iaload, 1), (2659, .invokevirtual 261, 3), (2662, .pop, 1), (2663, .goto 82, 3), (2666, .aload_n 1, 1), (2667, .aload_n 0, 1), (2668, .iload_n 3, 1), (2669, .iconst 1, 1)]
theorem kL_law_19 : chkB code LL_law_19 = true := by decide +kernel
theorem dL_law_2546 : decode code 2546 = .ok (.iload_n 3, 1) := getB' kL_law_19 0 rfl
theorem dL_law_2547 : decode code 2547 = .ok (.iconst 3, 1) := getB' kL_law_19 1 rfl
theorem dL_law_2548 : decode code 2548 = .ok (.iadd, 1) := getB' kL_law_19 2 rfl
theorem dL_law_2549 : decode code 2549 = .ok (.iaload, 1) := getB' kL_law_19 3 rfl
theorem dL_law_2550 : decode code 2550 = .ok (.invokevirtual 246, 3) := getB' kL_law_19 4 rfl
theorem dL_law_2553 : decode code 2553 = .ok (.pop, 1) := getB' kL_law_19 5 rfl
theorem dL_law_2554 : decode code 2554 = .ok (.aload_n 2, 1) := getB' kL_law_19 6 rfl
theorem dL_law_2555 : decode code 2555 = .ok (.aload_n 0, 1) := getB' kL_law_19 7 rfl
theorem dL_law_2556 : decode code 2556 = .ok (.iload_n 3, 1) := getB' kL_law_19 8 rfl
theorem dL_law_2557 : decode code 2557 = .ok (.iconst 1, 1) := getB' kL_law_19 9 rfl
theorem dL_law_2558 : decode code 2558 = .ok (.iadd, 1) := getB' kL_law_19 10 rfl
theorem dL_law_2559 : decode code 2559 = .ok (.iaload, 1) := getB' kL_law_19 11 rfl
theorem dL_law_2560 : decode code 2560 = .ok (.aload_n 0, 1) := getB' kL_law_19 12 rfl
theorem dL_law_2561 : decode code 2561 = .ok (.iload_n 3, 1) := getB' kL_law_19 13 rfl
theorem dL_law_2562 : decode code 2562 = .ok (.iconst 2, 1) := getB' kL_law_19 14 rfl
theorem dL_law_2563 : decode code 2563 = .ok (.iadd, 1) := getB' kL_law_19 15 rfl
theorem dL_law_2564 : decode code 2564 = .ok (.iaload, 1) := getB' kL_law_19 16 rfl
theorem dL_law_2565 : decode code 2565 = .ok (.aload_n 0, 1) := getB' kL_law_19 17 rfl
theorem dL_law_2566 : decode code 2566 = .ok (.iload_n 3, 1) := getB' kL_law_19 18 rfl
theorem dL_law_2567 : decode code 2567 = .ok (.iconst 3, 1) := getB' kL_law_19 19 rfl
theorem dL_law_2568 : decode code 2568 = .ok (.iadd, 1) := getB' kL_law_19 20 rfl
theorem dL_law_2569 : decode code 2569 = .ok (.iaload, 1) := getB' kL_law_19 21 rfl
theorem dL_law_2570 : decode code 2570 = .ok (.invokevirtual 249, 3) := getB' kL_law_19 22 rfl
theorem dL_law_2573 : decode code 2573 = .ok (.pop, 1) := getB' kL_law_19 23 rfl
theorem dL_law_2574 : decode code 2574 = .ok (.goto 171, 3) := getB' kL_law_19 24 rfl
theorem dL_law_2577 : decode code 2577 = .ok (.aload_n 1, 1) := getB' kL_law_19 25 rfl
theorem dL_law_2578 : decode code 2578 = .ok (.aload_n 0, 1) := getB' kL_law_19 26 rfl
theorem dL_law_2579 : decode code 2579 = .ok (.iload_n 3, 1) := getB' kL_law_19 27 rfl
theorem dL_law_2580 : decode code 2580 = .ok (.iconst 1, 1) := getB' kL_law_19 28 rfl
theorem dL_law_2581 : decode code 2581 = .ok (.iadd, 1) := getB' kL_law_19 29 rfl
theorem dL_law_2582 : decode code 2582 = .ok (.iaload, 1) := getB' kL_law_19 30 rfl
theorem dL_law_2583 : decode code 2583 = .ok (.invokevirtual 250, 3) := getB' kL_law_19 31 rfl
theorem dL_law_2586 : decode code 2586 = .ok (.pop, 1) := getB' kL_law_19 32 rfl
theorem dL_law_2587 : decode code 2587 = .ok (.aload_n 2, 1) := getB' kL_law_19 33 rfl
theorem dL_law_2588 : decode code 2588 = .ok (.aload_n 0, 1) := getB' kL_law_19 34 rfl
theorem dL_law_2589 : decode code 2589 = .ok (.iload_n 3, 1) := getB' kL_law_19 35 rfl
theorem dL_law_2590 : decode code 2590 = .ok (.iconst 1, 1) := getB' kL_law_19 36 rfl
theorem dL_law_2591 : decode code 2591 = .ok (.iadd, 1) := getB' kL_law_19 37 rfl
theorem dL_law_2592 : decode code 2592 = .ok (.iaload, 1) := getB' kL_law_19 38 rfl
theorem dL_law_2593 : decode code 2593 = .ok (.invokevirtual 253, 3) := getB' kL_law_19 39 rfl
theorem dL_law_2596 : decode code 2596 = .ok (.pop, 1) := getB' kL_law_19 40 rfl
theorem dL_law_2597 : decode code 2597 = .ok (.goto 148, 3) := getB' kL_law_19 41 rfl
theorem dL_law_2600 : decode code 2600 = .ok (.aload_n 1, 1) := getB' kL_law_19 42 rfl
theorem dL_law_2601 : decode code 2601 = .ok (.aload_n 0, 1) := getB' kL_law_19 43 rfl
theorem dL_law_2602 : decode code 2602 = .ok (.iload_n 3, 1) := getB' kL_law_19 44 rfl
theorem dL_law_2603 : decode code 2603 = .ok (.iconst 1, 1) := getB' kL_law_19 45 rfl
theorem dL_law_2604 : decode code 2604 = .ok (.iadd, 1) := getB' kL_law_19 46 rfl
theorem dL_law_2605 : decode code 2605 = .ok (.iaload, 1) := getB' kL_law_19 47 rfl
theorem dL_law_2606 : decode code 2606 = .ok (.aload_n 0, 1) := getB' kL_law_19 48 rfl
theorem dL_law_2607 : decode code 2607 = .ok (.iload_n 3, 1) := getB' kL_law_19 49 rfl
theorem dL_law_2608 : decode code 2608 = .ok (.iconst 2, 1) := getB' kL_law_19 50 rfl
theorem dL_law_2609 : decode code 2609 = .ok (.iadd, 1) := getB' kL_law_19 51 rfl
theorem dL_law_2610 : decode code 2610 = .ok (.iaload, 1) := getB' kL_law_19 52 rfl
theorem dL_law_2611 : decode code 2611 = .ok (.invokevirtual 254, 3) := getB' kL_law_19 53 rfl
theorem dL_law_2614 : decode code 2614 = .ok (.pop, 1) := getB' kL_law_19 54 rfl
theorem dL_law_2615 : decode code 2615 = .ok (.aload_n 2, 1) := getB' kL_law_19 55 rfl
theorem dL_law_2616 : decode code 2616 = .ok (.aload_n 0, 1) := getB' kL_law_19 56 rfl
theorem dL_law_2617 : decode code 2617 = .ok (.iload_n 3, 1) := getB' kL_law_19 57 rfl
theorem dL_law_2618 : decode code 2618 = .ok (.iconst 1, 1) := getB' kL_law_19 58 rfl
theorem dL_law_2619 : decode code 2619 = .ok (.iadd, 1) := getB' kL_law_19 59 rfl
theorem dL_law_2620 : decode code 2620 = .ok (.iaload, 1) := getB' kL_law_19 60 rfl
theorem dL_law_2621 : decode code 2621 = .ok (.aload_n 0, 1) := getB' kL_law_19 61 rfl
theorem dL_law_2622 : decode code 2622 = .ok (.iload_n 3, 1) := getB' kL_law_19 62 rfl
theorem dL_law_2623 : decode code 2623 = .ok (.iconst 2, 1) := getB' kL_law_19 63 rfl
theorem dL_law_2624 : decode code 2624 = .ok (.iadd, 1) := getB' kL_law_19 64 rfl
theorem dL_law_2625 : decode code 2625 = .ok (.iaload, 1) := getB' kL_law_19 65 rfl
theorem dL_law_2626 : decode code 2626 = .ok (.invokevirtual 257, 3) := getB' kL_law_19 66 rfl
theorem dL_law_2629 : decode code 2629 = .ok (.pop, 1) := getB' kL_law_19 67 rfl
theorem dL_law_2630 : decode code 2630 = .ok (.goto 115, 3) := getB' kL_law_19 68 rfl
theorem dL_law_2633 : decode code 2633 = .ok (.aload_n 1, 1) := getB' kL_law_19 69 rfl
theorem dL_law_2634 : decode code 2634 = .ok (.aload_n 0, 1) := getB' kL_law_19 70 rfl
theorem dL_law_2635 : decode code 2635 = .ok (.iload_n 3, 1) := getB' kL_law_19 71 rfl
theorem dL_law_2636 : decode code 2636 = .ok (.iconst 1, 1) := getB' kL_law_19 72 rfl
theorem dL_law_2637 : decode code 2637 = .ok (.iadd, 1) := getB' kL_law_19 73 rfl
theorem dL_law_2638 : decode code 2638 = .ok (.iaload, 1) := getB' kL_law_19 74 rfl
theorem dL_law_2639 : decode code 2639 = .ok (.aload_n 0, 1) := getB' kL_law_19 75 rfl
theorem dL_law_2640 : decode code 2640 = .ok (.iload_n 3, 1) := getB' kL_law_19 76 rfl
theorem dL_law_2641 : decode code 2641 = .ok (.iconst 2, 1) := getB' kL_law_19 77 rfl
theorem dL_law_2642 : decode code 2642 = .ok (.iadd, 1) := getB' kL_law_19 78 rfl
theorem dL_law_2643 : decode code 2643 = .ok (.iaload, 1) := getB' kL_law_19 79 rfl
theorem dL_law_2644 : decode code 2644 = .ok (.invokevirtual 258, 3) := getB' kL_law_19 80 rfl
theorem dL_law_2647 : decode code 2647 = .ok (.pop, 1) := getB' kL_law_19 81 rfl
theorem dL_law_2648 : decode code 2648 = .ok (.aload_n 2, 1) := getB' kL_law_19 82 rfl
theorem dL_law_2649 : decode code 2649 = .ok (.aload_n 0, 1) := getB' kL_law_19 83 rfl
theorem dL_law_2650 : decode code 2650 = .ok (.iload_n 3, 1) := getB' kL_law_19 84 rfl
theorem dL_law_2651 : decode code 2651 = .ok (.iconst 1, 1) := getB' kL_law_19 85 rfl
theorem dL_law_2652 : decode code 2652 = .ok (.iadd, 1) := getB' kL_law_19 86 rfl
theorem dL_law_2653 : decode code 2653 = .ok (.iaload, 1) := getB' kL_law_19 87 rfl
theorem dL_law_2654 : decode code 2654 = .ok (.aload_n 0, 1) := getB' kL_law_19 88 rfl
theorem dL_law_2655 : decode code 2655 = .ok (.iload_n 3, 1) := getB' kL_law_19 89 rfl
theorem dL_law_2656 : decode code 2656 = .ok (.iconst 2, 1) := getB' kL_law_19 90 rfl
theorem dL_law_2657 : decode code 2657 = .ok (.iadd, 1) := getB' kL_law_19 91 rfl
theorem dL_law_2658 : decode code 2658 = .ok (.iaload, 1) := getB' kL_law_19 92 rfl
theorem dL_law_2659 : decode code 2659 = .ok (.invokevirtual 261, 3) := getB' kL_law_19 93 rfl
theorem dL_law_2662 : decode code 2662 = .ok (.pop, 1) := getB' kL_law_19 94 rfl
theorem dL_law_2663 : decode code 2663 = .ok (.goto 82, 3) := getB' kL_law_19 95 rfl
theorem dL_law_2666 : decode code 2666 = .ok (.aload_n 1, 1) := getB' kL_law_19 96 rfl
theorem dL_law_2667 : decode code 2667 = .ok (.aload_n 0, 1) := getB' kL_law_19 97 rfl
theorem dL_law_2668 : decode code 2668 = .ok (.iload_n 3, 1) := getB' kL_law_19 98 rfl
theorem dL_law_2669 : decode code 2669 = .ok (.iconst 1, 1) := getB' kL_law_19 99 rfl
