def LL_law_20 : List (Nat × Instr × Nat) := [(2670, .iadd, 1), (2671, .iaload, 1), (2672, .aload_n 0, 1), (2673, .iload_n 3, 1), (2674, .iconst 2, 1), (2675, .iadd, 1), (2676, .iaload, 1), (2677, .invokevirtual 262, 3), (2680, .pop, 1), (2681, .aload_n 2, 1), (2682, .aload_n 0, 1), (2683, .iload_n 3, 1), (2684, .iconst 1, 1), (2685, .iadd, 1), (2686, .iaload, 1), (2687, .aload_n 0, 1), (2688, .iload_n 3, 1), (2689, .iconst 2, 1), (2690, .iadd, 1), (2691, .iaload, 1), (2692, .invokevirtual 265, 3), (2695, .pop, 1), (2696, .goto 49, 3), (2699, .aload_n 1, 1), (2700, .aload_n 0, 1), (2701, .iload_n 3, 1), (2702, .iconst 1, 1), (2703, .iadd, 1), (2704, .iaload, 1), (2705, .invokevirtual 266, 3), (2708, .pop2, 1), (2709, .aload_n 2, 1), (2710, .aload_n 0, 1), (2711, .iload_n 3, 1), (2712, .iconst 1, 1), (2713, .iadd, 1), (2714, .iaload, 1), (2715, .invokevirtual 270, 3), (2718, .pop2, 1), (2719, .goto 26, 3), (2722, .aload_n 1, 1), (2723, .aload_n 0, 1), (2724, .iload_n 3, 1), (2725, .iconst 1, 1), (2726, .iadd, 1), (2727, .iaload, 1), (2728, .invokevirtual 271, 3), (2731, .pop, 1), (2732, .aload_n 2, 1), (2733, .aload_n 0, 1), (2734, .iload_n 3, 1), (2735, .iconst 1, 1), (2736, .iadd, 1), (2737, .iaload, 1), (2738, .invokevirtual 274, 3), (2741, .pop, 1), (2742, .goto 3, 3), (2745, .iinc 3 8, 3), (2748, .goto (-2730), 3), (2751, .iconst 1, 1), (2752, .ireturn, 1)]
theorem kL_law_20 : chkB code LL_law_20 = true := by decide +kernel
theorem dL_law_2670 : decode code 2670 = .ok (.iadd, 1) := getB' kL_law_20 0 rfl
theorem dL_law_2671 : decode code 2671 = .ok (.iaload, 1) := getB' kL_law_20 1 rfl
theorem dL_law_2672 : decode code 2672 = .ok (.aload_n 0, 1) := getB' kL_law_20 2 rfl
theorem dL_law_2673 : decode code 2673 = .ok (.iload_n 3, 1) := getB' kL_law_20 3 rfl
theorem dL_law_2674 : decode code 2674 = .ok (.iconst 2, 1) := getB' kL_law_20 4 rfl
theorem dL_law_2675 : decode code 2675 = .ok (.iadd, 1) := getB' kL_law_20 5 rfl
theorem dL_law_2676 : decode code 2676 = .ok (.iaload, 1) := getB' kL_law_20 6 rfl
theorem dL_law_2677 : decode code 2677 = .ok (.invokevirtual 262, 3) := getB' kL_law_20 7 rfl
theorem dL_law_2680 : decode code 2680 = .ok (.pop, 1) := getB' kL_law_20 8 rfl
theorem dL_law_2681 : decode code 2681 = .ok (.aload_n 2, 1) := getB' kL_law_20 9 rfl
theorem dL_law_2682 : decode code 2682 = .ok (.aload_n 0, 1) := getB' kL_law_20 10 rfl
theorem dL_law_2683 : decode code 2683 = .ok (.iload_n 3, 1) := getB' kL_law_20 11 rfl
theorem dL_law_2684 : decode code 2684 = .ok (.iconst 1, 1) := getB' kL_law_20 12 rfl
theorem dL_law_2685 : decode code 2685 = .ok (.iadd, 1) := getB' kL_law_20 13 rfl
theorem dL_law_2686 : decode code 2686 = .ok (.iaload, 1) := getB' kL_law_20 14 rfl
theorem dL_law_2687 : decode code 2687 = .ok (.aload_n 0, 1) := getB' kL_law_20 15 rfl
theorem dL_law_2688 : decode code 2688 = .ok (.iload_n 3, 1) := getB' kL_law_20 16 rfl
theorem dL_law_2689 : decode code 2689 = .ok (.iconst 2, 1) := getB' kL_law_20 17 rfl
theorem dL_law_2690 : decode code 2690 = .ok (.iadd, 1) := getB' kL_law_20 18 rfl
theorem dL_law_2691 : decode code 2691 = .ok (.iaload, 1) := getB' kL_law_20 19 rfl
theorem dL_law_2692 : decode code 2692 = .ok (.invokevirtual 265, 3) := getB' kL_law_20 20 rfl
theorem dL_law_2695 : decode code 2695 = .ok (.pop, 1) := getB' kL_law_20 21 rfl
theorem dL_law_2696 : decode code 2696 = .ok (.goto 49, 3) := getB' kL_law_20 22 rfl
theorem dL_law_2699 : decode code 2699 = .ok (.aload_n 1, 1) := getB' kL_law_20 23 rfl
theorem dL_law_2700 : decode code 2700 = .ok (.aload_n 0, 1) := getB' kL_law_20 24 rfl
theorem dL_law_2701 : decode code 2701 = .ok (.iload_n 3, 1) := getB' kL_law_20 25 rfl
theorem dL_law_2702 : decode code 2702 = .ok (.iconst 1, 1) := getB' kL_law_20 26 rfl
theorem dL_law_2703 : decode code 2703 = .ok (.iadd, 1) := getB' kL_law_20 27 rfl
theorem dL_law_2704 : decode code 2704 = .ok (.iaload, 1) := getB' kL_law_20 28 rfl
theorem dL_law_2705 : decode code 2705 = .ok (.invokevirtual 266, 3) := getB' kL_law_20 29 rfl
theorem dL_law_2708 : decode code 2708 = .ok (.pop2, 1) := getB' kL_law_20 30 rfl
theorem dL_law_2709 : decode code 2709 = .ok (.aload_n 2, 1) := getB' kL_law_20 31 rfl
theorem dL_law_2710 : decode code 2710 = .ok (.aload_n 0, 1) := getB' kL_law_20 32 rfl
theorem dL_law_2711 : decode code 2711 = .ok (.iload_n 3, 1) := getB' kL_law_20 33 rfl
theorem dL_law_2712 : decode code 2712 = .ok (.iconst 1, 1) := getB' kL_law_20 34 rfl
theorem dL_law_2713 : decode code 2713 = .ok (.iadd, 1) := getB' kL_law_20 35 rfl
theorem dL_law_2714 : decode code 2714 = .ok (.iaload, 1) := getB' kL_law_20 36 rfl
theorem dL_law_2715 : decode code 2715 = .ok (.invokevirtual 270, 3) := getB' kL_law_20 37 rfl
theorem dL_law_2718 : decode code 2718 = .ok (.pop2, 1) := getB' kL_law_20 38 rfl
theorem dL_law_2719 : decode code 2719 = .ok (.goto 26, 3) := getB' kL_law_20 39 rfl
theorem dL_law_2722 : decode code 2722 = .ok (.aload_n 1, 1) := getB' kL_law_20 40 rfl
theorem dL_law_2723 : decode code 2723 = .ok (.aload_n 0, 1) := getB' kL_law_20 41 rfl
theorem dL_law_2724 : decode code 2724 = .ok (.iload_n 3, 1) := getB' kL_law_20 42 rfl
theorem dL_law_2725 : decode code 2725 = .ok (.iconst 1, 1) := getB' kL_law_20 43 rfl
theorem dL_law_2726 : decode code 2726 = .ok (.iadd, 1) := getB' kL_law_20 44 rfl
theorem dL_law_2727 : decode code 2727 = .ok (.iaload, 1) := getB' kL_law_20 45 rfl
theorem dL_law_2728 : decode code 2728 = .ok (.invokevirtual 271, 3) := getB' kL_law_20 46 rfl
theorem dL_law_2731 : decode code 2731 = .ok (.pop, 1) := getB' kL_law_20 47 rfl
theorem dL_law_2732 : decode code 2732 = .ok (.aload_n 2, 1) := getB' kL_law_20 48 rfl
theorem dL_law_2733 : decode code 2733 = .ok (.aload_n 0, 1) := getB' kL_law_20 49 rfl
theorem dL_law_2734 : decode code 2734 = .ok (.iload_n 3, 1) := getB' kL_law_20 50 rfl
theorem dL_law_2735 : decode code 2735 = .ok (.iconst 1, 1) := getB' kL_law_20 51 rfl
theorem dL_law_2736 : decode code 2736 = .ok (.iadd, 1) := getB' kL_law_20 52 rfl
theorem dL_law_2737 : decode code 2737 = .ok (.iaload, 1) := getB' kL_law_20 53 rfl
theorem dL_law_2738 : decode code 2738 = .ok (.invokevirtual 274, 3) := getB' kL_law_20 54 rfl
theorem dL_law_2741 : decode code 2741 = .ok (.pop, 1) := getB' kL_law_20 55 rfl
theorem dL_law_2742 : decode code 2742 = .ok (.goto 3, 3) := getB' kL_law_20 56 rfl
theorem dL_law_2745 : decode code 2745 = .ok (.iinc 3 8, 3) := getB' kL_law_20 57 rfl
theorem dL_law_2748 : decode code 2748 = .ok (.goto (-2730), 3) := getB' kL_law_20 58 rfl
theorem dL_law_2751 : decode code 2751 = .ok (.iconst 1, 1) := getB' kL_law_20 59 rfl
theorem dL_law_2752 : decode code 2752 = .ok (.ireturn, 1) := getB' kL_law_20 60 rfl
