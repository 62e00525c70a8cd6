def LL_law_4 : List (Nat × Instr × Nat) := [(746, .iload_n 3, 1), (747, .iconst 5, 1), (748, .iadd, 1), (749, .iaload, 1), (750, .invokevirtual 60, 3), (753, .pop, 1), (754, .aload_n 2, 1), (755, .aload_n 0, 1), (756, .iload_n 3, 1), (757, .iconst 1, 1), (758, .iadd, 1), (759, .iaload, 1), (760, .aload_n 0, 1), (761, .iload_n 3, 1), (762, .iconst 2, 1), (763, .iadd, 1), (764, .iaload, 1), (765, .aload_n 0, 1), (766, .iload_n 3, 1), (767, .iconst 3, 1), (768, .iadd, 1), (769, .iaload, 1), (770, .aload_n 0, 1), (771, .iload_n 3, 1), (772, .iconst 4, 1), (773, .iadd, 1), (774, .iaload, 1), (775, .aload_n 0, 1), (776, .iload_n 3, 1), (777, .iconst 5, 1), (778, .iadd, 1), (779, .iaload, 1), (780, .invokevirtual 64, 3), (783, .pop, 1), (784, .goto 1961, 3), (787, .aload_n 1, 1), (788, .aload_n 0, 1), (789, .iload_n 3, 1), (790, .iconst 1, 1), (791, .iadd, 1), (792, .iaload, 1), (793, .aload_n 0, 1), (794, .iload_n 3, 1), (795, .iconst 2, 1), (796, .iadd, 1), (797, .iaload, 1), (798, .aload_n 0, 1), (799, .iload_n 3, 1), (800, .iconst 3, 1), (801, .iadd, 1), (802, .iaload, 1), (803, .invokevirtual 65, 3), (806, .pop, 1), (807, .aload_n 2, 1), (808, .aload_n 0, 1), (809, .iload_n 3, 1), (810, .iconst 1, 1), (811, .iadd, 1), (812, .iaload, 1), (813, .aload_n 0, 1), (814, .iload_n 3, 1), (815, .iconst 2, 1), (816, .iadd, 1), (817, .iaload, 1), (818, .aload_n 0, 1), (819, .iload_n 3, 1), (820, .iconst 3, 1), (821, .iadd, 1), (822, .iaload, 1), (823, .invokevirtual 68, 3), (826, .pop, 1), (827, .goto 1918, 3), (830, .aload_n 1, 1), (831, .aload_n 0, 1), (832, .iload_n 3, 1), (833, .iconst 1, 1), (834, .iadd, 1), (835, .iaload, 1), (836, .aload_n 0, 1), (837, .iload_n 3, 1), (838, .iconst 2, 1), (839, .iadd, 1), (840, .iaload, 1), (841, .invokevirtual 69, 3), (844, .pop, 1), (845, .aload_n 2, 1), (846, .aload_n 0, 1), (847, .iload_n 3, 1), (848, .iconst 1, 1), (849, .iadd, 1), (850, .iaload, 1), (851, .aload_n 0, 1), (852, .iload_n 3, 1), (853, .iconst 2, 1), (854, .iadd, 1), (855, .iaload, 1), (856, .invokevirtual 72, 3), (859, .pop, 1), (860, .goto 1885, 3), (863, .aload_n 1, 1)]
theorem kL_law_4 : chkB code LL_law_4 = true := by decide +kernel
theorem dL_law_746 : decode code 746 = .ok (.iload_n 3, 1) := getB' kL_law_4 0 rfl
theorem dL_law_747 : decode code 747 = .ok (.iconst 5, 1) := getB' kL_law_4 1 rfl
theorem dL_law_748 : decode code 748 = .ok (.iadd, 1) := getB' kL_law_4 2 rfl
theorem dL_law_749 : decode code 749 = .ok (.iaload, 1) := getB' kL_law_4 3 rfl
theorem dL_law_750 : decode code 750 = .ok (.invokevirtual 60, 3) := getB' kL_law_4 4 rfl
theorem dL_law_753 : decode code 753 = .ok (.pop, 1) := getB' kL_law_4 5 rfl
theorem dL_law_754 : decode code 754 = .ok (.aload_n 2, 1) := getB' kL_law_4 6 rfl
theorem dL_law_755 : decode code 755 = .ok (.aload_n 0, 1) := getB' kL_law_4 7 rfl
theorem dL_law_756 : decode code 756 = .ok (.iload_n 3, 1) := getB' kL_law_4 8 rfl
theorem dL_law_757 : decode code 757 = .ok (.iconst 1, 1) := getB' kL_law_4 9 rfl
theorem dL_law_758 : decode code 758 = .ok (.iadd, 1) := getB' kL_law_4 10 rfl
theorem dL_law_759 : decode code 759 = .ok (.iaload, 1) := getB' kL_law_4 11 rfl
theorem dL_law_760 : decode code 760 = .ok (.aload_n 0, 1) := getB' kL_law_4 12 rfl
theorem dL_law_761 : decode code 761 = .ok (.iload_n 3, 1) := getB' kL_law_4 13 rfl
theorem dL_law_762 : decode code 762 = .ok (.iconst 2, 1) := getB' kL_law_4 14 rfl
theorem dL_law_763 : decode code 763 = .ok (.iadd, 1) := getB' kL_law_4 15 rfl
theorem dL_law_764 : decode code 764 = .ok (.iaload, 1) := getB' kL_law_4 16 rfl
theorem dL_law_765 : decode code 765 = .ok (.aload_n 0, 1) := getB' kL_law_4 17 rfl
theorem dL_law_766 : decode code 766 = .ok (.iload_n 3, 1) := getB' kL_law_4 18 rfl
theorem dL_law_767 : decode code 767 = .ok (.iconst 3, 1) := getB' kL_law_4 19 rfl
theorem dL_law_768 : decode code 768 = .ok (.iadd, 1) := getB' kL_law_4 20 rfl
theorem dL_law_769 : decode code 769 = .ok (.iaload, 1) := getB' kL_law_4 21 rfl
theorem dL_law_770 : decode code 770 = .ok (.aload_n 0, 1) := getB' kL_law_4 22 rfl
theorem dL_law_771 : decode code 771 = .ok (.iload_n 3, 1) := getB' kL_law_4 23 rfl
theorem dL_law_772 : decode code 772 = .ok (.iconst 4, 1) := getB' kL_law_4 24 rfl
theorem dL_law_773 : decode code 773 = .ok (.iadd, 1) := getB' kL_law_4 25 rfl
theorem dL_law_774 : decode code 774 = .ok (.iaload, 1) := getB' kL_law_4 26 rfl
theorem dL_law_775 : decode code 775 = .ok (.aload_n 0, 1) := getB' kL_law_4 27 rfl
theorem dL_law_776 : decode code 776 = .ok (.iload_n 3, 1) := getB' kL_law_4 28 rfl
theorem dL_law_777 : decode code 777 = .ok (.iconst 5, 1) := getB' kL_law_4 29 rfl
theorem dL_law_778 : decode code 778 = .ok (.iadd, 1) := getB' kL_law_4 30 rfl
theorem dL_law_779 : decode code 779 = .ok (.iaload, 1) := getB' kL_law_4 31 rfl
theorem dL_law_780 : decode code 780 = .ok (.invokevirtual 64, 3) := getB' kL_law_4 32 rfl
theorem dL_law_783 : decode code 783 = .ok (.pop, 1) := getB' kL_law_4 33 rfl
theorem dL_law_784 : decode code 784 = .ok (.goto 1961, 3) := getB' kL_law_4 34 rfl
theorem dL_law_787 : decode code 787 = .ok (.aload_n 1, 1) := getB' kL_law_4 35 rfl
theorem dL_law_788 : decode code 788 = .ok (.aload_n 0, 1) := getB' kL_law_4 36 rfl
theorem dL_law_789 : decode code 789 = .ok (.iload_n 3, 1) := getB' kL_law_4 37 rfl
theorem dL_law_790 : decode code 790 = .ok (.iconst 1, 1) := getB' kL_law_4 38 rfl
theorem dL_law_791 : decode code 791 = .ok (.iadd, 1) := getB' kL_law_4 39 rfl
theorem dL_law_792 : decode code 792 = .ok (.iaload, 1) := getB' kL_law_4 40 rfl
theorem dL_law_793 : decode code 793 = .ok (.aload_n 0, 1) := getB' kL_law_4 41 rfl
theorem dL_law_794 : decode code 794 = .ok (.iload_n 3, 1) := getB' kL_law_4 42 rfl
theorem dL_law_795 : decode code 795 = .ok (.iconst 2, 1) := getB' kL_law_4 43 rfl
theorem dL_law_796 : decode code 796 = .ok (.iadd, 1) := getB' kL_law_4 44 rfl
theorem dL_law_797 : decode code 797 = .ok (.iaload, 1) := getB' kL_law_4 45 rfl
theorem dL_law_798 : decode code 798 = .ok (.aload_n 0, 1) := getB' kL_law_4 46 rfl
theorem dL_law_799 : decode code 799 = .ok (.iload_n 3, 1) := getB' kL_law_4 47 rfl
theorem dL_law_800 : decode code 800 = .ok (.iconst 3, 1) := getB' kL_law_4 48 rfl
theorem dL_law_801 : decode code 801 = .ok (.iadd, 1) := getB' kL_law_4 49 rfl
theorem dL_law_802 : decode code 802 = .ok (.iaload, 1) := getB' kL_law_4 50 rfl
theorem dL_law_803 : decode code 803 = .ok (.invokevirtual 65, 3) := getB' kL_law_4 51 rfl
theorem dL_law_806 : decode code 806 = .ok (.pop, 1) := getB' kL_law_4 52 rfl
theorem dL_law_807 : decode code 807 = .ok (.aload_n 2, 1) := getB' kL_law_4 53 rfl
theorem dL_law_808 : decode code 808 = .ok (.aload_n 0, 1) := getB' kL_law_4 54 rfl
theorem dL_law_809 : decode code 809 = .ok (.iload_n 3, 1) := getB' kL_law_4 55 rfl
theorem dL_law_810 : decode code 810 = .ok (.iconst 1, 1) := getB' kL_law_4 56 rfl
theorem dL_law_811 : decode code 811 = .ok (.iadd, 1) := getB' kL_law_4 57 rfl
theorem dL_law_812 : decode code 812 = .ok (.iaload, 1) := getB' kL_law_4 58 rfl
theorem dL_law_813 : decode code 813 = .ok (.aload_n 0, 1) := getB' kL_law_4 59 rfl
theorem dL_law_814 : decode code 814 = .ok (.iload_n 3, 1) := getB' kL_law_4 60 rfl
theorem dL_law_815 : decode code 815 = .ok (.iconst 2, 1) := getB' kL_law_4 61 rfl
theorem dL_law_816 : decode code 816 = .ok (.iadd, 1) := getB' kL_law_4 62 rfl
theorem dL_law_817 : decode code 817 = .ok (.iaload, 1) := getB' kL_law_4 63 rfl
theorem dL_law_818 : decode code 818 = .ok (.aload_n 0, 1) := getB' kL_law_4 64 rfl
theorem dL_law_819 : decode code 819 = .ok (.iload_n 3, 1) := getB' kL_law_4 65 rfl
theorem dL_law_820 : decode code 820 = .ok (.iconst 3, 1) := getB' kL_law_4 66 rfl
theorem dL_law_821 : decode code 821 = .ok (.iadd, 1) := getB' kL_law_4 67 rfl
theorem dL_law_822 : decode code 822 = .ok (.iaload, 1) := getB' kL_law_4 68 rfl
theorem dL_law_823 : decode code 823 = .ok (.invokevirtual 68, 3) := getB' kL_law_4 69 rfl
theorem dL_law_826 : decode code 826 = .ok (.pop, 1) := getB' kL_law_4 70 rfl
theorem dL_law_827 : decode code 827 = .ok (.goto 1918, 3) := getB' kL_law_4 71 rfl
theorem dL_law_830 : decode code 830 = .ok (.aload_n 1, 1) := getB' kL_law_4 72 rfl
theorem dL_law_831 : decode code 831 = .ok (.aload_n 0, 1) := getB' kL_law_4 73 rfl
theorem dL_law_832 : decode code 832 = .ok (.iload_n 3, 1) := getB' kL_law_4 74 rfl
theorem dL_law_833 : decode code 833 = .ok (.iconst 1, 1) := getB' kL_law_4 75 rfl
theorem dL_law_834 : decode code 834 = .ok (.iadd, 1) := getB' kL_law_4 76 rfl
theorem dL_law_835 : decode code 835 = .ok (.iaload, 1) := getB' kL_law_4 77 rfl
theorem dL_law_836 : decode code 836 = .ok (.aload_n 0, 1) := getB' kL_law_4 78 rfl
theorem dL_law_837 : decode code 837 = .ok (.iload_n 3, 1) := getB' kL_law_4 79 rfl
theorem dL_law_838 : decode code 838 = .ok (.iconst 2, 1) := getB' kL_law_4 80 rfl
theorem dL_law_839 : decode code 839 = .ok (.iadd, 1) := getB' kL_law_4 81 rfl
theorem dL_law_840 : decode code 840 = .ok (.iaload, 1) := getB' kL_law_4 82 rfl
theorem dL_law_841 : decode code 841 = .ok (.invokevirtual 69, 3) := getB' kL_law_4 83 rfl
theorem dL_law_844 : decode code 844 = .ok (.pop, 1) := getB' kL_law_4 84 rfl
theorem dL_law_845 : decode code 845 = .ok (.aload_n 2, 1) := getB' kL_law_4 85 rfl
theorem dL_law_846 : decode code 846 = .ok (.aload_n 0, 1) := getB' kL_law_4 86 rfl
theorem dL_law_847 : decode code 847 = .ok (.iload_n 3, 1) := getB' kL_law_4 87 rfl
theorem dL_law_848 : decode code 848 = .ok (.iconst 1, 1) := getB' kL_law_4 88 rfl
theorem dL_law_849 : decode code 849 = .ok (.iadd, 1) := getB' kL_law_4 89 rfl
theorem dL_law_850 : decode code 850 = .ok (.iaload, 1) := getB' kL_law_4 90 rfl
theorem dL_law_851 : decode code 851 = .ok (.aload_n 0, 1) := getB' kL_law_4 91 rfl
theorem dL_law_852 : decode code 852 = .ok (.iload_n 3, 1) := getB' kL_law_4 92 rfl
theorem dL_law_853 : decode code 853 = .ok (.iconst 2, 1) := getB' kL_law_4 93 rfl
theorem dL_law_854 : decode code 854 = .ok (.iadd, 1) := getB' kL_law_4 94 rfl
theorem dL_law_855 : decode code 855 = .ok (.iaload, 1) := getB' kL_law_4 95 rfl
theorem dL_law_856 : decode code 856 = .ok (.invokevirtual 72, 3) := getB' kL_law_4 96 rfl
theorem dL_law_859 : decode code 859 = .ok (.pop, 1) := getB' kL_law_4 97 rfl
theorem dL_law_860 : decode code 860 = .ok (.goto 1885, 3) := getB' kL_law_4 98 rfl
theorem dL_law_863 : decode code 863 = .ok (.aload_n 1, 1) := getB' kL_law_4 99 rfl
