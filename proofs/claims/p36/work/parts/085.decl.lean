def LL_law_3 : List (Nat × Instr × Nat) := [(622, .iconst 2, 1), (623, .iadd, 1), (624, .iaload, 1), (625, .invokevirtual 49, 3), (628, .pop, 1), (629, .goto 2116, 3), (632, .aload_n 1, 1), (633, .aload_n 0, 1), (634, .iload_n 3, 1), (635, .iconst 1, 1), (636, .iadd, 1), (637, .iaload, 1), (638, .aload_n 0, 1), (639, .iload_n 3, 1), (640, .iconst 2, 1), (641, .iadd, 1), (642, .iaload, 1), (643, .aload_n 0, 1), (644, .iload_n 3, 1), (645, .iconst 3, 1), (646, .iadd, 1), (647, .iaload, 1), (648, .invokevirtual 50, 3), (651, .pop, 1), (652, .aload_n 2, 1), (653, .aload_n 0, 1), (654, .iload_n 3, 1), (655, .iconst 1, 1), (656, .iadd, 1), (657, .iaload, 1), (658, .aload_n 0, 1), (659, .iload_n 3, 1), (660, .iconst 2, 1), (661, .iadd, 1), (662, .iaload, 1), (663, .aload_n 0, 1), (664, .iload_n 3, 1), (665, .iconst 3, 1), (666, .iadd, 1), (667, .iaload, 1), (668, .invokevirtual 54, 3), (671, .pop, 1), (672, .goto 2073, 3), (675, .aload_n 1, 1), (676, .aload_n 0, 1), (677, .iload_n 3, 1), (678, .iconst 1, 1), (679, .iadd, 1), (680, .iaload, 1), (681, .aload_n 0, 1), (682, .iload_n 3, 1), (683, .iconst 2, 1), (684, .iadd, 1), (685, .iaload, 1), (686, .ifCond .eq 7, 3), (689, .iconst 1, 1), (690, .goto 4, 3), (693, .iconst 0, 1), (694, .invokevirtual 55, 3), (697, .pop, 1), (698, .aload_n 2, 1), (699, .aload_n 0, 1), (700, .iload_n 3, 1), (701, .iconst 1, 1), (702, .iadd, 1), (703, .iaload, 1), (704, .aload_n 0, 1), (705, .iload_n 3, 1), (706, .iconst 2, 1), (707, .iadd, 1), (708, .iaload, 1), (709, .ifCond .eq 7, 3), (712, .iconst 1, 1), (713, .goto 4, 3), (716, .iconst 0, 1), (717, .invokevirtual 59, 3), (720, .pop, 1), (721, .goto 2024, 3), (724, .aload_n 1, 1), (725, .aload_n 0, 1), (726, .iload_n 3, 1), (727, .iconst 1, 1), (728, .iadd, 1), (729, .iaload, 1), (730, .aload_n 0, 1), (731, .iload_n 3, 1), (732, .iconst 2, 1), (733, .iadd, 1), (734, .iaload, 1), (735, .aload_n 0, 1), (736, .iload_n 3, 1), (737, .iconst 3, 1), (738, .iadd, 1), (739, .iaload, 1), (740, .aload_n 0, 1), (741, .iload_n 3, 1), (742, .iconst 4, 1), (743, .iadd, 1), (744, .iaload, 1), (745, .aload_n 0, 1)]
theorem kL_law_3 : chkB code LL_law_3 = true := by decide +kernel
theorem dL_law_622 : decode code 622 = .ok (.iconst 2, 1) := getB' kL_law_3 0 rfl
theorem dL_law_623 : decode code 623 = .ok (.iadd, 1) := getB' kL_law_3 1 rfl
theorem dL_law_624 : decode code 624 = .ok (.iaload, 1) := getB' kL_law_3 2 rfl
theorem dL_law_625 : decode code 625 = .ok (.invokevirtual 49, 3) := getB' kL_law_3 3 rfl
theorem dL_law_628 : decode code 628 = .ok (.pop, 1) := getB' kL_law_3 4 rfl
theorem dL_law_629 : decode code 629 = .ok (.goto 2116, 3) := getB' kL_law_3 5 rfl
theorem dL_law_632 : decode code 632 = .ok (.aload_n 1, 1) := getB' kL_law_3 6 rfl
theorem dL_law_633 : decode code 633 = .ok (.aload_n 0, 1) := getB' kL_law_3 7 rfl
theorem dL_law_634 : decode code 634 = .ok (.iload_n 3, 1) := getB' kL_law_3 8 rfl
theorem dL_law_635 : decode code 635 = .ok (.iconst 1, 1) := getB' kL_law_3 9 rfl
theorem dL_law_636 : decode code 636 = .ok (.iadd, 1) := getB' kL_law_3 10 rfl
theorem dL_law_637 : decode code 637 = .ok (.iaload, 1) := getB' kL_law_3 11 rfl
theorem dL_law_638 : decode code 638 = .ok (.aload_n 0, 1) := getB' kL_law_3 12 rfl
theorem dL_law_639 : decode code 639 = .ok (.iload_n 3, 1) := getB' kL_law_3 13 rfl
theorem dL_law_640 : decode code 640 = .ok (.iconst 2, 1) := getB' kL_law_3 14 rfl
theorem dL_law_641 : decode code 641 = .ok (.iadd, 1) := getB' kL_law_3 15 rfl
theorem dL_law_642 : decode code 642 = .ok (.iaload, 1) := getB' kL_law_3 16 rfl
theorem dL_law_643 : decode code 643 = .ok (.aload_n 0, 1) := getB' kL_law_3 17 rfl
theorem dL_law_644 : decode code 644 = .ok (.iload_n 3, 1) := getB' kL_law_3 18 rfl
theorem dL_law_645 : decode code 645 = .ok (.iconst 3, 1) := getB' kL_law_3 19 rfl
theorem dL_law_646 : decode code 646 = .ok (.iadd, 1) := getB' kL_law_3 20 rfl
theorem dL_law_647 : decode code 647 = .ok (.iaload, 1) := getB' kL_law_3 21 rfl
theorem dL_law_648 : decode code 648 = .ok (.invokevirtual 50, 3) := getB' kL_law_3 22 rfl
theorem dL_law_651 : decode code 651 = .ok (.pop, 1) := getB' kL_law_3 23 rfl
theorem dL_law_652 : decode code 652 = .ok (.aload_n 2, 1) := getB' kL_law_3 24 rfl
theorem dL_law_653 : decode code 653 = .ok (.aload_n 0, 1) := getB' kL_law_3 25 rfl
theorem dL_law_654 : decode code 654 = .ok (.iload_n 3, 1) := getB' kL_law_3 26 rfl
theorem dL_law_655 : decode code 655 = .ok (.iconst 1, 1) := getB' kL_law_3 27 rfl
theorem dL_law_656 : decode code 656 = .ok (.iadd, 1) := getB' kL_law_3 28 rfl
theorem dL_law_657 : decode code 657 = .ok (.iaload, 1) := getB' kL_law_3 29 rfl
theorem dL_law_658 : decode code 658 = .ok (.aload_n 0, 1) := getB' kL_law_3 30 rfl
theorem dL_law_659 : decode code 659 = .ok (.iload_n 3, 1) := getB' kL_law_3 31 rfl
theorem dL_law_660 : decode code 660 = .ok (.iconst 2, 1) := getB' kL_law_3 32 rfl
theorem dL_law_661 : decode code 661 = .ok (.iadd, 1) := getB' kL_law_3 33 rfl
theorem dL_law_662 : decode code 662 = .ok (.iaload, 1) := getB' kL_law_3 34 rfl
theorem dL_law_663 : decode code 663 = .ok (.aload_n 0, 1) := getB' kL_law_3 35 rfl
theorem dL_law_664 : decode code 664 = .ok (.iload_n 3, 1) := getB' kL_law_3 36 rfl
theorem dL_law_665 : decode code 665 = .ok (.iconst 3, 1) := getB' kL_law_3 37 rfl
theorem dL_law_666 : decode code 666 = .ok (.iadd, 1) := getB' kL_law_3 38 rfl
theorem dL_law_667 : decode code 667 = .ok (.iaload, 1) := getB' kL_law_3 39 rfl
theorem dL_law_668 : decode code 668 = .ok (.invokevirtual 54, 3) := getB' kL_law_3 40 rfl
theorem dL_law_671 : decode code 671 = .ok (.pop, 1) := getB' kL_law_3 41 rfl
theorem dL_law_672 : decode code 672 = .ok (.goto 2073, 3) := getB' kL_law_3 42 rfl
theorem dL_law_675 : decode code 675 = .ok (.aload_n 1, 1) := getB' kL_law_3 43 rfl
theorem dL_law_676 : decode code 676 = .ok (.aload_n 0, 1) := getB' kL_law_3 44 rfl
theorem dL_law_677 : decode code 677 = .ok (.iload_n 3, 1) := getB' kL_law_3 45 rfl
theorem dL_law_678 : decode code 678 = .ok (.iconst 1, 1) := getB' kL_law_3 46 rfl
theorem dL_law_679 : decode code 679 = .ok (.iadd, 1) := getB' kL_law_3 47 rfl
theorem dL_law_680 : decode code 680 = .ok (.iaload, 1) := getB' kL_law_3 48 rfl
theorem dL_law_681 : decode code 681 = .ok (.aload_n 0, 1) := getB' kL_law_3 49 rfl
theorem dL_law_682 : decode code 682 = .ok (.iload_n 3, 1) := getB' kL_law_3 50 rfl
theorem dL_law_683 : decode code 683 = .ok (.iconst 2, 1) := getB' kL_law_3 51 rfl
theorem dL_law_684 : decode code 684 = .ok (.iadd, 1) := getB' kL_law_3 52 rfl
theorem dL_law_685 : decode code 685 = .ok (.iaload, 1) := getB' kL_law_3 53 rfl
theorem dL_law_686 : decode code 686 = .ok (.ifCond .eq 7, 3) := getB' kL_law_3 54 rfl
theorem dL_law_689 : decode code 689 = .ok (.iconst 1, 1) := getB' kL_law_3 55 rfl
theorem dL_law_690 : decode code 690 = .ok (.goto 4, 3) := getB' kL_law_3 56 rfl
theorem dL_law_693 : decode code 693 = .ok (.iconst 0, 1) := getB' kL_law_3 57 rfl
theorem dL_law_694 : decode code 694 = .ok (.invokevirtual 55, 3) := getB' kL_law_3 58 rfl
theorem dL_law_697 : decode code 697 = .ok (.pop, 1) := getB' kL_law_3 59 rfl
theorem dL_law_698 : decode code 698 = .ok (.aload_n 2, 1) := getB' kL_law_3 60 rfl
theorem dL_law_699 : decode code 699 = .ok (.aload_n 0, 1) := getB' kL_law_3 61 rfl
theorem dL_law_700 : decode code 700 = .ok (.iload_n 3, 1) := getB' kL_law_3 62 rfl
theorem dL_law_701 : decode code 701 = .ok (.iconst 1, 1) := getB' kL_law_3 63 rfl
theorem dL_law_702 : decode code 702 = .ok (.iadd, 1) := getB' kL_law_3 64 rfl
theorem dL_law_703 : decode code 703 = .ok (.iaload, 1) := getB' kL_law_3 65 rfl
theorem dL_law_704 : decode code 704 = .ok (.aload_n 0, 1) := getB' kL_law_3 66 rfl
theorem dL_law_705 : decode code 705 = .ok (.iload_n 3, 1) := getB' kL_law_3 67 rfl
theorem dL_law_706 : decode code 706 = .ok (.iconst 2, 1) := getB' kL_law_3 68 rfl
theorem dL_law_707 : decode code 707 = .ok (.iadd, 1) := getB' kL_law_3 69 rfl
theorem dL_law_708 : decode code 708 = .ok (.iaload, 1) := getB' kL_law_3 70 rfl
theorem dL_law_709 : decode code 709 = .ok (.ifCond .eq 7, 3) := getB' kL_law_3 71 rfl
theorem dL_law_712 : decode code 712 = .ok (.iconst 1, 1) := getB' kL_law_3 72 rfl
theorem dL_law_713 : decode code 713 = .ok (.goto 4, 3) := getB' kL_law_3 73 rfl
theorem dL_law_716 : decode code 716 = .ok (.iconst 0, 1) := getB' kL_law_3 74 rfl
theorem dL_law_717 : decode code 717 = .ok (.invokevirtual 59, 3) := getB' kL_law_3 75 rfl
theorem dL_law_720 : decode code 720 = .ok (.pop, 1) := getB' kL_law_3 76 rfl
theorem dL_law_721 : decode code 721 = .ok (.goto 2024, 3) := getB' kL_law_3 77 rfl
theorem dL_law_724 : decode code 724 = .ok (.aload_n 1, 1) := getB' kL_law_3 78 rfl
theorem dL_law_725 : decode code 725 = .ok (.aload_n 0, 1) := getB' kL_law_3 79 rfl
theorem dL_law_726 : decode code 726 = .ok (.iload_n 3, 1) := getB' kL_law_3 80 rfl
theorem dL_law_727 : decode code 727 = .ok (.iconst 1, 1) := getB' kL_law_3 81 rfl
theorem dL_law_728 : decode code 728 = .ok (.iadd, 1) := getB' kL_law_3 82 rfl
theorem dL_law_729 : decode code 729 = .ok (.iaload, 1) := getB' kL_law_3 83 rfl
theorem dL_law_730 : decode code 730 = .ok (.aload_n 0, 1) := getB' kL_law_3 84 rfl
theorem dL_law_731 : decode code 731 = .ok (.iload_n 3, 1) := getB' kL_law_3 85 rfl
theorem dL_law_732 : decode code 732 = .ok (.iconst 2, 1) := getB' kL_law_3 86 rfl
theorem dL_law_733 : decode code 733 = .ok (.iadd, 1) := getB' kL_law_3 87 rfl
theorem dL_law_734 : decode code 734 = .ok (.iaload, 1) := getB' kL_law_3 88 rfl
theorem dL_law_735 : decode code 735 = .ok (.aload_n 0, 1) := getB' kL_law_3 89 rfl
theorem dL_law_736 : decode code 736 = .ok (.iload_n 3, 1) := getB' kL_law_3 90 rfl
theorem dL_law_737 : decode code 737 = .ok (.iconst 3, 1) := getB' kL_law_3 91 rfl
theorem dL_law_738 : decode code 738 = .ok (.iadd, 1) := getB' kL_law_3 92 rfl
theorem dL_law_739 : decode code 739 = .ok (.iaload, 1) := getB' kL_law_3 93 rfl
theorem dL_law_740 : decode code 740 = .ok (.aload_n 0, 1) := getB' kL_law_3 94 rfl
theorem dL_law_741 : decode code 741 = .ok (.iload_n 3, 1) := getB' kL_law_3 95 rfl
theorem dL_law_742 : decode code 742 = .ok (.iconst 4, 1) := getB' kL_law_3 96 rfl
theorem dL_law_743 : decode code 743 = .ok (.iadd, 1) := getB' kL_law_3 97 rfl
theorem dL_law_744 : decode code 744 = .ok (.iaload, 1) := getB' kL_law_3 98 rfl
theorem dL_law_745 : decode code 745 = .ok (.aload_n 0, 1) := getB' kL_law_3 99 rfl
