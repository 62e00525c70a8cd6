def LX12_closesSums_0 : List (Nat × Instr × Nat) := [(0, .aload_n 0, 1), (1, .invokevirtual 476, 3), (4, .iconst 4, 1), (5, .if_icmp .lt 12, 3), (8, .aload_n 0, 1), (9, .invokevirtual 476, 3), (12, .bipush 6, 2), (14, .if_icmp .le 23, 3), (17, .iload_n 1, 1), (18, .ifCond .eq 41, 3), (21, .aload_n 0, 1), (22, .invokevirtual 476, 3)]
theorem kX12_closesSums_0 : chkB cX12_closesSums LX12_closesSums_0 = true := by decide +kernel
theorem dX12_closesSums_0 : decode cX12_closesSums 0 = .ok (.aload_n 0, 1) := getB' kX12_closesSums_0 0 rfl
theorem dX12_closesSums_1 : decode cX12_closesSums 1 = .ok (.invokevirtual 476, 3) := getB' kX12_closesSums_0 1 rfl
theorem dX12_closesSums_4 : decode cX12_closesSums 4 = .ok (.iconst 4, 1) := getB' kX12_closesSums_0 2 rfl
theorem dX12_closesSums_5 : decode cX12_closesSums 5 = .ok (.if_icmp .lt 12, 3) := getB' kX12_closesSums_0 3 rfl
theorem dX12_closesSums_8 : decode cX12_closesSums 8 = .ok (.aload_n 0, 1) := getB' kX12_closesSums_0 4 rfl
theorem dX12_closesSums_9 : decode cX12_closesSums 9 = .ok (.invokevirtual 476, 3) := getB' kX12_closesSums_0 5 rfl
theorem dX12_closesSums_12 : decode cX12_closesSums 12 = .ok (.bipush 6, 2) := getB' kX12_closesSums_0 6 rfl
theorem dX12_closesSums_14 : decode cX12_closesSums 14 = .ok (.if_icmp .le 23, 3) := getB' kX12_closesSums_0 7 rfl
theorem dX12_closesSums_17 : decode cX12_closesSums 17 = .ok (.iload_n 1, 1) := getB' kX12_closesSums_0 8 rfl
theorem dX12_closesSums_18 : decode cX12_closesSums 18 = .ok (.ifCond .eq 41, 3) := getB' kX12_closesSums_0 9 rfl
theorem dX12_closesSums_21 : decode cX12_closesSums 21 = .ok (.aload_n 0, 1) := getB' kX12_closesSums_0 10 rfl
theorem dX12_closesSums_22 : decode cX12_closesSums 22 = .ok (.invokevirtual 476, 3) := getB' kX12_closesSums_0 11 rfl
def LX12_closesSums_1 : List (Nat × Instr × Nat) := [(25, .iconst 2, 1), (26, .if_icmp .eq 11, 3), (29, .aload_n 0, 1), (30, .invokevirtual 476, 3), (33, .iconst 3, 1), (34, .if_icmp .ne 25, 3), (37, .aload_n 0, 1), (38, .aload_n 0, 1), (39, .invokevirtual 476, 3), (42, .iconst 0, 1), (43, .invokevirtual 479, 3), (46, .aload_n 0, 1)]
theorem kX12_closesSums_1 : chkB cX12_closesSums LX12_closesSums_1 = true := by decide +kernel
theorem dX12_closesSums_25 : decode cX12_closesSums 25 = .ok (.iconst 2, 1) := getB' kX12_closesSums_1 0 rfl
theorem dX12_closesSums_26 : decode cX12_closesSums 26 = .ok (.if_icmp .eq 11, 3) := getB' kX12_closesSums_1 1 rfl
theorem dX12_closesSums_29 : decode cX12_closesSums 29 = .ok (.aload_n 0, 1) := getB' kX12_closesSums_1 2 rfl
theorem dX12_closesSums_30 : decode cX12_closesSums 30 = .ok (.invokevirtual 476, 3) := getB' kX12_closesSums_1 3 rfl
theorem dX12_closesSums_33 : decode cX12_closesSums 33 = .ok (.iconst 3, 1) := getB' kX12_closesSums_1 4 rfl
theorem dX12_closesSums_34 : decode cX12_closesSums 34 = .ok (.if_icmp .ne 25, 3) := getB' kX12_closesSums_1 5 rfl
theorem dX12_closesSums_37 : decode cX12_closesSums 37 = .ok (.aload_n 0, 1) := getB' kX12_closesSums_1 6 rfl
theorem dX12_closesSums_38 : decode cX12_closesSums 38 = .ok (.aload_n 0, 1) := getB' kX12_closesSums_1 7 rfl
theorem dX12_closesSums_39 : decode cX12_closesSums 39 = .ok (.invokevirtual 476, 3) := getB' kX12_closesSums_1 8 rfl
theorem dX12_closesSums_42 : decode cX12_closesSums 42 = .ok (.iconst 0, 1) := getB' kX12_closesSums_1 9 rfl
theorem dX12_closesSums_43 : decode cX12_closesSums 43 = .ok (.invokevirtual 479, 3) := getB' kX12_closesSums_1 10 rfl
theorem dX12_closesSums_46 : decode cX12_closesSums 46 = .ok (.aload_n 0, 1) := getB' kX12_closesSums_1 11 rfl
def LX12_closesSums_2 : List (Nat × Instr × Nat) := [(47, .aload_n 0, 1), (48, .getfield 473, 3), (51, .iconst 1, 1), (52, .isub, 1), (53, .putfield 473, 3), (56, .goto (-56), 3), (59, .return_, 1)]
theorem kX12_closesSums_2 : chkB cX12_closesSums LX12_closesSums_2 = true := by decide +kernel
theorem dX12_closesSums_47 : decode cX12_closesSums 47 = .ok (.aload_n 0, 1) := getB' kX12_closesSums_2 0 rfl
theorem dX12_closesSums_48 : decode cX12_closesSums 48 = .ok (.getfield 473, 3) := getB' kX12_closesSums_2 1 rfl
theorem dX12_closesSums_51 : decode cX12_closesSums 51 = .ok (.iconst 1, 1) := getB' kX12_closesSums_2 2 rfl
theorem dX12_closesSums_52 : decode cX12_closesSums 52 = .ok (.isub, 1) := getB' kX12_closesSums_2 3 rfl
theorem dX12_closesSums_53 : decode cX12_closesSums 53 = .ok (.putfield 473, 3) := getB' kX12_closesSums_2 4 rfl
theorem dX12_closesSums_56 : decode cX12_closesSums 56 = .ok (.goto (-56), 3) := getB' kX12_closesSums_2 5 rfl
theorem dX12_closesSums_59 : decode cX12_closesSums 59 = .ok (.return_, 1) := getB' kX12_closesSums_2 6 rfl
def LX12_readsFactor_0 : List (Nat × Instr × Nat) := [(0, .aload_n 0, 1), (1, .invokevirtual 449, 3), (4, .bipush 91, 2), (6, .if_icmp .ne 14, 3), (9, .aload_n 0, 1), (10, .bipush 14, 2), (12, .invokevirtual 482, 3), (15, .ifCond .ne (-15), 3), (18, .iconst 0, 1), (19, .ireturn, 1), (20, .aload_n 0, 1), (21, .invokevirtual 462, 3)]
theorem kX12_readsFactor_0 : chkB cX12_readsFactor LX12_readsFactor_0 = true := by decide +kernel
theorem dX12_readsFactor_0 : decode cX12_readsFactor 0 = .ok (.aload_n 0, 1) := getB' kX12_readsFactor_0 0 rfl
theorem dX12_readsFactor_1 : decode cX12_readsFactor 1 = .ok (.invokevirtual 449, 3) := getB' kX12_readsFactor_0 1 rfl
theorem dX12_readsFactor_4 : decode cX12_readsFactor 4 = .ok (.bipush 91, 2) := getB' kX12_readsFactor_0 2 rfl
theorem dX12_readsFactor_6 : decode cX12_readsFactor 6 = .ok (.if_icmp .ne 14, 3) := getB' kX12_readsFactor_0 3 rfl
theorem dX12_readsFactor_9 : decode cX12_readsFactor 9 = .ok (.aload_n 0, 1) := getB' kX12_readsFactor_0 4 rfl
theorem dX12_readsFactor_10 : decode cX12_readsFactor 10 = .ok (.bipush 14, 2) := getB' kX12_readsFactor_0 5 rfl
theorem dX12_readsFactor_12 : decode cX12_readsFactor 12 = .ok (.invokevirtual 482, 3) := getB' kX12_readsFactor_0 6 rfl
theorem dX12_readsFactor_15 : decode cX12_readsFactor 15 = .ok (.ifCond .ne (-15), 3) := getB' kX12_readsFactor_0 7 rfl
theorem dX12_readsFactor_18 : decode cX12_readsFactor 18 = .ok (.iconst 0, 1) := getB' kX12_readsFactor_0 8 rfl
theorem dX12_readsFactor_19 : decode cX12_readsFactor 19 = .ok (.ireturn, 1) := getB' kX12_readsFactor_0 9 rfl
theorem dX12_readsFactor_20 : decode cX12_readsFactor 20 = .ok (.aload_n 0, 1) := getB' kX12_readsFactor_0 10 rfl
theorem dX12_readsFactor_21 : decode cX12_readsFactor 21 = .ok (.invokevirtual 462, 3) := getB' kX12_readsFactor_0 11 rfl
def LX12_readsFactor_1 : List (Nat × Instr × Nat) := [(24, .ifCond .eq 26, 3), (27, .aload_n 0, 1), (28, .ldc_w 485, 3), (31, .invokevirtual 486, 3), (34, .ifCond .ne 5, 3), (37, .iconst 0, 1), (38, .ireturn, 1), (39, .aload_n 0, 1), (40, .iconst 0, 1), (41, .aload_n 0, 1), (42, .getfield 459, 3), (45, .invokevirtual 479, 3)]
theorem kX12_readsFactor_1 : chkB cX12_readsFactor LX12_readsFactor_1 = true := by decide +kernel
theorem dX12_readsFactor_24 : decode cX12_readsFactor 24 = .ok (.ifCond .eq 26, 3) := getB' kX12_readsFactor_1 0 rfl
theorem dX12_readsFactor_27 : decode cX12_readsFactor 27 = .ok (.aload_n 0, 1) := getB' kX12_readsFactor_1 1 rfl
theorem dX12_readsFactor_28 : decode cX12_readsFactor 28 = .ok (.ldc_w 485, 3) := getB' kX12_readsFactor_1 2 rfl
theorem dX12_readsFactor_31 : decode cX12_readsFactor 31 = .ok (.invokevirtual 486, 3) := getB' kX12_readsFactor_1 3 rfl
theorem dX12_readsFactor_34 : decode cX12_readsFactor 34 = .ok (.ifCond .ne 5, 3) := getB' kX12_readsFactor_1 4 rfl
theorem dX12_readsFactor_37 : decode cX12_readsFactor 37 = .ok (.iconst 0, 1) := getB' kX12_readsFactor_1 5 rfl
theorem dX12_readsFactor_38 : decode cX12_readsFactor 38 = .ok (.ireturn, 1) := getB' kX12_readsFactor_1 6 rfl
theorem dX12_readsFactor_39 : decode cX12_readsFactor 39 = .ok (.aload_n 0, 1) := getB' kX12_readsFactor_1 7 rfl
theorem dX12_readsFactor_40 : decode cX12_readsFactor 40 = .ok (.iconst 0, 1) := getB' kX12_readsFactor_1 8 rfl
theorem dX12_readsFactor_41 : decode cX12_readsFactor 41 = .ok (.aload_n 0, 1) := getB' kX12_readsFactor_1 9 rfl
theorem dX12_readsFactor_42 : decode cX12_readsFactor 42 = .ok (.getfield 459, 3) := getB' kX12_readsFactor_1 10 rfl
theorem dX12_readsFactor_45 : decode cX12_readsFactor 45 = .ok (.invokevirtual 479, 3) := getB' kX12_readsFactor_1 11 rfl
def LX12_readsFactor_2 : List (Nat × Instr × Nat) := [(48, .iconst 1, 1), (49, .ireturn, 1), (50, .aload_n 0, 1), (51, .invokevirtual 449, 3), (54, .iconst (-1), 1), (55, .if_icmp .ne 7, 3), (58, .iconst (-1), 1), (59, .goto 10, 3), (62, .aload_n 0, 1), (63, .invokevirtual 449, 3), (66, .invokestatic 489, 3), (69, .istore_n 1, 1)]
theorem kX12_readsFactor_2 : chkB cX12_readsFactor LX12_readsFactor_2 = true := by decide +kernel
theorem dX12_readsFactor_48 : decode cX12_readsFactor 48 = .ok (.iconst 1, 1) := getB' kX12_readsFactor_2 0 rfl
theorem dX12_readsFactor_49 : decode cX12_readsFactor 49 = .ok (.ireturn, 1) := getB' kX12_readsFactor_2 1 rfl
theorem dX12_readsFactor_50 : decode cX12_readsFactor 50 = .ok (.aload_n 0, 1) := getB' kX12_readsFactor_2 2 rfl
theorem dX12_readsFactor_51 : decode cX12_readsFactor 51 = .ok (.invokevirtual 449, 3) := getB' kX12_readsFactor_2 3 rfl
theorem dX12_readsFactor_54 : decode cX12_readsFactor 54 = .ok (.iconst (-1), 1) := getB' kX12_readsFactor_2 4 rfl
theorem dX12_readsFactor_55 : decode cX12_readsFactor 55 = .ok (.if_icmp .ne 7, 3) := getB' kX12_readsFactor_2 5 rfl
theorem dX12_readsFactor_58 : decode cX12_readsFactor 58 = .ok (.iconst (-1), 1) := getB' kX12_readsFactor_2 6 rfl
theorem dX12_readsFactor_59 : decode cX12_readsFactor 59 = .ok (.goto 10, 3) := getB' kX12_readsFactor_2 7 rfl
theorem dX12_readsFactor_62 : decode cX12_readsFactor 62 = .ok (.aload_n 0, 1) := getB' kX12_readsFactor_2 8 rfl
theorem dX12_readsFactor_63 : decode cX12_readsFactor 63 = .ok (.invokevirtual 449, 3) := getB' kX12_readsFactor_2 9 rfl
theorem dX12_readsFactor_66 : decode cX12_readsFactor 66 = .ok (.invokestatic 489, 3) := getB' kX12_readsFactor_2 10 rfl
theorem dX12_readsFactor_69 : decode cX12_readsFactor 69 = .ok (.istore_n 1, 1) := getB' kX12_readsFactor_2 11 rfl
def LX12_readsFactor_3 : List (Nat × Instr × Nat) := [(70, .iload_n 1, 1), (71, .iconst (-1), 1), (72, .if_icmp .ne 13, 3), (75, .aload_n 0, 1), (76, .iconst 1, 1), (77, .aload_n 0, 1), (78, .getfield 443, 3), (81, .invokevirtual 456, 3), (84, .ireturn, 1), (85, .aload_n 0, 1), (86, .iconst 1, 1), (87, .iload_n 1, 1)]
theorem kX12_readsFactor_3 : chkB cX12_readsFactor LX12_readsFactor_3 = true := by decide +kernel
theorem dX12_readsFactor_70 : decode cX12_readsFactor 70 = .ok (.iload_n 1, 1) := getB' kX12_readsFactor_3 0 rfl
theorem dX12_readsFactor_71 : decode cX12_readsFactor 71 = .ok (.iconst (-1), 1) := getB' kX12_readsFactor_3 1 rfl
theorem dX12_readsFactor_72 : decode cX12_readsFactor 72 = .ok (.if_icmp .ne 13, 3) := getB' kX12_readsFactor_3 2 rfl
theorem dX12_readsFactor_75 : decode cX12_readsFactor 75 = .ok (.aload_n 0, 1) := getB' kX12_readsFactor_3 3 rfl
theorem dX12_readsFactor_76 : decode cX12_readsFactor 76 = .ok (.iconst 1, 1) := getB' kX12_readsFactor_3 4 rfl
theorem dX12_readsFactor_77 : decode cX12_readsFactor 77 = .ok (.aload_n 0, 1) := getB' kX12_readsFactor_3 5 rfl
theorem dX12_readsFactor_78 : decode cX12_readsFactor 78 = .ok (.getfield 443, 3) := getB' kX12_readsFactor_3 6 rfl
theorem dX12_readsFactor_81 : decode cX12_readsFactor 81 = .ok (.invokevirtual 456, 3) := getB' kX12_readsFactor_3 7 rfl
theorem dX12_readsFactor_84 : decode cX12_readsFactor 84 = .ok (.ireturn, 1) := getB' kX12_readsFactor_3 8 rfl
theorem dX12_readsFactor_85 : decode cX12_readsFactor 85 = .ok (.aload_n 0, 1) := getB' kX12_readsFactor_3 9 rfl
theorem dX12_readsFactor_86 : decode cX12_readsFactor 86 = .ok (.iconst 1, 1) := getB' kX12_readsFactor_3 10 rfl
theorem dX12_readsFactor_87 : decode cX12_readsFactor 87 = .ok (.iload_n 1, 1) := getB' kX12_readsFactor_3 11 rfl
def LX12_readsFactor_4 : List (Nat × Instr × Nat) := [(88, .invokevirtual 479, 3), (91, .aload_n 0, 1), (92, .aload_n 0, 1), (93, .getfield 443, 3), (96, .iconst 1, 1), (97, .iadd, 1), (98, .putfield 443, 3), (101, .iconst 1, 1), (102, .ireturn, 1)]
theorem kX12_readsFactor_4 : chkB cX12_readsFactor LX12_readsFactor_4 = true := by decide +kernel
theorem dX12_readsFactor_88 : decode cX12_readsFactor 88 = .ok (.invokevirtual 479, 3) := getB' kX12_readsFactor_4 0 rfl
theorem dX12_readsFactor_91 : decode cX12_readsFactor 91 = .ok (.aload_n 0, 1) := getB' kX12_readsFactor_4 1 rfl
theorem dX12_readsFactor_92 : decode cX12_readsFactor 92 = .ok (.aload_n 0, 1) := getB' kX12_readsFactor_4 2 rfl
theorem dX12_readsFactor_93 : decode cX12_readsFactor 93 = .ok (.getfield 443, 3) := getB' kX12_readsFactor_4 3 rfl
theorem dX12_readsFactor_96 : decode cX12_readsFactor 96 = .ok (.iconst 1, 1) := getB' kX12_readsFactor_4 4 rfl
theorem dX12_readsFactor_97 : decode cX12_readsFactor 97 = .ok (.iadd, 1) := getB' kX12_readsFactor_4 5 rfl
theorem dX12_readsFactor_98 : decode cX12_readsFactor 98 = .ok (.putfield 443, 3) := getB' kX12_readsFactor_4 6 rfl
theorem dX12_readsFactor_101 : decode cX12_readsFactor 101 = .ok (.iconst 1, 1) := getB' kX12_readsFactor_4 7 rfl
theorem dX12_readsFactor_102 : decode cX12_readsFactor 102 = .ok (.ireturn, 1) := getB' kX12_readsFactor_4 8 rfl
def LX12_readsSum_0 : List (Nat × Instr × Nat) := [(0, .aload_n 0, 1), (1, .getfield 473, 3), (4, .istore_n 1, 1), (5, .aload_n 0, 1), (6, .invokevirtual 492, 3), (9, .ifCond .ne 5, 3), (12, .iconst 0, 1), (13, .ireturn, 1), (14, .aload_n 0, 1), (15, .invokevirtual 449, 3), (18, .iconst (-1), 1), (19, .if_icmp .ne 7, 3)]
theorem kX12_readsSum_0 : chkB cX12_readsSum LX12_readsSum_0 = true := by decide +kernel
theorem dX12_readsSum_0 : decode cX12_readsSum 0 = .ok (.aload_n 0, 1) := getB' kX12_readsSum_0 0 rfl
theorem dX12_readsSum_1 : decode cX12_readsSum 1 = .ok (.getfield 473, 3) := getB' kX12_readsSum_0 1 rfl
theorem dX12_readsSum_4 : decode cX12_readsSum 4 = .ok (.istore_n 1, 1) := getB' kX12_readsSum_0 2 rfl
theorem dX12_readsSum_5 : decode cX12_readsSum 5 = .ok (.aload_n 0, 1) := getB' kX12_readsSum_0 3 rfl
theorem dX12_readsSum_6 : decode cX12_readsSum 6 = .ok (.invokevirtual 492, 3) := getB' kX12_readsSum_0 4 rfl
theorem dX12_readsSum_9 : decode cX12_readsSum 9 = .ok (.ifCond .ne 5, 3) := getB' kX12_readsSum_0 5 rfl
theorem dX12_readsSum_12 : decode cX12_readsSum 12 = .ok (.iconst 0, 1) := getB' kX12_readsSum_0 6 rfl
theorem dX12_readsSum_13 : decode cX12_readsSum 13 = .ok (.ireturn, 1) := getB' kX12_readsSum_0 7 rfl
theorem dX12_readsSum_14 : decode cX12_readsSum 14 = .ok (.aload_n 0, 1) := getB' kX12_readsSum_0 8 rfl
theorem dX12_readsSum_15 : decode cX12_readsSum 15 = .ok (.invokevirtual 449, 3) := getB' kX12_readsSum_0 9 rfl
theorem dX12_readsSum_18 : decode cX12_readsSum 18 = .ok (.iconst (-1), 1) := getB' kX12_readsSum_0 10 rfl
theorem dX12_readsSum_19 : decode cX12_readsSum 19 = .ok (.if_icmp .ne 7, 3) := getB' kX12_readsSum_0 11 rfl
def LX12_readsSum_1 : List (Nat × Instr × Nat) := [(22, .iconst (-1), 1), (23, .goto 10, 3), (26, .aload_n 0, 1), (27, .invokevirtual 449, 3), (30, .invokestatic 495, 3), (33, .istore_n 2, 1), (34, .iload_n 2, 1), (35, .iconst (-1), 1), (36, .if_icmp .eq 60, 3), (39, .aload_n 0, 1), (40, .iload_n 2, 1), (41, .iconst 4, 1)]
theorem kX12_readsSum_1 : chkB cX12_readsSum LX12_readsSum_1 = true := by decide +kernel
theorem dX12_readsSum_22 : decode cX12_readsSum 22 = .ok (.iconst (-1), 1) := getB' kX12_readsSum_1 0 rfl
theorem dX12_readsSum_23 : decode cX12_readsSum 23 = .ok (.goto 10, 3) := getB' kX12_readsSum_1 1 rfl
theorem dX12_readsSum_26 : decode cX12_readsSum 26 = .ok (.aload_n 0, 1) := getB' kX12_readsSum_1 2 rfl
theorem dX12_readsSum_27 : decode cX12_readsSum 27 = .ok (.invokevirtual 449, 3) := getB' kX12_readsSum_1 3 rfl
theorem dX12_readsSum_30 : decode cX12_readsSum 30 = .ok (.invokestatic 495, 3) := getB' kX12_readsSum_1 4 rfl
theorem dX12_readsSum_33 : decode cX12_readsSum 33 = .ok (.istore_n 2, 1) := getB' kX12_readsSum_1 5 rfl
theorem dX12_readsSum_34 : decode cX12_readsSum 34 = .ok (.iload_n 2, 1) := getB' kX12_readsSum_1 6 rfl
theorem dX12_readsSum_35 : decode cX12_readsSum 35 = .ok (.iconst (-1), 1) := getB' kX12_readsSum_1 7 rfl
theorem dX12_readsSum_36 : decode cX12_readsSum 36 = .ok (.if_icmp .eq 60, 3) := getB' kX12_readsSum_1 8 rfl
theorem dX12_readsSum_39 : decode cX12_readsSum 39 = .ok (.aload_n 0, 1) := getB' kX12_readsSum_1 9 rfl
theorem dX12_readsSum_40 : decode cX12_readsSum 40 = .ok (.iload_n 2, 1) := getB' kX12_readsSum_1 10 rfl
theorem dX12_readsSum_41 : decode cX12_readsSum 41 = .ok (.iconst 4, 1) := getB' kX12_readsSum_1 11 rfl
def LX12_readsSum_2 : List (Nat × Instr × Nat) := [(42, .if_icmp .ge 7, 3), (45, .iconst 1, 1), (46, .goto 4, 3), (49, .iconst 0, 1), (50, .invokevirtual 498, 3), (53, .aload_n 0, 1), (54, .getfield 91, 3), (57, .aload_n 0, 1), (58, .getfield 473, 3), (61, .ldc_w 469, 3), (64, .iload_n 2, 1), (65, .imul, 1)]
theorem kX12_readsSum_2 : chkB cX12_readsSum LX12_readsSum_2 = true := by decide +kernel
theorem dX12_readsSum_42 : decode cX12_readsSum 42 = .ok (.if_icmp .ge 7, 3) := getB' kX12_readsSum_2 0 rfl
theorem dX12_readsSum_45 : decode cX12_readsSum 45 = .ok (.iconst 1, 1) := getB' kX12_readsSum_2 1 rfl
theorem dX12_readsSum_46 : decode cX12_readsSum 46 = .ok (.goto 4, 3) := getB' kX12_readsSum_2 2 rfl
theorem dX12_readsSum_49 : decode cX12_readsSum 49 = .ok (.iconst 0, 1) := getB' kX12_readsSum_2 3 rfl
theorem dX12_readsSum_50 : decode cX12_readsSum 50 = .ok (.invokevirtual 498, 3) := getB' kX12_readsSum_2 4 rfl
theorem dX12_readsSum_53 : decode cX12_readsSum 53 = .ok (.aload_n 0, 1) := getB' kX12_readsSum_2 5 rfl
theorem dX12_readsSum_54 : decode cX12_readsSum 54 = .ok (.getfield 91, 3) := getB' kX12_readsSum_2 6 rfl
theorem dX12_readsSum_57 : decode cX12_readsSum 57 = .ok (.aload_n 0, 1) := getB' kX12_readsSum_2 7 rfl
theorem dX12_readsSum_58 : decode cX12_readsSum 58 = .ok (.getfield 473, 3) := getB' kX12_readsSum_2 8 rfl
theorem dX12_readsSum_61 : decode cX12_readsSum 61 = .ok (.ldc_w 469, 3) := getB' kX12_readsSum_2 9 rfl
theorem dX12_readsSum_64 : decode cX12_readsSum 64 = .ok (.iload_n 2, 1) := getB' kX12_readsSum_2 10 rfl
theorem dX12_readsSum_65 : decode cX12_readsSum 65 = .ok (.imul, 1) := getB' kX12_readsSum_2 11 rfl
def LX12_readsSum_3 : List (Nat × Instr × Nat) := [(66, .iastore, 1), (67, .aload_n 0, 1), (68, .aload_n 0, 1), (69, .getfield 473, 3), (72, .iconst 1, 1), (73, .iadd, 1), (74, .putfield 473, 3), (77, .aload_n 0, 1), (78, .aload_n 0, 1), (79, .getfield 443, 3), (82, .iconst 1, 1), (83, .iadd, 1)]
theorem kX12_readsSum_3 : chkB cX12_readsSum LX12_readsSum_3 = true := by decide +kernel
theorem dX12_readsSum_66 : decode cX12_readsSum 66 = .ok (.iastore, 1) := getB' kX12_readsSum_3 0 rfl
theorem dX12_readsSum_67 : decode cX12_readsSum 67 = .ok (.aload_n 0, 1) := getB' kX12_readsSum_3 1 rfl
theorem dX12_readsSum_68 : decode cX12_readsSum 68 = .ok (.aload_n 0, 1) := getB' kX12_readsSum_3 2 rfl
theorem dX12_readsSum_69 : decode cX12_readsSum 69 = .ok (.getfield 473, 3) := getB' kX12_readsSum_3 3 rfl
theorem dX12_readsSum_72 : decode cX12_readsSum 72 = .ok (.iconst 1, 1) := getB' kX12_readsSum_3 4 rfl
theorem dX12_readsSum_73 : decode cX12_readsSum 73 = .ok (.iadd, 1) := getB' kX12_readsSum_3 5 rfl
theorem dX12_readsSum_74 : decode cX12_readsSum 74 = .ok (.putfield 473, 3) := getB' kX12_readsSum_3 6 rfl
theorem dX12_readsSum_77 : decode cX12_readsSum 77 = .ok (.aload_n 0, 1) := getB' kX12_readsSum_3 7 rfl
theorem dX12_readsSum_78 : decode cX12_readsSum 78 = .ok (.aload_n 0, 1) := getB' kX12_readsSum_3 8 rfl
theorem dX12_readsSum_79 : decode cX12_readsSum 79 = .ok (.getfield 443, 3) := getB' kX12_readsSum_3 9 rfl
theorem dX12_readsSum_82 : decode cX12_readsSum 82 = .ok (.iconst 1, 1) := getB' kX12_readsSum_3 10 rfl
theorem dX12_readsSum_83 : decode cX12_readsSum 83 = .ok (.iadd, 1) := getB' kX12_readsSum_3 11 rfl
def LX12_readsSum_4 : List (Nat × Instr × Nat) := [(84, .putfield 443, 3), (87, .aload_n 0, 1), (88, .invokevirtual 492, 3), (91, .ifCond .ne 85, 3), (94, .iconst 0, 1), (95, .ireturn, 1), (96, .aload_n 0, 1), (97, .invokevirtual 449, 3), (100, .bipush 93, 2), (102, .if_icmp .ne 49, 3), (105, .aload_n 0, 1), (106, .iload_n 1, 1)]
theorem kX12_readsSum_4 : chkB cX12_readsSum LX12_readsSum_4 = true := by decide +kernel
theorem dX12_readsSum_84 : decode cX12_readsSum 84 = .ok (.putfield 443, 3) := getB' kX12_readsSum_4 0 rfl
theorem dX12_readsSum_87 : decode cX12_readsSum 87 = .ok (.aload_n 0, 1) := getB' kX12_readsSum_4 1 rfl
theorem dX12_readsSum_88 : decode cX12_readsSum 88 = .ok (.invokevirtual 492, 3) := getB' kX12_readsSum_4 2 rfl
theorem dX12_readsSum_91 : decode cX12_readsSum 91 = .ok (.ifCond .ne 85, 3) := getB' kX12_readsSum_4 3 rfl
theorem dX12_readsSum_94 : decode cX12_readsSum 94 = .ok (.iconst 0, 1) := getB' kX12_readsSum_4 4 rfl
theorem dX12_readsSum_95 : decode cX12_readsSum 95 = .ok (.ireturn, 1) := getB' kX12_readsSum_4 5 rfl
theorem dX12_readsSum_96 : decode cX12_readsSum 96 = .ok (.aload_n 0, 1) := getB' kX12_readsSum_4 6 rfl
theorem dX12_readsSum_97 : decode cX12_readsSum 97 = .ok (.invokevirtual 449, 3) := getB' kX12_readsSum_4 7 rfl
theorem dX12_readsSum_100 : decode cX12_readsSum 100 = .ok (.bipush 93, 2) := getB' kX12_readsSum_4 8 rfl
theorem dX12_readsSum_102 : decode cX12_readsSum 102 = .ok (.if_icmp .ne 49, 3) := getB' kX12_readsSum_4 9 rfl
theorem dX12_readsSum_105 : decode cX12_readsSum 105 = .ok (.aload_n 0, 1) := getB' kX12_readsSum_4 10 rfl
theorem dX12_readsSum_106 : decode cX12_readsSum 106 = .ok (.iload_n 1, 1) := getB' kX12_readsSum_4 11 rfl
def LX12_readsSum_5 : List (Nat × Instr × Nat) := [(107, .invokevirtual 502, 3), (110, .ifCond .eq 41, 3), (113, .aload_n 0, 1), (114, .iconst 1, 1), (115, .invokevirtual 498, 3), (118, .aload_n 0, 1), (119, .aload_n 0, 1), (120, .getfield 473, 3), (123, .iconst 1, 1), (124, .isub, 1), (125, .putfield 473, 3), (128, .aload_n 0, 1)]
theorem kX12_readsSum_5 : chkB cX12_readsSum LX12_readsSum_5 = true := by decide +kernel
theorem dX12_readsSum_107 : decode cX12_readsSum 107 = .ok (.invokevirtual 502, 3) := getB' kX12_readsSum_5 0 rfl
theorem dX12_readsSum_110 : decode cX12_readsSum 110 = .ok (.ifCond .eq 41, 3) := getB' kX12_readsSum_5 1 rfl
theorem dX12_readsSum_113 : decode cX12_readsSum 113 = .ok (.aload_n 0, 1) := getB' kX12_readsSum_5 2 rfl
theorem dX12_readsSum_114 : decode cX12_readsSum 114 = .ok (.iconst 1, 1) := getB' kX12_readsSum_5 3 rfl
theorem dX12_readsSum_115 : decode cX12_readsSum 115 = .ok (.invokevirtual 498, 3) := getB' kX12_readsSum_5 4 rfl
theorem dX12_readsSum_118 : decode cX12_readsSum 118 = .ok (.aload_n 0, 1) := getB' kX12_readsSum_5 5 rfl
theorem dX12_readsSum_119 : decode cX12_readsSum 119 = .ok (.aload_n 0, 1) := getB' kX12_readsSum_5 6 rfl
theorem dX12_readsSum_120 : decode cX12_readsSum 120 = .ok (.getfield 473, 3) := getB' kX12_readsSum_5 7 rfl
theorem dX12_readsSum_123 : decode cX12_readsSum 123 = .ok (.iconst 1, 1) := getB' kX12_readsSum_5 8 rfl
theorem dX12_readsSum_124 : decode cX12_readsSum 124 = .ok (.isub, 1) := getB' kX12_readsSum_5 9 rfl
theorem dX12_readsSum_125 : decode cX12_readsSum 125 = .ok (.putfield 473, 3) := getB' kX12_readsSum_5 10 rfl
theorem dX12_readsSum_128 : decode cX12_readsSum 128 = .ok (.aload_n 0, 1) := getB' kX12_readsSum_5 11 rfl
def LX12_readsSum_6 : List (Nat × Instr × Nat) := [(129, .aload_n 0, 1), (130, .getfield 470, 3), (133, .iconst 1, 1), (134, .isub, 1), (135, .putfield 470, 3), (138, .aload_n 0, 1), (139, .aload_n 0, 1), (140, .getfield 443, 3), (143, .iconst 1, 1), (144, .iadd, 1), (145, .putfield 443, 3), (148, .goto 28, 3)]
theorem kX12_readsSum_6 : chkB cX12_readsSum LX12_readsSum_6 = true := by decide +kernel
theorem dX12_readsSum_129 : decode cX12_readsSum 129 = .ok (.aload_n 0, 1) := getB' kX12_readsSum_6 0 rfl
theorem dX12_readsSum_130 : decode cX12_readsSum 130 = .ok (.getfield 470, 3) := getB' kX12_readsSum_6 1 rfl
theorem dX12_readsSum_133 : decode cX12_readsSum 133 = .ok (.iconst 1, 1) := getB' kX12_readsSum_6 2 rfl
theorem dX12_readsSum_134 : decode cX12_readsSum 134 = .ok (.isub, 1) := getB' kX12_readsSum_6 3 rfl
theorem dX12_readsSum_135 : decode cX12_readsSum 135 = .ok (.putfield 470, 3) := getB' kX12_readsSum_6 4 rfl
theorem dX12_readsSum_138 : decode cX12_readsSum 138 = .ok (.aload_n 0, 1) := getB' kX12_readsSum_6 5 rfl
theorem dX12_readsSum_139 : decode cX12_readsSum 139 = .ok (.aload_n 0, 1) := getB' kX12_readsSum_6 6 rfl
theorem dX12_readsSum_140 : decode cX12_readsSum 140 = .ok (.getfield 443, 3) := getB' kX12_readsSum_6 7 rfl
theorem dX12_readsSum_143 : decode cX12_readsSum 143 = .ok (.iconst 1, 1) := getB' kX12_readsSum_6 8 rfl
theorem dX12_readsSum_144 : decode cX12_readsSum 144 = .ok (.iadd, 1) := getB' kX12_readsSum_6 9 rfl
theorem dX12_readsSum_145 : decode cX12_readsSum 145 = .ok (.putfield 443, 3) := getB' kX12_readsSum_6 10 rfl
theorem dX12_readsSum_148 : decode cX12_readsSum 148 = .ok (.goto 28, 3) := getB' kX12_readsSum_6 11 rfl
def LX12_readsSum_7 : List (Nat × Instr × Nat) := [(151, .aload_n 0, 1), (152, .iload_n 1, 1), (153, .invokevirtual 502, 3), (156, .ifCond .eq 13, 3), (159, .aload_n 0, 1), (160, .iconst 1, 1), (161, .aload_n 0, 1), (162, .getfield 443, 3), (165, .invokevirtual 456, 3), (168, .ireturn, 1), (169, .aload_n 0, 1), (170, .iconst 1, 1)]
theorem kX12_readsSum_7 : chkB cX12_readsSum LX12_readsSum_7 = true := by decide +kernel
theorem dX12_readsSum_151 : decode cX12_readsSum 151 = .ok (.aload_n 0, 1) := getB' kX12_readsSum_7 0 rfl
theorem dX12_readsSum_152 : decode cX12_readsSum 152 = .ok (.iload_n 1, 1) := getB' kX12_readsSum_7 1 rfl
theorem dX12_readsSum_153 : decode cX12_readsSum 153 = .ok (.invokevirtual 502, 3) := getB' kX12_readsSum_7 2 rfl
theorem dX12_readsSum_156 : decode cX12_readsSum 156 = .ok (.ifCond .eq 13, 3) := getB' kX12_readsSum_7 3 rfl
theorem dX12_readsSum_159 : decode cX12_readsSum 159 = .ok (.aload_n 0, 1) := getB' kX12_readsSum_7 4 rfl
theorem dX12_readsSum_160 : decode cX12_readsSum 160 = .ok (.iconst 1, 1) := getB' kX12_readsSum_7 5 rfl
theorem dX12_readsSum_161 : decode cX12_readsSum 161 = .ok (.aload_n 0, 1) := getB' kX12_readsSum_7 6 rfl
theorem dX12_readsSum_162 : decode cX12_readsSum 162 = .ok (.getfield 443, 3) := getB' kX12_readsSum_7 7 rfl
theorem dX12_readsSum_165 : decode cX12_readsSum 165 = .ok (.invokevirtual 456, 3) := getB' kX12_readsSum_7 8 rfl
theorem dX12_readsSum_168 : decode cX12_readsSum 168 = .ok (.ireturn, 1) := getB' kX12_readsSum_7 9 rfl
theorem dX12_readsSum_169 : decode cX12_readsSum 169 = .ok (.aload_n 0, 1) := getB' kX12_readsSum_7 10 rfl
theorem dX12_readsSum_170 : decode cX12_readsSum 170 = .ok (.iconst 1, 1) := getB' kX12_readsSum_7 11 rfl
def LX12_readsSum_8 : List (Nat × Instr × Nat) := [(171, .invokevirtual 498, 3), (174, .iconst 1, 1), (175, .ireturn, 1), (176, .goto (-162), 3)]
theorem kX12_readsSum_8 : chkB cX12_readsSum LX12_readsSum_8 = true := by decide +kernel
theorem dX12_readsSum_171 : decode cX12_readsSum 171 = .ok (.invokevirtual 498, 3) := getB' kX12_readsSum_8 0 rfl
theorem dX12_readsSum_174 : decode cX12_readsSum 174 = .ok (.iconst 1, 1) := getB' kX12_readsSum_8 1 rfl
theorem dX12_readsSum_175 : decode cX12_readsSum 175 = .ok (.ireturn, 1) := getB' kX12_readsSum_8 2 rfl
theorem dX12_readsSum_176 : decode cX12_readsSum 176 = .ok (.goto (-162), 3) := getB' kX12_readsSum_8 3 rfl
def LX12_hasOpenSum_0 : List (Nat × Instr × Nat) := [(0, .iload_n 1, 1), (1, .istore_n 2, 1), (2, .iload_n 2, 1), (3, .aload_n 0, 1), (4, .getfield 473, 3), (7, .if_icmp .ge 26, 3), (10, .aload_n 0, 1), (11, .getfield 91, 3), (14, .iload_n 2, 1), (15, .iaload, 1), (16, .ldc_w 469, 3), (19, .idiv, 1)]
theorem kX12_hasOpenSum_0 : chkB cX12_hasOpenSum LX12_hasOpenSum_0 = true := by decide +kernel
theorem dX12_hasOpenSum_0 : decode cX12_hasOpenSum 0 = .ok (.iload_n 1, 1) := getB' kX12_hasOpenSum_0 0 rfl
theorem dX12_hasOpenSum_1 : decode cX12_hasOpenSum 1 = .ok (.istore_n 2, 1) := getB' kX12_hasOpenSum_0 1 rfl
theorem dX12_hasOpenSum_2 : decode cX12_hasOpenSum 2 = .ok (.iload_n 2, 1) := getB' kX12_hasOpenSum_0 2 rfl
theorem dX12_hasOpenSum_3 : decode cX12_hasOpenSum 3 = .ok (.aload_n 0, 1) := getB' kX12_hasOpenSum_0 3 rfl
theorem dX12_hasOpenSum_4 : decode cX12_hasOpenSum 4 = .ok (.getfield 473, 3) := getB' kX12_hasOpenSum_0 4 rfl
theorem dX12_hasOpenSum_7 : decode cX12_hasOpenSum 7 = .ok (.if_icmp .ge 26, 3) := getB' kX12_hasOpenSum_0 5 rfl
theorem dX12_hasOpenSum_10 : decode cX12_hasOpenSum 10 = .ok (.aload_n 0, 1) := getB' kX12_hasOpenSum_0 6 rfl
theorem dX12_hasOpenSum_11 : decode cX12_hasOpenSum 11 = .ok (.getfield 91, 3) := getB' kX12_hasOpenSum_0 7 rfl
theorem dX12_hasOpenSum_14 : decode cX12_hasOpenSum 14 = .ok (.iload_n 2, 1) := getB' kX12_hasOpenSum_0 8 rfl
theorem dX12_hasOpenSum_15 : decode cX12_hasOpenSum 15 = .ok (.iaload, 1) := getB' kX12_hasOpenSum_0 9 rfl
theorem dX12_hasOpenSum_16 : decode cX12_hasOpenSum 16 = .ok (.ldc_w 469, 3) := getB' kX12_hasOpenSum_0 10 rfl
theorem dX12_hasOpenSum_19 : decode cX12_hasOpenSum 19 = .ok (.idiv, 1) := getB' kX12_hasOpenSum_0 11 rfl
def LX12_hasOpenSum_1 : List (Nat × Instr × Nat) := [(20, .bipush 14, 2), (22, .if_icmp .ne 5, 3), (25, .iconst 1, 1), (26, .ireturn, 1), (27, .iinc 2 1, 3), (30, .goto (-28), 3), (33, .iconst 0, 1), (34, .ireturn, 1)]
theorem kX12_hasOpenSum_1 : chkB cX12_hasOpenSum LX12_hasOpenSum_1 = true := by decide +kernel
theorem dX12_hasOpenSum_20 : decode cX12_hasOpenSum 20 = .ok (.bipush 14, 2) := getB' kX12_hasOpenSum_1 0 rfl
theorem dX12_hasOpenSum_22 : decode cX12_hasOpenSum 22 = .ok (.if_icmp .ne 5, 3) := getB' kX12_hasOpenSum_1 1 rfl
theorem dX12_hasOpenSum_25 : decode cX12_hasOpenSum 25 = .ok (.iconst 1, 1) := getB' kX12_hasOpenSum_1 2 rfl
theorem dX12_hasOpenSum_26 : decode cX12_hasOpenSum 26 = .ok (.ireturn, 1) := getB' kX12_hasOpenSum_1 3 rfl
theorem dX12_hasOpenSum_27 : decode cX12_hasOpenSum 27 = .ok (.iinc 2 1, 3) := getB' kX12_hasOpenSum_1 4 rfl
theorem dX12_hasOpenSum_30 : decode cX12_hasOpenSum 30 = .ok (.goto (-28), 3) := getB' kX12_hasOpenSum_1 5 rfl
theorem dX12_hasOpenSum_33 : decode cX12_hasOpenSum 33 = .ok (.iconst 0, 1) := getB' kX12_hasOpenSum_1 6 rfl
theorem dX12_hasOpenSum_34 : decode cX12_hasOpenSum 34 = .ok (.ireturn, 1) := getB' kX12_hasOpenSum_1 7 rfl
def LX12_endsPiece_0 : List (Nat × Instr × Nat) := [(0, .aload_n 0, 1), (1, .invokevirtual 476, 3), (4, .bipush 10, 2), (6, .if_icmp .ne 33, 3), (9, .aload_n 0, 1), (10, .bipush 10, 2), (12, .iconst 0, 1), (13, .invokevirtual 479, 3), (16, .aload_n 0, 1), (17, .aload_n 0, 1), (18, .getfield 473, 3), (21, .iconst 1, 1)]
theorem kX12_endsPiece_0 : chkB cX12_endsPiece LX12_endsPiece_0 = true := by decide +kernel
theorem dX12_endsPiece_0 : decode cX12_endsPiece 0 = .ok (.aload_n 0, 1) := getB' kX12_endsPiece_0 0 rfl
theorem dX12_endsPiece_1 : decode cX12_endsPiece 1 = .ok (.invokevirtual 476, 3) := getB' kX12_endsPiece_0 1 rfl
theorem dX12_endsPiece_4 : decode cX12_endsPiece 4 = .ok (.bipush 10, 2) := getB' kX12_endsPiece_0 2 rfl
theorem dX12_endsPiece_6 : decode cX12_endsPiece 6 = .ok (.if_icmp .ne 33, 3) := getB' kX12_endsPiece_0 3 rfl
theorem dX12_endsPiece_9 : decode cX12_endsPiece 9 = .ok (.aload_n 0, 1) := getB' kX12_endsPiece_0 4 rfl
theorem dX12_endsPiece_10 : decode cX12_endsPiece 10 = .ok (.bipush 10, 2) := getB' kX12_endsPiece_0 5 rfl
theorem dX12_endsPiece_12 : decode cX12_endsPiece 12 = .ok (.iconst 0, 1) := getB' kX12_endsPiece_0 6 rfl
theorem dX12_endsPiece_13 : decode cX12_endsPiece 13 = .ok (.invokevirtual 479, 3) := getB' kX12_endsPiece_0 7 rfl
theorem dX12_endsPiece_16 : decode cX12_endsPiece 16 = .ok (.aload_n 0, 1) := getB' kX12_endsPiece_0 8 rfl
theorem dX12_endsPiece_17 : decode cX12_endsPiece 17 = .ok (.aload_n 0, 1) := getB' kX12_endsPiece_0 9 rfl
theorem dX12_endsPiece_18 : decode cX12_endsPiece 18 = .ok (.getfield 473, 3) := getB' kX12_endsPiece_0 10 rfl
theorem dX12_endsPiece_21 : decode cX12_endsPiece 21 = .ok (.iconst 1, 1) := getB' kX12_endsPiece_0 11 rfl
def LX12_endsPiece_1 : List (Nat × Instr × Nat) := [(22, .isub, 1), (23, .putfield 473, 3), (26, .aload_n 0, 1), (27, .aload_n 0, 1), (28, .getfield 470, 3), (31, .iconst 1, 1), (32, .isub, 1), (33, .putfield 470, 3), (36, .goto (-36), 3), (39, .return_, 1)]
theorem kX12_endsPiece_1 : chkB cX12_endsPiece LX12_endsPiece_1 = true := by decide +kernel
theorem dX12_endsPiece_22 : decode cX12_endsPiece 22 = .ok (.isub, 1) := getB' kX12_endsPiece_1 0 rfl
theorem dX12_endsPiece_23 : decode cX12_endsPiece 23 = .ok (.putfield 473, 3) := getB' kX12_endsPiece_1 1 rfl
theorem dX12_endsPiece_26 : decode cX12_endsPiece 26 = .ok (.aload_n 0, 1) := getB' kX12_endsPiece_1 2 rfl
theorem dX12_endsPiece_27 : decode cX12_endsPiece 27 = .ok (.aload_n 0, 1) := getB' kX12_endsPiece_1 3 rfl
theorem dX12_endsPiece_28 : decode cX12_endsPiece 28 = .ok (.getfield 470, 3) := getB' kX12_endsPiece_1 4 rfl
theorem dX12_endsPiece_31 : decode cX12_endsPiece 31 = .ok (.iconst 1, 1) := getB' kX12_endsPiece_1 5 rfl
theorem dX12_endsPiece_32 : decode cX12_endsPiece 32 = .ok (.isub, 1) := getB' kX12_endsPiece_1 6 rfl
theorem dX12_endsPiece_33 : decode cX12_endsPiece 33 = .ok (.putfield 470, 3) := getB' kX12_endsPiece_1 7 rfl
theorem dX12_endsPiece_36 : decode cX12_endsPiece 36 = .ok (.goto (-36), 3) := getB' kX12_endsPiece_1 8 rfl
theorem dX12_endsPiece_39 : decode cX12_endsPiece 39 = .ok (.return_, 1) := getB' kX12_endsPiece_1 9 rfl
def LX12_lands_0 : List (Nat × Instr × Nat) := [(0, .aload_n 0, 1), (1, .invokevirtual 476, 3), (4, .bipush 11, 2), (6, .if_icmp .eq 16, 3), (9, .iload_n 1, 1), (10, .ifCond .eq 66, 3), (13, .aload_n 0, 1), (14, .invokevirtual 476, 3), (17, .bipush 12, 2), (19, .if_icmp .ne 57, 3), (22, .aload_n 0, 1), (23, .getfield 91, 3)]
theorem kX12_lands_0 : chkB cX12_lands LX12_lands_0 = true := by decide +kernel
theorem dX12_lands_0 : decode cX12_lands 0 = .ok (.aload_n 0, 1) := getB' kX12_lands_0 0 rfl
theorem dX12_lands_1 : decode cX12_lands 1 = .ok (.invokevirtual 476, 3) := getB' kX12_lands_0 1 rfl
theorem dX12_lands_4 : decode cX12_lands 4 = .ok (.bipush 11, 2) := getB' kX12_lands_0 2 rfl
theorem dX12_lands_6 : decode cX12_lands 6 = .ok (.if_icmp .eq 16, 3) := getB' kX12_lands_0 3 rfl
theorem dX12_lands_9 : decode cX12_lands 9 = .ok (.iload_n 1, 1) := getB' kX12_lands_0 4 rfl
theorem dX12_lands_10 : decode cX12_lands 10 = .ok (.ifCond .eq 66, 3) := getB' kX12_lands_0 5 rfl
theorem dX12_lands_13 : decode cX12_lands 13 = .ok (.aload_n 0, 1) := getB' kX12_lands_0 6 rfl
theorem dX12_lands_14 : decode cX12_lands 14 = .ok (.invokevirtual 476, 3) := getB' kX12_lands_0 7 rfl
theorem dX12_lands_17 : decode cX12_lands 17 = .ok (.bipush 12, 2) := getB' kX12_lands_0 8 rfl
theorem dX12_lands_19 : decode cX12_lands 19 = .ok (.if_icmp .ne 57, 3) := getB' kX12_lands_0 9 rfl
theorem dX12_lands_22 : decode cX12_lands 22 = .ok (.aload_n 0, 1) := getB' kX12_lands_0 10 rfl
theorem dX12_lands_23 : decode cX12_lands 23 = .ok (.getfield 91, 3) := getB' kX12_lands_0 11 rfl
def LX12_lands_1 : List (Nat × Instr × Nat) := [(26, .aload_n 0, 1), (27, .getfield 473, 3), (30, .iconst 1, 1), (31, .isub, 1), (32, .iaload, 1), (33, .ldc_w 469, 3), (36, .irem, 1), (37, .istore_n 2, 1), (38, .aload_n 0, 1), (39, .getfield 88, 3), (42, .iload_n 2, 1), (43, .ldc_w 469, 3)]
theorem kX12_lands_1 : chkB cX12_lands LX12_lands_1 = true := by decide +kernel
theorem dX12_lands_26 : decode cX12_lands 26 = .ok (.aload_n 0, 1) := getB' kX12_lands_1 0 rfl
theorem dX12_lands_27 : decode cX12_lands 27 = .ok (.getfield 473, 3) := getB' kX12_lands_1 1 rfl
theorem dX12_lands_30 : decode cX12_lands 30 = .ok (.iconst 1, 1) := getB' kX12_lands_1 2 rfl
theorem dX12_lands_31 : decode cX12_lands 31 = .ok (.isub, 1) := getB' kX12_lands_1 3 rfl
theorem dX12_lands_32 : decode cX12_lands 32 = .ok (.iaload, 1) := getB' kX12_lands_1 4 rfl
theorem dX12_lands_33 : decode cX12_lands 33 = .ok (.ldc_w 469, 3) := getB' kX12_lands_1 5 rfl
theorem dX12_lands_36 : decode cX12_lands 36 = .ok (.irem, 1) := getB' kX12_lands_1 6 rfl
theorem dX12_lands_37 : decode cX12_lands 37 = .ok (.istore_n 2, 1) := getB' kX12_lands_1 7 rfl
theorem dX12_lands_38 : decode cX12_lands 38 = .ok (.aload_n 0, 1) := getB' kX12_lands_1 8 rfl
theorem dX12_lands_39 : decode cX12_lands 39 = .ok (.getfield 88, 3) := getB' kX12_lands_1 9 rfl
theorem dX12_lands_42 : decode cX12_lands 42 = .ok (.iload_n 2, 1) := getB' kX12_lands_1 10 rfl
theorem dX12_lands_43 : decode cX12_lands 43 = .ok (.ldc_w 469, 3) := getB' kX12_lands_1 11 rfl
def LX12_lands_2 : List (Nat × Instr × Nat) := [(46, .aload_n 0, 1), (47, .getfield 88, 3), (50, .iload_n 2, 1), (51, .iaload, 1), (52, .ldc_w 469, 3), (55, .idiv, 1), (56, .imul, 1), (57, .aload_n 0, 1), (58, .getfield 466, 3), (61, .iadd, 1), (62, .iastore, 1), (63, .aload_n 0, 1)]
theorem kX12_lands_2 : chkB cX12_lands LX12_lands_2 = true := by decide +kernel
theorem dX12_lands_46 : decode cX12_lands 46 = .ok (.aload_n 0, 1) := getB' kX12_lands_2 0 rfl
theorem dX12_lands_47 : decode cX12_lands 47 = .ok (.getfield 88, 3) := getB' kX12_lands_2 1 rfl
theorem dX12_lands_50 : decode cX12_lands 50 = .ok (.iload_n 2, 1) := getB' kX12_lands_2 2 rfl
theorem dX12_lands_51 : decode cX12_lands 51 = .ok (.iaload, 1) := getB' kX12_lands_2 3 rfl
theorem dX12_lands_52 : decode cX12_lands 52 = .ok (.ldc_w 469, 3) := getB' kX12_lands_2 4 rfl
theorem dX12_lands_55 : decode cX12_lands 55 = .ok (.idiv, 1) := getB' kX12_lands_2 5 rfl
theorem dX12_lands_56 : decode cX12_lands 56 = .ok (.imul, 1) := getB' kX12_lands_2 6 rfl
theorem dX12_lands_57 : decode cX12_lands 57 = .ok (.aload_n 0, 1) := getB' kX12_lands_2 7 rfl
theorem dX12_lands_58 : decode cX12_lands 58 = .ok (.getfield 466, 3) := getB' kX12_lands_2 8 rfl
theorem dX12_lands_61 : decode cX12_lands 61 = .ok (.iadd, 1) := getB' kX12_lands_2 9 rfl
theorem dX12_lands_62 : decode cX12_lands 62 = .ok (.iastore, 1) := getB' kX12_lands_2 10 rfl
theorem dX12_lands_63 : decode cX12_lands 63 = .ok (.aload_n 0, 1) := getB' kX12_lands_2 11 rfl
def LX12_lands_3 : List (Nat × Instr × Nat) := [(64, .aload_n 0, 1), (65, .getfield 473, 3), (68, .iconst 1, 1), (69, .isub, 1), (70, .putfield 473, 3), (73, .goto (-73), 3), (76, .return_, 1)]
theorem kX12_lands_3 : chkB cX12_lands LX12_lands_3 = true := by decide +kernel
theorem dX12_lands_64 : decode cX12_lands 64 = .ok (.aload_n 0, 1) := getB' kX12_lands_3 0 rfl
theorem dX12_lands_65 : decode cX12_lands 65 = .ok (.getfield 473, 3) := getB' kX12_lands_3 1 rfl
theorem dX12_lands_68 : decode cX12_lands 68 = .ok (.iconst 1, 1) := getB' kX12_lands_3 2 rfl
theorem dX12_lands_69 : decode cX12_lands 69 = .ok (.isub, 1) := getB' kX12_lands_3 3 rfl
theorem dX12_lands_70 : decode cX12_lands 70 = .ok (.putfield 473, 3) := getB' kX12_lands_3 4 rfl
theorem dX12_lands_73 : decode cX12_lands 73 = .ok (.goto (-73), 3) := getB' kX12_lands_3 5 rfl
theorem dX12_lands_76 : decode cX12_lands 76 = .ok (.return_, 1) := getB' kX12_lands_3 6 rfl
def LX12_jumps_0 : List (Nat × Instr × Nat) := [(0, .aload_n 0, 1), (1, .getfield 91, 3), (4, .aload_n 0, 1), (5, .getfield 473, 3), (8, .ldc_w 469, 3), (11, .iload_n 1, 1), (12, .imul, 1), (13, .aload_n 0, 1), (14, .getfield 466, 3), (17, .iadd, 1), (18, .iastore, 1), (19, .aload_n 0, 1)]
theorem kX12_jumps_0 : chkB cX12_jumps LX12_jumps_0 = true := by decide +kernel
theorem dX12_jumps_0 : decode cX12_jumps 0 = .ok (.aload_n 0, 1) := getB' kX12_jumps_0 0 rfl
theorem dX12_jumps_1 : decode cX12_jumps 1 = .ok (.getfield 91, 3) := getB' kX12_jumps_0 1 rfl
theorem dX12_jumps_4 : decode cX12_jumps 4 = .ok (.aload_n 0, 1) := getB' kX12_jumps_0 2 rfl
theorem dX12_jumps_5 : decode cX12_jumps 5 = .ok (.getfield 473, 3) := getB' kX12_jumps_0 3 rfl
theorem dX12_jumps_8 : decode cX12_jumps 8 = .ok (.ldc_w 469, 3) := getB' kX12_jumps_0 4 rfl
theorem dX12_jumps_11 : decode cX12_jumps 11 = .ok (.iload_n 1, 1) := getB' kX12_jumps_0 5 rfl
theorem dX12_jumps_12 : decode cX12_jumps 12 = .ok (.imul, 1) := getB' kX12_jumps_0 6 rfl
theorem dX12_jumps_13 : decode cX12_jumps 13 = .ok (.aload_n 0, 1) := getB' kX12_jumps_0 7 rfl
theorem dX12_jumps_14 : decode cX12_jumps 14 = .ok (.getfield 466, 3) := getB' kX12_jumps_0 8 rfl
theorem dX12_jumps_17 : decode cX12_jumps 17 = .ok (.iadd, 1) := getB' kX12_jumps_0 9 rfl
theorem dX12_jumps_18 : decode cX12_jumps 18 = .ok (.iastore, 1) := getB' kX12_jumps_0 10 rfl
theorem dX12_jumps_19 : decode cX12_jumps 19 = .ok (.aload_n 0, 1) := getB' kX12_jumps_0 11 rfl
def LX12_jumps_1 : List (Nat × Instr × Nat) := [(20, .aload_n 0, 1), (21, .getfield 473, 3), (24, .iconst 1, 1), (25, .iadd, 1), (26, .putfield 473, 3), (29, .aload_n 0, 1), (30, .iload_n 1, 1), (31, .iconst 0, 1), (32, .invokevirtual 479, 3), (35, .aload_n 0, 1), (36, .aload_n 0, 1), (37, .getfield 443, 3)]
theorem kX12_jumps_1 : chkB cX12_jumps LX12_jumps_1 = true := by decide +kernel
theorem dX12_jumps_20 : decode cX12_jumps 20 = .ok (.aload_n 0, 1) := getB' kX12_jumps_1 0 rfl
theorem dX12_jumps_21 : decode cX12_jumps 21 = .ok (.getfield 473, 3) := getB' kX12_jumps_1 1 rfl
theorem dX12_jumps_24 : decode cX12_jumps 24 = .ok (.iconst 1, 1) := getB' kX12_jumps_1 2 rfl
theorem dX12_jumps_25 : decode cX12_jumps 25 = .ok (.iadd, 1) := getB' kX12_jumps_1 3 rfl
theorem dX12_jumps_26 : decode cX12_jumps 26 = .ok (.putfield 473, 3) := getB' kX12_jumps_1 4 rfl
theorem dX12_jumps_29 : decode cX12_jumps 29 = .ok (.aload_n 0, 1) := getB' kX12_jumps_1 5 rfl
theorem dX12_jumps_30 : decode cX12_jumps 30 = .ok (.iload_n 1, 1) := getB' kX12_jumps_1 6 rfl
theorem dX12_jumps_31 : decode cX12_jumps 31 = .ok (.iconst 0, 1) := getB' kX12_jumps_1 7 rfl
theorem dX12_jumps_32 : decode cX12_jumps 32 = .ok (.invokevirtual 479, 3) := getB' kX12_jumps_1 8 rfl
theorem dX12_jumps_35 : decode cX12_jumps 35 = .ok (.aload_n 0, 1) := getB' kX12_jumps_1 9 rfl
theorem dX12_jumps_36 : decode cX12_jumps 36 = .ok (.aload_n 0, 1) := getB' kX12_jumps_1 10 rfl
theorem dX12_jumps_37 : decode cX12_jumps 37 = .ok (.getfield 443, 3) := getB' kX12_jumps_1 11 rfl
def LX12_jumps_2 : List (Nat × Instr × Nat) := [(40, .iconst 1, 1), (41, .iadd, 1), (42, .putfield 443, 3), (45, .return_, 1)]
theorem kX12_jumps_2 : chkB cX12_jumps LX12_jumps_2 = true := by decide +kernel
theorem dX12_jumps_40 : decode cX12_jumps 40 = .ok (.iconst 1, 1) := getB' kX12_jumps_2 0 rfl
theorem dX12_jumps_41 : decode cX12_jumps 41 = .ok (.iadd, 1) := getB' kX12_jumps_2 1 rfl
theorem dX12_jumps_42 : decode cX12_jumps 42 = .ok (.putfield 443, 3) := getB' kX12_jumps_2 2 rfl
theorem dX12_jumps_45 : decode cX12_jumps 45 = .ok (.return_, 1) := getB' kX12_jumps_2 3 rfl
def LX12_readsCompared_0 : List (Nat × Instr × Nat) := [(0, .aload_n 0, 1), (1, .invokevirtual 505, 3), (4, .ifCond .ne 5, 3), (7, .iconst 0, 1), (8, .ireturn, 1), (9, .aload_n 0, 1), (10, .invokevirtual 449, 3), (13, .bipush 60, 2), (15, .if_icmp .ne 8, 3), (18, .bipush 7, 2), (20, .goto 32, 3), (23, .aload_n 0, 1)]
theorem kX12_readsCompared_0 : chkB cX12_readsCompared LX12_readsCompared_0 = true := by decide +kernel
theorem dX12_readsCompared_0 : decode cX12_readsCompared 0 = .ok (.aload_n 0, 1) := getB' kX12_readsCompared_0 0 rfl
theorem dX12_readsCompared_1 : decode cX12_readsCompared 1 = .ok (.invokevirtual 505, 3) := getB' kX12_readsCompared_0 1 rfl
theorem dX12_readsCompared_4 : decode cX12_readsCompared 4 = .ok (.ifCond .ne 5, 3) := getB' kX12_readsCompared_0 2 rfl
theorem dX12_readsCompared_7 : decode cX12_readsCompared 7 = .ok (.iconst 0, 1) := getB' kX12_readsCompared_0 3 rfl
theorem dX12_readsCompared_8 : decode cX12_readsCompared 8 = .ok (.ireturn, 1) := getB' kX12_readsCompared_0 4 rfl
theorem dX12_readsCompared_9 : decode cX12_readsCompared 9 = .ok (.aload_n 0, 1) := getB' kX12_readsCompared_0 5 rfl
theorem dX12_readsCompared_10 : decode cX12_readsCompared 10 = .ok (.invokevirtual 449, 3) := getB' kX12_readsCompared_0 6 rfl
theorem dX12_readsCompared_13 : decode cX12_readsCompared 13 = .ok (.bipush 60, 2) := getB' kX12_readsCompared_0 7 rfl
theorem dX12_readsCompared_15 : decode cX12_readsCompared 15 = .ok (.if_icmp .ne 8, 3) := getB' kX12_readsCompared_0 8 rfl
theorem dX12_readsCompared_18 : decode cX12_readsCompared 18 = .ok (.bipush 7, 2) := getB' kX12_readsCompared_0 9 rfl
theorem dX12_readsCompared_20 : decode cX12_readsCompared 20 = .ok (.goto 32, 3) := getB' kX12_readsCompared_0 10 rfl
theorem dX12_readsCompared_23 : decode cX12_readsCompared 23 = .ok (.aload_n 0, 1) := getB' kX12_readsCompared_0 11 rfl
def LX12_readsCompared_1 : List (Nat × Instr × Nat) := [(24, .invokevirtual 449, 3), (27, .bipush 62, 2), (29, .if_icmp .ne 8, 3), (32, .bipush 8, 2), (34, .goto 18, 3), (37, .aload_n 0, 1), (38, .invokevirtual 449, 3), (41, .bipush 61, 2), (43, .if_icmp .ne 8, 3), (46, .bipush 9, 2), (48, .goto 4, 3), (51, .iconst (-1), 1)]
theorem kX12_readsCompared_1 : chkB cX12_readsCompared LX12_readsCompared_1 = true := by decide +kernel
theorem dX12_readsCompared_24 : decode cX12_readsCompared 24 = .ok (.invokevirtual 449, 3) := getB' kX12_readsCompared_1 0 rfl
theorem dX12_readsCompared_27 : decode cX12_readsCompared 27 = .ok (.bipush 62, 2) := getB' kX12_readsCompared_1 1 rfl
theorem dX12_readsCompared_29 : decode cX12_readsCompared 29 = .ok (.if_icmp .ne 8, 3) := getB' kX12_readsCompared_1 2 rfl
theorem dX12_readsCompared_32 : decode cX12_readsCompared 32 = .ok (.bipush 8, 2) := getB' kX12_readsCompared_1 3 rfl
theorem dX12_readsCompared_34 : decode cX12_readsCompared 34 = .ok (.goto 18, 3) := getB' kX12_readsCompared_1 4 rfl
theorem dX12_readsCompared_37 : decode cX12_readsCompared 37 = .ok (.aload_n 0, 1) := getB' kX12_readsCompared_1 5 rfl
theorem dX12_readsCompared_38 : decode cX12_readsCompared 38 = .ok (.invokevirtual 449, 3) := getB' kX12_readsCompared_1 6 rfl
theorem dX12_readsCompared_41 : decode cX12_readsCompared 41 = .ok (.bipush 61, 2) := getB' kX12_readsCompared_1 7 rfl
theorem dX12_readsCompared_43 : decode cX12_readsCompared 43 = .ok (.if_icmp .ne 8, 3) := getB' kX12_readsCompared_1 8 rfl
theorem dX12_readsCompared_46 : decode cX12_readsCompared 46 = .ok (.bipush 9, 2) := getB' kX12_readsCompared_1 9 rfl
theorem dX12_readsCompared_48 : decode cX12_readsCompared 48 = .ok (.goto 4, 3) := getB' kX12_readsCompared_1 10 rfl
theorem dX12_readsCompared_51 : decode cX12_readsCompared 51 = .ok (.iconst (-1), 1) := getB' kX12_readsCompared_1 11 rfl
def LX12_readsCompared_2 : List (Nat × Instr × Nat) := [(52, .istore_n 1, 1), (53, .iload_n 1, 1), (54, .iconst (-1), 1), (55, .if_icmp .ne 13, 3), (58, .aload_n 0, 1), (59, .iconst 1, 1), (60, .aload_n 0, 1), (61, .getfield 443, 3), (64, .invokevirtual 456, 3), (67, .ireturn, 1), (68, .aload_n 0, 1), (69, .aload_n 0, 1)]
theorem kX12_readsCompared_2 : chkB cX12_readsCompared LX12_readsCompared_2 = true := by decide +kernel
theorem dX12_readsCompared_52 : decode cX12_readsCompared 52 = .ok (.istore_n 1, 1) := getB' kX12_readsCompared_2 0 rfl
theorem dX12_readsCompared_53 : decode cX12_readsCompared 53 = .ok (.iload_n 1, 1) := getB' kX12_readsCompared_2 1 rfl
theorem dX12_readsCompared_54 : decode cX12_readsCompared 54 = .ok (.iconst (-1), 1) := getB' kX12_readsCompared_2 2 rfl
theorem dX12_readsCompared_55 : decode cX12_readsCompared 55 = .ok (.if_icmp .ne 13, 3) := getB' kX12_readsCompared_2 3 rfl
theorem dX12_readsCompared_58 : decode cX12_readsCompared 58 = .ok (.aload_n 0, 1) := getB' kX12_readsCompared_2 4 rfl
theorem dX12_readsCompared_59 : decode cX12_readsCompared 59 = .ok (.iconst 1, 1) := getB' kX12_readsCompared_2 5 rfl
theorem dX12_readsCompared_60 : decode cX12_readsCompared 60 = .ok (.aload_n 0, 1) := getB' kX12_readsCompared_2 6 rfl
theorem dX12_readsCompared_61 : decode cX12_readsCompared 61 = .ok (.getfield 443, 3) := getB' kX12_readsCompared_2 7 rfl
theorem dX12_readsCompared_64 : decode cX12_readsCompared 64 = .ok (.invokevirtual 456, 3) := getB' kX12_readsCompared_2 8 rfl
theorem dX12_readsCompared_67 : decode cX12_readsCompared 67 = .ok (.ireturn, 1) := getB' kX12_readsCompared_2 9 rfl
theorem dX12_readsCompared_68 : decode cX12_readsCompared 68 = .ok (.aload_n 0, 1) := getB' kX12_readsCompared_2 10 rfl
theorem dX12_readsCompared_69 : decode cX12_readsCompared 69 = .ok (.aload_n 0, 1) := getB' kX12_readsCompared_2 11 rfl
def LX12_readsCompared_3 : List (Nat × Instr × Nat) := [(70, .getfield 443, 3), (73, .iconst 1, 1), (74, .iadd, 1), (75, .putfield 443, 3), (78, .aload_n 0, 1), (79, .invokevirtual 505, 3), (82, .ifCond .ne 5, 3), (85, .iconst 0, 1), (86, .ireturn, 1), (87, .aload_n 0, 1), (88, .iload_n 1, 1), (89, .iconst 0, 1)]
theorem kX12_readsCompared_3 : chkB cX12_readsCompared LX12_readsCompared_3 = true := by decide +kernel
theorem dX12_readsCompared_70 : decode cX12_readsCompared 70 = .ok (.getfield 443, 3) := getB' kX12_readsCompared_3 0 rfl
theorem dX12_readsCompared_73 : decode cX12_readsCompared 73 = .ok (.iconst 1, 1) := getB' kX12_readsCompared_3 1 rfl
theorem dX12_readsCompared_74 : decode cX12_readsCompared 74 = .ok (.iadd, 1) := getB' kX12_readsCompared_3 2 rfl
theorem dX12_readsCompared_75 : decode cX12_readsCompared 75 = .ok (.putfield 443, 3) := getB' kX12_readsCompared_3 3 rfl
theorem dX12_readsCompared_78 : decode cX12_readsCompared 78 = .ok (.aload_n 0, 1) := getB' kX12_readsCompared_3 4 rfl
theorem dX12_readsCompared_79 : decode cX12_readsCompared 79 = .ok (.invokevirtual 505, 3) := getB' kX12_readsCompared_3 5 rfl
theorem dX12_readsCompared_82 : decode cX12_readsCompared 82 = .ok (.ifCond .ne 5, 3) := getB' kX12_readsCompared_3 6 rfl
theorem dX12_readsCompared_85 : decode cX12_readsCompared 85 = .ok (.iconst 0, 1) := getB' kX12_readsCompared_3 7 rfl
theorem dX12_readsCompared_86 : decode cX12_readsCompared 86 = .ok (.ireturn, 1) := getB' kX12_readsCompared_3 8 rfl
theorem dX12_readsCompared_87 : decode cX12_readsCompared 87 = .ok (.aload_n 0, 1) := getB' kX12_readsCompared_3 9 rfl
theorem dX12_readsCompared_88 : decode cX12_readsCompared 88 = .ok (.iload_n 1, 1) := getB' kX12_readsCompared_3 10 rfl
theorem dX12_readsCompared_89 : decode cX12_readsCompared 89 = .ok (.iconst 0, 1) := getB' kX12_readsCompared_3 11 rfl
def LX12_readsCompared_4 : List (Nat × Instr × Nat) := [(90, .invokevirtual 479, 3), (93, .aload_n 0, 1), (94, .invokevirtual 508, 3), (97, .iconst 1, 1), (98, .ireturn, 1)]
theorem kX12_readsCompared_4 : chkB cX12_readsCompared LX12_readsCompared_4 = true := by decide +kernel
theorem dX12_readsCompared_90 : decode cX12_readsCompared 90 = .ok (.invokevirtual 479, 3) := getB' kX12_readsCompared_4 0 rfl
theorem dX12_readsCompared_93 : decode cX12_readsCompared 93 = .ok (.aload_n 0, 1) := getB' kX12_readsCompared_4 1 rfl
theorem dX12_readsCompared_94 : decode cX12_readsCompared 94 = .ok (.invokevirtual 508, 3) := getB' kX12_readsCompared_4 2 rfl
theorem dX12_readsCompared_97 : decode cX12_readsCompared 97 = .ok (.iconst 1, 1) := getB' kX12_readsCompared_4 3 rfl
theorem dX12_readsCompared_98 : decode cX12_readsCompared 98 = .ok (.ireturn, 1) := getB' kX12_readsCompared_4 4 rfl
def LX12_readsCondition_0 : List (Nat × Instr × Nat) := [(0, .aload_n 0, 1), (1, .iconst 0, 1), (2, .putfield 470, 3), (5, .aload_n 0, 1), (6, .iconst 0, 1), (7, .putfield 473, 3), (10, .aload_n 0, 1), (11, .invokevirtual 449, 3), (14, .bipush 40, 2), (16, .if_icmp .eq 13, 3), (19, .aload_n 0, 1), (20, .iconst 1, 1)]
theorem kX12_readsCondition_0 : chkB cX12_readsCondition LX12_readsCondition_0 = true := by decide +kernel
theorem dX12_readsCondition_0 : decode cX12_readsCondition 0 = .ok (.aload_n 0, 1) := getB' kX12_readsCondition_0 0 rfl
theorem dX12_readsCondition_1 : decode cX12_readsCondition 1 = .ok (.iconst 0, 1) := getB' kX12_readsCondition_0 1 rfl
theorem dX12_readsCondition_2 : decode cX12_readsCondition 2 = .ok (.putfield 470, 3) := getB' kX12_readsCondition_0 2 rfl
theorem dX12_readsCondition_5 : decode cX12_readsCondition 5 = .ok (.aload_n 0, 1) := getB' kX12_readsCondition_0 3 rfl
theorem dX12_readsCondition_6 : decode cX12_readsCondition 6 = .ok (.iconst 0, 1) := getB' kX12_readsCondition_0 4 rfl
theorem dX12_readsCondition_7 : decode cX12_readsCondition 7 = .ok (.putfield 473, 3) := getB' kX12_readsCondition_0 5 rfl
theorem dX12_readsCondition_10 : decode cX12_readsCondition 10 = .ok (.aload_n 0, 1) := getB' kX12_readsCondition_0 6 rfl
theorem dX12_readsCondition_11 : decode cX12_readsCondition 11 = .ok (.invokevirtual 449, 3) := getB' kX12_readsCondition_0 7 rfl
theorem dX12_readsCondition_14 : decode cX12_readsCondition 14 = .ok (.bipush 40, 2) := getB' kX12_readsCondition_0 8 rfl
theorem dX12_readsCondition_16 : decode cX12_readsCondition 16 = .ok (.if_icmp .eq 13, 3) := getB' kX12_readsCondition_0 9 rfl
theorem dX12_readsCondition_19 : decode cX12_readsCondition 19 = .ok (.aload_n 0, 1) := getB' kX12_readsCondition_0 10 rfl
theorem dX12_readsCondition_20 : decode cX12_readsCondition 20 = .ok (.iconst 1, 1) := getB' kX12_readsCondition_0 11 rfl
def LX12_readsCondition_1 : List (Nat × Instr × Nat) := [(21, .aload_n 0, 1), (22, .getfield 443, 3), (25, .invokevirtual 456, 3), (28, .ireturn, 1), (29, .aload_n 0, 1), (30, .bipush 13, 2), (32, .invokevirtual 482, 3), (35, .ifCond .ne 5, 3), (38, .iconst 0, 1), (39, .ireturn, 1), (40, .aload_n 0, 1), (41, .invokevirtual 449, 3)]
theorem kX12_readsCondition_1 : chkB cX12_readsCondition LX12_readsCondition_1 = true := by decide +kernel
theorem dX12_readsCondition_21 : decode cX12_readsCondition 21 = .ok (.aload_n 0, 1) := getB' kX12_readsCondition_1 0 rfl
theorem dX12_readsCondition_22 : decode cX12_readsCondition 22 = .ok (.getfield 443, 3) := getB' kX12_readsCondition_1 1 rfl
theorem dX12_readsCondition_25 : decode cX12_readsCondition 25 = .ok (.invokevirtual 456, 3) := getB' kX12_readsCondition_1 2 rfl
theorem dX12_readsCondition_28 : decode cX12_readsCondition 28 = .ok (.ireturn, 1) := getB' kX12_readsCondition_1 3 rfl
theorem dX12_readsCondition_29 : decode cX12_readsCondition 29 = .ok (.aload_n 0, 1) := getB' kX12_readsCondition_1 4 rfl
theorem dX12_readsCondition_30 : decode cX12_readsCondition 30 = .ok (.bipush 13, 2) := getB' kX12_readsCondition_1 5 rfl
theorem dX12_readsCondition_32 : decode cX12_readsCondition 32 = .ok (.invokevirtual 482, 3) := getB' kX12_readsCondition_1 6 rfl
theorem dX12_readsCondition_35 : decode cX12_readsCondition 35 = .ok (.ifCond .ne 5, 3) := getB' kX12_readsCondition_1 7 rfl
theorem dX12_readsCondition_38 : decode cX12_readsCondition 38 = .ok (.iconst 0, 1) := getB' kX12_readsCondition_1 8 rfl
theorem dX12_readsCondition_39 : decode cX12_readsCondition 39 = .ok (.ireturn, 1) := getB' kX12_readsCondition_1 9 rfl
theorem dX12_readsCondition_40 : decode cX12_readsCondition 40 = .ok (.aload_n 0, 1) := getB' kX12_readsCondition_1 10 rfl
theorem dX12_readsCondition_41 : decode cX12_readsCondition 41 = .ok (.invokevirtual 449, 3) := getB' kX12_readsCondition_1 11 rfl
def LX12_readsCondition_2 : List (Nat × Instr × Nat) := [(44, .bipush 33, 2), (46, .if_icmp .eq 12, 3), (49, .aload_n 0, 1), (50, .invokevirtual 449, 3), (53, .bipush 40, 2), (55, .if_icmp .ne 28, 3), (58, .aload_n 0, 1), (59, .aload_n 0, 1), (60, .invokevirtual 449, 3), (63, .bipush 33, 2), (65, .if_icmp .ne 8, 3), (68, .bipush 10, 2)]
theorem kX12_readsCondition_2 : chkB cX12_readsCondition LX12_readsCondition_2 = true := by decide +kernel
theorem dX12_readsCondition_44 : decode cX12_readsCondition 44 = .ok (.bipush 33, 2) := getB' kX12_readsCondition_2 0 rfl
theorem dX12_readsCondition_46 : decode cX12_readsCondition 46 = .ok (.if_icmp .eq 12, 3) := getB' kX12_readsCondition_2 1 rfl
theorem dX12_readsCondition_49 : decode cX12_readsCondition 49 = .ok (.aload_n 0, 1) := getB' kX12_readsCondition_2 2 rfl
theorem dX12_readsCondition_50 : decode cX12_readsCondition 50 = .ok (.invokevirtual 449, 3) := getB' kX12_readsCondition_2 3 rfl
theorem dX12_readsCondition_53 : decode cX12_readsCondition 53 = .ok (.bipush 40, 2) := getB' kX12_readsCondition_2 4 rfl
theorem dX12_readsCondition_55 : decode cX12_readsCondition 55 = .ok (.if_icmp .ne 28, 3) := getB' kX12_readsCondition_2 5 rfl
theorem dX12_readsCondition_58 : decode cX12_readsCondition 58 = .ok (.aload_n 0, 1) := getB' kX12_readsCondition_2 6 rfl
theorem dX12_readsCondition_59 : decode cX12_readsCondition 59 = .ok (.aload_n 0, 1) := getB' kX12_readsCondition_2 7 rfl
theorem dX12_readsCondition_60 : decode cX12_readsCondition 60 = .ok (.invokevirtual 449, 3) := getB' kX12_readsCondition_2 8 rfl
theorem dX12_readsCondition_63 : decode cX12_readsCondition 63 = .ok (.bipush 33, 2) := getB' kX12_readsCondition_2 9 rfl
theorem dX12_readsCondition_65 : decode cX12_readsCondition 65 = .ok (.if_icmp .ne 8, 3) := getB' kX12_readsCondition_2 10 rfl
theorem dX12_readsCondition_68 : decode cX12_readsCondition 68 = .ok (.bipush 10, 2) := getB' kX12_readsCondition_2 11 rfl
def LX12_readsCondition_3 : List (Nat × Instr × Nat) := [(70, .goto 5, 3), (73, .bipush 13, 2), (75, .invokevirtual 482, 3), (78, .ifCond .ne (-38), 3), (81, .iconst 0, 1), (82, .ireturn, 1), (83, .aload_n 0, 1), (84, .invokevirtual 511, 3), (87, .ifCond .ne 5, 3), (90, .iconst 0, 1), (91, .ireturn, 1), (92, .aload_n 0, 1)]
theorem kX12_readsCondition_3 : chkB cX12_readsCondition LX12_readsCondition_3 = true := by decide +kernel
theorem dX12_readsCondition_70 : decode cX12_readsCondition 70 = .ok (.goto 5, 3) := getB' kX12_readsCondition_3 0 rfl
theorem dX12_readsCondition_73 : decode cX12_readsCondition 73 = .ok (.bipush 13, 2) := getB' kX12_readsCondition_3 1 rfl
theorem dX12_readsCondition_75 : decode cX12_readsCondition 75 = .ok (.invokevirtual 482, 3) := getB' kX12_readsCondition_3 2 rfl
theorem dX12_readsCondition_78 : decode cX12_readsCondition 78 = .ok (.ifCond .ne (-38), 3) := getB' kX12_readsCondition_3 3 rfl
theorem dX12_readsCondition_81 : decode cX12_readsCondition 81 = .ok (.iconst 0, 1) := getB' kX12_readsCondition_3 4 rfl
theorem dX12_readsCondition_82 : decode cX12_readsCondition 82 = .ok (.ireturn, 1) := getB' kX12_readsCondition_3 5 rfl
theorem dX12_readsCondition_83 : decode cX12_readsCondition 83 = .ok (.aload_n 0, 1) := getB' kX12_readsCondition_3 6 rfl
theorem dX12_readsCondition_84 : decode cX12_readsCondition 84 = .ok (.invokevirtual 511, 3) := getB' kX12_readsCondition_3 7 rfl
theorem dX12_readsCondition_87 : decode cX12_readsCondition 87 = .ok (.ifCond .ne 5, 3) := getB' kX12_readsCondition_3 8 rfl
theorem dX12_readsCondition_90 : decode cX12_readsCondition 90 = .ok (.iconst 0, 1) := getB' kX12_readsCondition_3 9 rfl
theorem dX12_readsCondition_91 : decode cX12_readsCondition 91 = .ok (.ireturn, 1) := getB' kX12_readsCondition_3 10 rfl
theorem dX12_readsCondition_92 : decode cX12_readsCondition 92 = .ok (.aload_n 0, 1) := getB' kX12_readsCondition_3 11 rfl
def LX12_readsCondition_4 : List (Nat × Instr × Nat) := [(93, .invokevirtual 449, 3), (96, .bipush 41, 2), (98, .if_icmp .ne 54, 3), (101, .aload_n 0, 1), (102, .iconst 1, 1), (103, .invokevirtual 514, 3), (106, .aload_n 0, 1), (107, .aload_n 0, 1), (108, .getfield 473, 3), (111, .iconst 1, 1), (112, .isub, 1), (113, .putfield 473, 3)]
theorem kX12_readsCondition_4 : chkB cX12_readsCondition LX12_readsCondition_4 = true := by decide +kernel
theorem dX12_readsCondition_93 : decode cX12_readsCondition 93 = .ok (.invokevirtual 449, 3) := getB' kX12_readsCondition_4 0 rfl
theorem dX12_readsCondition_96 : decode cX12_readsCondition 96 = .ok (.bipush 41, 2) := getB' kX12_readsCondition_4 1 rfl
theorem dX12_readsCondition_98 : decode cX12_readsCondition 98 = .ok (.if_icmp .ne 54, 3) := getB' kX12_readsCondition_4 2 rfl
theorem dX12_readsCondition_101 : decode cX12_readsCondition 101 = .ok (.aload_n 0, 1) := getB' kX12_readsCondition_4 3 rfl
theorem dX12_readsCondition_102 : decode cX12_readsCondition 102 = .ok (.iconst 1, 1) := getB' kX12_readsCondition_4 4 rfl
theorem dX12_readsCondition_103 : decode cX12_readsCondition 103 = .ok (.invokevirtual 514, 3) := getB' kX12_readsCondition_4 5 rfl
theorem dX12_readsCondition_106 : decode cX12_readsCondition 106 = .ok (.aload_n 0, 1) := getB' kX12_readsCondition_4 6 rfl
theorem dX12_readsCondition_107 : decode cX12_readsCondition 107 = .ok (.aload_n 0, 1) := getB' kX12_readsCondition_4 7 rfl
theorem dX12_readsCondition_108 : decode cX12_readsCondition 108 = .ok (.getfield 473, 3) := getB' kX12_readsCondition_4 8 rfl
theorem dX12_readsCondition_111 : decode cX12_readsCondition 111 = .ok (.iconst 1, 1) := getB' kX12_readsCondition_4 9 rfl
theorem dX12_readsCondition_112 : decode cX12_readsCondition 112 = .ok (.isub, 1) := getB' kX12_readsCondition_4 10 rfl
theorem dX12_readsCondition_113 : decode cX12_readsCondition 113 = .ok (.putfield 473, 3) := getB' kX12_readsCondition_4 11 rfl
def LX12_readsCondition_5 : List (Nat × Instr × Nat) := [(116, .aload_n 0, 1), (117, .aload_n 0, 1), (118, .getfield 470, 3), (121, .iconst 1, 1), (122, .isub, 1), (123, .putfield 470, 3), (126, .aload_n 0, 1), (127, .aload_n 0, 1), (128, .getfield 443, 3), (131, .iconst 1, 1), (132, .iadd, 1), (133, .putfield 443, 3)]
theorem kX12_readsCondition_5 : chkB cX12_readsCondition LX12_readsCondition_5 = true := by decide +kernel
theorem dX12_readsCondition_116 : decode cX12_readsCondition 116 = .ok (.aload_n 0, 1) := getB' kX12_readsCondition_5 0 rfl
theorem dX12_readsCondition_117 : decode cX12_readsCondition 117 = .ok (.aload_n 0, 1) := getB' kX12_readsCondition_5 1 rfl
theorem dX12_readsCondition_118 : decode cX12_readsCondition 118 = .ok (.getfield 470, 3) := getB' kX12_readsCondition_5 2 rfl
theorem dX12_readsCondition_121 : decode cX12_readsCondition 121 = .ok (.iconst 1, 1) := getB' kX12_readsCondition_5 3 rfl
theorem dX12_readsCondition_122 : decode cX12_readsCondition 122 = .ok (.isub, 1) := getB' kX12_readsCondition_5 4 rfl
theorem dX12_readsCondition_123 : decode cX12_readsCondition 123 = .ok (.putfield 470, 3) := getB' kX12_readsCondition_5 5 rfl
theorem dX12_readsCondition_126 : decode cX12_readsCondition 126 = .ok (.aload_n 0, 1) := getB' kX12_readsCondition_5 6 rfl
theorem dX12_readsCondition_127 : decode cX12_readsCondition 127 = .ok (.aload_n 0, 1) := getB' kX12_readsCondition_5 7 rfl
theorem dX12_readsCondition_128 : decode cX12_readsCondition 128 = .ok (.getfield 443, 3) := getB' kX12_readsCondition_5 8 rfl
theorem dX12_readsCondition_131 : decode cX12_readsCondition 131 = .ok (.iconst 1, 1) := getB' kX12_readsCondition_5 9 rfl
theorem dX12_readsCondition_132 : decode cX12_readsCondition 132 = .ok (.iadd, 1) := getB' kX12_readsCondition_5 10 rfl
theorem dX12_readsCondition_133 : decode cX12_readsCondition 133 = .ok (.putfield 443, 3) := getB' kX12_readsCondition_5 11 rfl
def LX12_readsCondition_6 : List (Nat × Instr × Nat) := [(136, .aload_n 0, 1), (137, .getfield 473, 3), (140, .ifCond .ne 5, 3), (143, .iconst 1, 1), (144, .ireturn, 1), (145, .aload_n 0, 1), (146, .invokevirtual 508, 3), (149, .goto (-57), 3), (152, .aload_n 0, 1), (153, .invokevirtual 449, 3), (156, .bipush 38, 2), (158, .if_icmp .eq 22, 3)]
theorem kX12_readsCondition_6 : chkB cX12_readsCondition LX12_readsCondition_6 = true := by decide +kernel
theorem dX12_readsCondition_136 : decode cX12_readsCondition 136 = .ok (.aload_n 0, 1) := getB' kX12_readsCondition_6 0 rfl
theorem dX12_readsCondition_137 : decode cX12_readsCondition 137 = .ok (.getfield 473, 3) := getB' kX12_readsCondition_6 1 rfl
theorem dX12_readsCondition_140 : decode cX12_readsCondition 140 = .ok (.ifCond .ne 5, 3) := getB' kX12_readsCondition_6 2 rfl
theorem dX12_readsCondition_143 : decode cX12_readsCondition 143 = .ok (.iconst 1, 1) := getB' kX12_readsCondition_6 3 rfl
theorem dX12_readsCondition_144 : decode cX12_readsCondition 144 = .ok (.ireturn, 1) := getB' kX12_readsCondition_6 4 rfl
theorem dX12_readsCondition_145 : decode cX12_readsCondition 145 = .ok (.aload_n 0, 1) := getB' kX12_readsCondition_6 5 rfl
theorem dX12_readsCondition_146 : decode cX12_readsCondition 146 = .ok (.invokevirtual 508, 3) := getB' kX12_readsCondition_6 6 rfl
theorem dX12_readsCondition_149 : decode cX12_readsCondition 149 = .ok (.goto (-57), 3) := getB' kX12_readsCondition_6 7 rfl
theorem dX12_readsCondition_152 : decode cX12_readsCondition 152 = .ok (.aload_n 0, 1) := getB' kX12_readsCondition_6 8 rfl
theorem dX12_readsCondition_153 : decode cX12_readsCondition 153 = .ok (.invokevirtual 449, 3) := getB' kX12_readsCondition_6 9 rfl
theorem dX12_readsCondition_156 : decode cX12_readsCondition 156 = .ok (.bipush 38, 2) := getB' kX12_readsCondition_6 10 rfl
theorem dX12_readsCondition_158 : decode cX12_readsCondition 158 = .ok (.if_icmp .eq 22, 3) := getB' kX12_readsCondition_6 11 rfl
def LX12_readsCondition_7 : List (Nat × Instr × Nat) := [(161, .aload_n 0, 1), (162, .invokevirtual 449, 3), (165, .bipush 124, 2), (167, .if_icmp .eq 13, 3), (170, .aload_n 0, 1), (171, .iconst 1, 1), (172, .aload_n 0, 1), (173, .getfield 443, 3), (176, .invokevirtual 456, 3), (179, .ireturn, 1), (180, .aload_n 0, 1), (181, .aload_n 0, 1)]
theorem kX12_readsCondition_7 : chkB cX12_readsCondition LX12_readsCondition_7 = true := by decide +kernel
theorem dX12_readsCondition_161 : decode cX12_readsCondition 161 = .ok (.aload_n 0, 1) := getB' kX12_readsCondition_7 0 rfl
theorem dX12_readsCondition_162 : decode cX12_readsCondition 162 = .ok (.invokevirtual 449, 3) := getB' kX12_readsCondition_7 1 rfl
theorem dX12_readsCondition_165 : decode cX12_readsCondition 165 = .ok (.bipush 124, 2) := getB' kX12_readsCondition_7 2 rfl
theorem dX12_readsCondition_167 : decode cX12_readsCondition 167 = .ok (.if_icmp .eq 13, 3) := getB' kX12_readsCondition_7 3 rfl
theorem dX12_readsCondition_170 : decode cX12_readsCondition 170 = .ok (.aload_n 0, 1) := getB' kX12_readsCondition_7 4 rfl
theorem dX12_readsCondition_171 : decode cX12_readsCondition 171 = .ok (.iconst 1, 1) := getB' kX12_readsCondition_7 5 rfl
theorem dX12_readsCondition_172 : decode cX12_readsCondition 172 = .ok (.aload_n 0, 1) := getB' kX12_readsCondition_7 6 rfl
theorem dX12_readsCondition_173 : decode cX12_readsCondition 173 = .ok (.getfield 443, 3) := getB' kX12_readsCondition_7 7 rfl
theorem dX12_readsCondition_176 : decode cX12_readsCondition 176 = .ok (.invokevirtual 456, 3) := getB' kX12_readsCondition_7 8 rfl
theorem dX12_readsCondition_179 : decode cX12_readsCondition 179 = .ok (.ireturn, 1) := getB' kX12_readsCondition_7 9 rfl
theorem dX12_readsCondition_180 : decode cX12_readsCondition 180 = .ok (.aload_n 0, 1) := getB' kX12_readsCondition_7 10 rfl
theorem dX12_readsCondition_181 : decode cX12_readsCondition 181 = .ok (.aload_n 0, 1) := getB' kX12_readsCondition_7 11 rfl
def LX12_readsCondition_8 : List (Nat × Instr × Nat) := [(182, .invokevirtual 449, 3), (185, .bipush 124, 2), (187, .if_icmp .ne 7, 3), (190, .iconst 1, 1), (191, .goto 4, 3), (194, .iconst 0, 1), (195, .invokevirtual 514, 3), (198, .aload_n 0, 1), (199, .aload_n 0, 1), (200, .invokevirtual 449, 3), (203, .bipush 38, 2), (205, .if_icmp .ne 8, 3)]
theorem kX12_readsCondition_8 : chkB cX12_readsCondition LX12_readsCondition_8 = true := by decide +kernel
theorem dX12_readsCondition_182 : decode cX12_readsCondition 182 = .ok (.invokevirtual 449, 3) := getB' kX12_readsCondition_8 0 rfl
theorem dX12_readsCondition_185 : decode cX12_readsCondition 185 = .ok (.bipush 124, 2) := getB' kX12_readsCondition_8 1 rfl
theorem dX12_readsCondition_187 : decode cX12_readsCondition 187 = .ok (.if_icmp .ne 7, 3) := getB' kX12_readsCondition_8 2 rfl
theorem dX12_readsCondition_190 : decode cX12_readsCondition 190 = .ok (.iconst 1, 1) := getB' kX12_readsCondition_8 3 rfl
theorem dX12_readsCondition_191 : decode cX12_readsCondition 191 = .ok (.goto 4, 3) := getB' kX12_readsCondition_8 4 rfl
theorem dX12_readsCondition_194 : decode cX12_readsCondition 194 = .ok (.iconst 0, 1) := getB' kX12_readsCondition_8 5 rfl
theorem dX12_readsCondition_195 : decode cX12_readsCondition 195 = .ok (.invokevirtual 514, 3) := getB' kX12_readsCondition_8 6 rfl
theorem dX12_readsCondition_198 : decode cX12_readsCondition 198 = .ok (.aload_n 0, 1) := getB' kX12_readsCondition_8 7 rfl
theorem dX12_readsCondition_199 : decode cX12_readsCondition 199 = .ok (.aload_n 0, 1) := getB' kX12_readsCondition_8 8 rfl
theorem dX12_readsCondition_200 : decode cX12_readsCondition 200 = .ok (.invokevirtual 449, 3) := getB' kX12_readsCondition_8 9 rfl
theorem dX12_readsCondition_203 : decode cX12_readsCondition 203 = .ok (.bipush 38, 2) := getB' kX12_readsCondition_8 10 rfl
theorem dX12_readsCondition_205 : decode cX12_readsCondition 205 = .ok (.if_icmp .ne 8, 3) := getB' kX12_readsCondition_8 11 rfl
def LX12_readsCondition_9 : List (Nat × Instr × Nat) := [(208, .bipush 11, 2), (210, .goto 5, 3), (213, .bipush 12, 2), (215, .invokevirtual 517, 3), (218, .goto (-178), 3)]
theorem kX12_readsCondition_9 : chkB cX12_readsCondition LX12_readsCondition_9 = true := by decide +kernel
theorem dX12_readsCondition_208 : decode cX12_readsCondition 208 = .ok (.bipush 11, 2) := getB' kX12_readsCondition_9 0 rfl
theorem dX12_readsCondition_210 : decode cX12_readsCondition 210 = .ok (.goto 5, 3) := getB' kX12_readsCondition_9 1 rfl
theorem dX12_readsCondition_213 : decode cX12_readsCondition 213 = .ok (.bipush 12, 2) := getB' kX12_readsCondition_9 2 rfl
theorem dX12_readsCondition_215 : decode cX12_readsCondition 215 = .ok (.invokevirtual 517, 3) := getB' kX12_readsCondition_9 3 rfl
theorem dX12_readsCondition_218 : decode cX12_readsCondition 218 = .ok (.goto (-178), 3) := getB' kX12_readsCondition_9 4 rfl
def LX12_isAsking_0 : List (Nat × Instr × Nat) := [(0, .iload_n 0, 1), (1, .bipush 102, 2), (3, .if_icmp .eq 27, 3), (6, .iload_n 0, 1), (7, .bipush 108, 2), (9, .if_icmp .eq 21, 3), (12, .iload_n 0, 1), (13, .bipush 110, 2), (15, .if_icmp .eq 15, 3), (18, .iload_n 0, 1), (19, .bipush 115, 2), (21, .if_icmp .eq 9, 3)]
theorem kX12_isAsking_0 : chkB cX12_isAsking LX12_isAsking_0 = true := by decide +kernel
theorem dX12_isAsking_0 : decode cX12_isAsking 0 = .ok (.iload_n 0, 1) := getB' kX12_isAsking_0 0 rfl
theorem dX12_isAsking_1 : decode cX12_isAsking 1 = .ok (.bipush 102, 2) := getB' kX12_isAsking_0 1 rfl
theorem dX12_isAsking_3 : decode cX12_isAsking 3 = .ok (.if_icmp .eq 27, 3) := getB' kX12_isAsking_0 2 rfl
theorem dX12_isAsking_6 : decode cX12_isAsking 6 = .ok (.iload_n 0, 1) := getB' kX12_isAsking_0 3 rfl
theorem dX12_isAsking_7 : decode cX12_isAsking 7 = .ok (.bipush 108, 2) := getB' kX12_isAsking_0 4 rfl
theorem dX12_isAsking_9 : decode cX12_isAsking 9 = .ok (.if_icmp .eq 21, 3) := getB' kX12_isAsking_0 5 rfl
theorem dX12_isAsking_12 : decode cX12_isAsking 12 = .ok (.iload_n 0, 1) := getB' kX12_isAsking_0 6 rfl
theorem dX12_isAsking_13 : decode cX12_isAsking 13 = .ok (.bipush 110, 2) := getB' kX12_isAsking_0 7 rfl
theorem dX12_isAsking_15 : decode cX12_isAsking 15 = .ok (.if_icmp .eq 15, 3) := getB' kX12_isAsking_0 8 rfl
theorem dX12_isAsking_18 : decode cX12_isAsking 18 = .ok (.iload_n 0, 1) := getB' kX12_isAsking_0 9 rfl
theorem dX12_isAsking_19 : decode cX12_isAsking 19 = .ok (.bipush 115, 2) := getB' kX12_isAsking_0 10 rfl
theorem dX12_isAsking_21 : decode cX12_isAsking 21 = .ok (.if_icmp .eq 9, 3) := getB' kX12_isAsking_0 11 rfl
def LX12_isAsking_1 : List (Nat × Instr × Nat) := [(24, .iload_n 0, 1), (25, .bipush 99, 2), (27, .if_icmp .ne 7, 3), (30, .iconst 1, 1), (31, .goto 4, 3), (34, .iconst 0, 1), (35, .ireturn, 1)]
theorem kX12_isAsking_1 : chkB cX12_isAsking LX12_isAsking_1 = true := by decide +kernel
theorem dX12_isAsking_24 : decode cX12_isAsking 24 = .ok (.iload_n 0, 1) := getB' kX12_isAsking_1 0 rfl
theorem dX12_isAsking_25 : decode cX12_isAsking 25 = .ok (.bipush 99, 2) := getB' kX12_isAsking_1 1 rfl
theorem dX12_isAsking_27 : decode cX12_isAsking 27 = .ok (.if_icmp .ne 7, 3) := getB' kX12_isAsking_1 2 rfl
theorem dX12_isAsking_30 : decode cX12_isAsking 30 = .ok (.iconst 1, 1) := getB' kX12_isAsking_1 3 rfl
theorem dX12_isAsking_31 : decode cX12_isAsking 31 = .ok (.goto 4, 3) := getB' kX12_isAsking_1 4 rfl
theorem dX12_isAsking_34 : decode cX12_isAsking 34 = .ok (.iconst 0, 1) := getB' kX12_isAsking_1 5 rfl
theorem dX12_isAsking_35 : decode cX12_isAsking 35 = .ok (.ireturn, 1) := getB' kX12_isAsking_1 6 rfl
def LX12_isLetter_0 : List (Nat × Instr × Nat) := [(0, .iload_n 0, 1), (1, .invokestatic 520, 3), (4, .ifCond .ne 39, 3), (7, .iload_n 0, 1), (8, .bipush 122, 2), (10, .if_icmp .eq 33, 3), (13, .iload_n 0, 1), (14, .bipush 97, 2), (16, .if_icmp .eq 27, 3), (19, .iload_n 0, 1), (20, .bipush 113, 2), (22, .if_icmp .eq 21, 3)]
theorem kX12_isLetter_0 : chkB cX12_isLetter LX12_isLetter_0 = true := by decide +kernel
theorem dX12_isLetter_0 : decode cX12_isLetter 0 = .ok (.iload_n 0, 1) := getB' kX12_isLetter_0 0 rfl
theorem dX12_isLetter_1 : decode cX12_isLetter 1 = .ok (.invokestatic 520, 3) := getB' kX12_isLetter_0 1 rfl
theorem dX12_isLetter_4 : decode cX12_isLetter 4 = .ok (.ifCond .ne 39, 3) := getB' kX12_isLetter_0 2 rfl
theorem dX12_isLetter_7 : decode cX12_isLetter 7 = .ok (.iload_n 0, 1) := getB' kX12_isLetter_0 3 rfl
theorem dX12_isLetter_8 : decode cX12_isLetter 8 = .ok (.bipush 122, 2) := getB' kX12_isLetter_0 4 rfl
theorem dX12_isLetter_10 : decode cX12_isLetter 10 = .ok (.if_icmp .eq 33, 3) := getB' kX12_isLetter_0 5 rfl
theorem dX12_isLetter_13 : decode cX12_isLetter 13 = .ok (.iload_n 0, 1) := getB' kX12_isLetter_0 6 rfl
theorem dX12_isLetter_14 : decode cX12_isLetter 14 = .ok (.bipush 97, 2) := getB' kX12_isLetter_0 7 rfl
theorem dX12_isLetter_16 : decode cX12_isLetter 16 = .ok (.if_icmp .eq 27, 3) := getB' kX12_isLetter_0 8 rfl
theorem dX12_isLetter_19 : decode cX12_isLetter 19 = .ok (.iload_n 0, 1) := getB' kX12_isLetter_0 9 rfl
theorem dX12_isLetter_20 : decode cX12_isLetter 20 = .ok (.bipush 113, 2) := getB' kX12_isLetter_0 10 rfl
theorem dX12_isLetter_22 : decode cX12_isLetter 22 = .ok (.if_icmp .eq 21, 3) := getB' kX12_isLetter_0 11 rfl
def LX12_isLetter_1 : List (Nat × Instr × Nat) := [(25, .iload_n 0, 1), (26, .bipush 107, 2), (28, .if_icmp .eq 15, 3), (31, .iload_n 0, 1), (32, .bipush 103, 2), (34, .if_icmp .eq 9, 3), (37, .iload_n 0, 1), (38, .bipush 120, 2), (40, .if_icmp .ne 7, 3), (43, .iconst 1, 1), (44, .goto 4, 3), (47, .iconst 0, 1)]
theorem kX12_isLetter_1 : chkB cX12_isLetter LX12_isLetter_1 = true := by decide +kernel
theorem dX12_isLetter_25 : decode cX12_isLetter 25 = .ok (.iload_n 0, 1) := getB' kX12_isLetter_1 0 rfl
theorem dX12_isLetter_26 : decode cX12_isLetter 26 = .ok (.bipush 107, 2) := getB' kX12_isLetter_1 1 rfl
theorem dX12_isLetter_28 : decode cX12_isLetter 28 = .ok (.if_icmp .eq 15, 3) := getB' kX12_isLetter_1 2 rfl
theorem dX12_isLetter_31 : decode cX12_isLetter 31 = .ok (.iload_n 0, 1) := getB' kX12_isLetter_1 3 rfl
theorem dX12_isLetter_32 : decode cX12_isLetter 32 = .ok (.bipush 103, 2) := getB' kX12_isLetter_1 4 rfl
theorem dX12_isLetter_34 : decode cX12_isLetter 34 = .ok (.if_icmp .eq 9, 3) := getB' kX12_isLetter_1 5 rfl
theorem dX12_isLetter_37 : decode cX12_isLetter 37 = .ok (.iload_n 0, 1) := getB' kX12_isLetter_1 6 rfl
theorem dX12_isLetter_38 : decode cX12_isLetter 38 = .ok (.bipush 120, 2) := getB' kX12_isLetter_1 7 rfl
theorem dX12_isLetter_40 : decode cX12_isLetter 40 = .ok (.if_icmp .ne 7, 3) := getB' kX12_isLetter_1 8 rfl
theorem dX12_isLetter_43 : decode cX12_isLetter 43 = .ok (.iconst 1, 1) := getB' kX12_isLetter_1 9 rfl
theorem dX12_isLetter_44 : decode cX12_isLetter 44 = .ok (.goto 4, 3) := getB' kX12_isLetter_1 10 rfl
theorem dX12_isLetter_47 : decode cX12_isLetter 47 = .ok (.iconst 0, 1) := getB' kX12_isLetter_1 11 rfl
def LX12_isLetter_2 : List (Nat × Instr × Nat) := [(48, .ireturn, 1)]
theorem kX12_isLetter_2 : chkB cX12_isLetter LX12_isLetter_2 = true := by decide +kernel
theorem dX12_isLetter_48 : decode cX12_isLetter 48 = .ok (.ireturn, 1) := getB' kX12_isLetter_2 0 rfl
def LX12_readsClause_0 : List (Nat × Instr × Nat) := [(0, .aload_n 0, 1), (1, .invokevirtual 449, 3), (4, .istore_n 1, 1), (5, .iload_n 1, 1), (6, .invokestatic 523, 3), (9, .ifCond .ne 13, 3), (12, .aload_n 0, 1), (13, .iconst 1, 1), (14, .aload_n 0, 1), (15, .getfield 443, 3), (18, .invokevirtual 456, 3), (21, .ireturn, 1)]
theorem kX12_readsClause_0 : chkB cX12_readsClause LX12_readsClause_0 = true := by decide +kernel
theorem dX12_readsClause_0 : decode cX12_readsClause 0 = .ok (.aload_n 0, 1) := getB' kX12_readsClause_0 0 rfl
theorem dX12_readsClause_1 : decode cX12_readsClause 1 = .ok (.invokevirtual 449, 3) := getB' kX12_readsClause_0 1 rfl
theorem dX12_readsClause_4 : decode cX12_readsClause 4 = .ok (.istore_n 1, 1) := getB' kX12_readsClause_0 2 rfl
theorem dX12_readsClause_5 : decode cX12_readsClause 5 = .ok (.iload_n 1, 1) := getB' kX12_readsClause_0 3 rfl
theorem dX12_readsClause_6 : decode cX12_readsClause 6 = .ok (.invokestatic 523, 3) := getB' kX12_readsClause_0 4 rfl
theorem dX12_readsClause_9 : decode cX12_readsClause 9 = .ok (.ifCond .ne 13, 3) := getB' kX12_readsClause_0 5 rfl
theorem dX12_readsClause_12 : decode cX12_readsClause 12 = .ok (.aload_n 0, 1) := getB' kX12_readsClause_0 6 rfl
theorem dX12_readsClause_13 : decode cX12_readsClause 13 = .ok (.iconst 1, 1) := getB' kX12_readsClause_0 7 rfl
theorem dX12_readsClause_14 : decode cX12_readsClause 14 = .ok (.aload_n 0, 1) := getB' kX12_readsClause_0 8 rfl
theorem dX12_readsClause_15 : decode cX12_readsClause 15 = .ok (.getfield 443, 3) := getB' kX12_readsClause_0 9 rfl
theorem dX12_readsClause_18 : decode cX12_readsClause 18 = .ok (.invokevirtual 456, 3) := getB' kX12_readsClause_0 10 rfl
theorem dX12_readsClause_21 : decode cX12_readsClause 21 = .ok (.ireturn, 1) := getB' kX12_readsClause_0 11 rfl
def LX12_readsClause_1 : List (Nat × Instr × Nat) := [(22, .aload_n 0, 1), (23, .getfield 526, 3), (26, .bipush 12, 2), (28, .if_icmp .ne 13, 3), (31, .aload_n 0, 1), (32, .iconst 4, 1), (33, .aload_n 0, 1), (34, .getfield 443, 3), (37, .invokevirtual 456, 3), (40, .ireturn, 1), (41, .aload_n 0, 1), (42, .aload_n 0, 1)]
theorem kX12_readsClause_1 : chkB cX12_readsClause LX12_readsClause_1 = true := by decide +kernel
theorem dX12_readsClause_22 : decode cX12_readsClause 22 = .ok (.aload_n 0, 1) := getB' kX12_readsClause_1 0 rfl
theorem dX12_readsClause_23 : decode cX12_readsClause 23 = .ok (.getfield 526, 3) := getB' kX12_readsClause_1 1 rfl
theorem dX12_readsClause_26 : decode cX12_readsClause 26 = .ok (.bipush 12, 2) := getB' kX12_readsClause_1 2 rfl
theorem dX12_readsClause_28 : decode cX12_readsClause 28 = .ok (.if_icmp .ne 13, 3) := getB' kX12_readsClause_1 3 rfl
theorem dX12_readsClause_31 : decode cX12_readsClause 31 = .ok (.aload_n 0, 1) := getB' kX12_readsClause_1 4 rfl
theorem dX12_readsClause_32 : decode cX12_readsClause 32 = .ok (.iconst 4, 1) := getB' kX12_readsClause_1 5 rfl
theorem dX12_readsClause_33 : decode cX12_readsClause 33 = .ok (.aload_n 0, 1) := getB' kX12_readsClause_1 6 rfl
theorem dX12_readsClause_34 : decode cX12_readsClause 34 = .ok (.getfield 443, 3) := getB' kX12_readsClause_1 7 rfl
theorem dX12_readsClause_37 : decode cX12_readsClause 37 = .ok (.invokevirtual 456, 3) := getB' kX12_readsClause_1 8 rfl
theorem dX12_readsClause_40 : decode cX12_readsClause 40 = .ok (.ireturn, 1) := getB' kX12_readsClause_1 9 rfl
theorem dX12_readsClause_41 : decode cX12_readsClause 41 = .ok (.aload_n 0, 1) := getB' kX12_readsClause_1 10 rfl
theorem dX12_readsClause_42 : decode cX12_readsClause 42 = .ok (.aload_n 0, 1) := getB' kX12_readsClause_1 11 rfl
def LX12_readsClause_2 : List (Nat × Instr × Nat) := [(43, .getfield 443, 3), (46, .iconst 1, 1), (47, .iadd, 1), (48, .putfield 443, 3), (51, .aload_n 0, 1), (52, .getfield 526, 3), (55, .istore_n 2, 1), (56, .aload_n 0, 1), (57, .getfield 94, 3), (60, .iload_n 2, 1), (61, .iload_n 1, 1), (62, .iastore, 1)]
theorem kX12_readsClause_2 : chkB cX12_readsClause LX12_readsClause_2 = true := by decide +kernel
theorem dX12_readsClause_43 : decode cX12_readsClause 43 = .ok (.getfield 443, 3) := getB' kX12_readsClause_2 0 rfl
theorem dX12_readsClause_46 : decode cX12_readsClause 46 = .ok (.iconst 1, 1) := getB' kX12_readsClause_2 1 rfl
theorem dX12_readsClause_47 : decode cX12_readsClause 47 = .ok (.iadd, 1) := getB' kX12_readsClause_2 2 rfl
theorem dX12_readsClause_48 : decode cX12_readsClause 48 = .ok (.putfield 443, 3) := getB' kX12_readsClause_2 3 rfl
theorem dX12_readsClause_51 : decode cX12_readsClause 51 = .ok (.aload_n 0, 1) := getB' kX12_readsClause_2 4 rfl
theorem dX12_readsClause_52 : decode cX12_readsClause 52 = .ok (.getfield 526, 3) := getB' kX12_readsClause_2 5 rfl
theorem dX12_readsClause_55 : decode cX12_readsClause 55 = .ok (.istore_n 2, 1) := getB' kX12_readsClause_2 6 rfl
theorem dX12_readsClause_56 : decode cX12_readsClause 56 = .ok (.aload_n 0, 1) := getB' kX12_readsClause_2 7 rfl
theorem dX12_readsClause_57 : decode cX12_readsClause 57 = .ok (.getfield 94, 3) := getB' kX12_readsClause_2 8 rfl
theorem dX12_readsClause_60 : decode cX12_readsClause 60 = .ok (.iload_n 2, 1) := getB' kX12_readsClause_2 9 rfl
theorem dX12_readsClause_61 : decode cX12_readsClause 61 = .ok (.iload_n 1, 1) := getB' kX12_readsClause_2 10 rfl
theorem dX12_readsClause_62 : decode cX12_readsClause 62 = .ok (.iastore, 1) := getB' kX12_readsClause_2 11 rfl
def LX12_readsClause_3 : List (Nat × Instr × Nat) := [(63, .aload_n 0, 1), (64, .getfield 103, 3), (67, .iload_n 2, 1), (68, .iconst 0, 1), (69, .iastore, 1), (70, .aload_n 0, 1), (71, .getfield 106, 3), (74, .iload_n 2, 1), (75, .iconst 0, 1), (76, .iastore, 1), (77, .aload_n 0, 1), (78, .getfield 109, 3)]
theorem kX12_readsClause_3 : chkB cX12_readsClause LX12_readsClause_3 = true := by decide +kernel
theorem dX12_readsClause_63 : decode cX12_readsClause 63 = .ok (.aload_n 0, 1) := getB' kX12_readsClause_3 0 rfl
theorem dX12_readsClause_64 : decode cX12_readsClause 64 = .ok (.getfield 103, 3) := getB' kX12_readsClause_3 1 rfl
theorem dX12_readsClause_67 : decode cX12_readsClause 67 = .ok (.iload_n 2, 1) := getB' kX12_readsClause_3 2 rfl
theorem dX12_readsClause_68 : decode cX12_readsClause 68 = .ok (.iconst 0, 1) := getB' kX12_readsClause_3 3 rfl
theorem dX12_readsClause_69 : decode cX12_readsClause 69 = .ok (.iastore, 1) := getB' kX12_readsClause_3 4 rfl
theorem dX12_readsClause_70 : decode cX12_readsClause 70 = .ok (.aload_n 0, 1) := getB' kX12_readsClause_3 5 rfl
theorem dX12_readsClause_71 : decode cX12_readsClause 71 = .ok (.getfield 106, 3) := getB' kX12_readsClause_3 6 rfl
theorem dX12_readsClause_74 : decode cX12_readsClause 74 = .ok (.iload_n 2, 1) := getB' kX12_readsClause_3 7 rfl
theorem dX12_readsClause_75 : decode cX12_readsClause 75 = .ok (.iconst 0, 1) := getB' kX12_readsClause_3 8 rfl
theorem dX12_readsClause_76 : decode cX12_readsClause 76 = .ok (.iastore, 1) := getB' kX12_readsClause_3 9 rfl
theorem dX12_readsClause_77 : decode cX12_readsClause 77 = .ok (.aload_n 0, 1) := getB' kX12_readsClause_3 10 rfl
theorem dX12_readsClause_78 : decode cX12_readsClause 78 = .ok (.getfield 109, 3) := getB' kX12_readsClause_3 11 rfl
def LX12_readsClause_4 : List (Nat × Instr × Nat) := [(81, .iload_n 2, 1), (82, .iconst 0, 1), (83, .iastore, 1), (84, .aload_n 0, 1), (85, .getfield 97, 3), (88, .iload_n 2, 1), (89, .aload_n 0, 1), (90, .getfield 466, 3), (93, .iastore, 1), (94, .iload_n 1, 1), (95, .invokestatic 520, 3), (98, .ifCond .eq 12, 3)]
theorem kX12_readsClause_4 : chkB cX12_readsClause LX12_readsClause_4 = true := by decide +kernel
theorem dX12_readsClause_81 : decode cX12_readsClause 81 = .ok (.iload_n 2, 1) := getB' kX12_readsClause_4 0 rfl
theorem dX12_readsClause_82 : decode cX12_readsClause 82 = .ok (.iconst 0, 1) := getB' kX12_readsClause_4 1 rfl
theorem dX12_readsClause_83 : decode cX12_readsClause 83 = .ok (.iastore, 1) := getB' kX12_readsClause_4 2 rfl
theorem dX12_readsClause_84 : decode cX12_readsClause 84 = .ok (.aload_n 0, 1) := getB' kX12_readsClause_4 3 rfl
theorem dX12_readsClause_85 : decode cX12_readsClause 85 = .ok (.getfield 97, 3) := getB' kX12_readsClause_4 4 rfl
theorem dX12_readsClause_88 : decode cX12_readsClause 88 = .ok (.iload_n 2, 1) := getB' kX12_readsClause_4 5 rfl
theorem dX12_readsClause_89 : decode cX12_readsClause 89 = .ok (.aload_n 0, 1) := getB' kX12_readsClause_4 6 rfl
theorem dX12_readsClause_90 : decode cX12_readsClause 90 = .ok (.getfield 466, 3) := getB' kX12_readsClause_4 7 rfl
theorem dX12_readsClause_93 : decode cX12_readsClause 93 = .ok (.iastore, 1) := getB' kX12_readsClause_4 8 rfl
theorem dX12_readsClause_94 : decode cX12_readsClause 94 = .ok (.iload_n 1, 1) := getB' kX12_readsClause_4 9 rfl
theorem dX12_readsClause_95 : decode cX12_readsClause 95 = .ok (.invokestatic 520, 3) := getB' kX12_readsClause_4 10 rfl
theorem dX12_readsClause_98 : decode cX12_readsClause 98 = .ok (.ifCond .eq 12, 3) := getB' kX12_readsClause_4 11 rfl
def LX12_readsClause_5 : List (Nat × Instr × Nat) := [(101, .aload_n 0, 1), (102, .invokevirtual 529, 3), (105, .ifCond .ne 5, 3), (108, .iconst 0, 1), (109, .ireturn, 1), (110, .aload_n 0, 1), (111, .getfield 100, 3), (114, .iload_n 2, 1), (115, .aload_n 0, 1), (116, .getfield 466, 3), (119, .iastore, 1), (120, .iload_n 1, 1)]
theorem kX12_readsClause_5 : chkB cX12_readsClause LX12_readsClause_5 = true := by decide +kernel
theorem dX12_readsClause_101 : decode cX12_readsClause 101 = .ok (.aload_n 0, 1) := getB' kX12_readsClause_5 0 rfl
theorem dX12_readsClause_102 : decode cX12_readsClause 102 = .ok (.invokevirtual 529, 3) := getB' kX12_readsClause_5 1 rfl
theorem dX12_readsClause_105 : decode cX12_readsClause 105 = .ok (.ifCond .ne 5, 3) := getB' kX12_readsClause_5 2 rfl
theorem dX12_readsClause_108 : decode cX12_readsClause 108 = .ok (.iconst 0, 1) := getB' kX12_readsClause_5 3 rfl
theorem dX12_readsClause_109 : decode cX12_readsClause 109 = .ok (.ireturn, 1) := getB' kX12_readsClause_5 4 rfl
theorem dX12_readsClause_110 : decode cX12_readsClause 110 = .ok (.aload_n 0, 1) := getB' kX12_readsClause_5 5 rfl
theorem dX12_readsClause_111 : decode cX12_readsClause 111 = .ok (.getfield 100, 3) := getB' kX12_readsClause_5 6 rfl
theorem dX12_readsClause_114 : decode cX12_readsClause 114 = .ok (.iload_n 2, 1) := getB' kX12_readsClause_5 7 rfl
theorem dX12_readsClause_115 : decode cX12_readsClause 115 = .ok (.aload_n 0, 1) := getB' kX12_readsClause_5 8 rfl
theorem dX12_readsClause_116 : decode cX12_readsClause 116 = .ok (.getfield 466, 3) := getB' kX12_readsClause_5 9 rfl
theorem dX12_readsClause_119 : decode cX12_readsClause 119 = .ok (.iastore, 1) := getB' kX12_readsClause_5 10 rfl
theorem dX12_readsClause_120 : decode cX12_readsClause 120 = .ok (.iload_n 1, 1) := getB' kX12_readsClause_5 11 rfl
def LX12_readsClause_6 : List (Nat × Instr × Nat) := [(121, .bipush 107, 2), (123, .if_icmp .eq 9, 3), (126, .iload_n 1, 1), (127, .bipush 120, 2), (129, .if_icmp .ne 91, 3), (132, .aload_n 0, 1), (133, .iload_n 1, 1), (134, .bipush 107, 2), (136, .if_icmp .ne 7, 3), (139, .iconst 3, 1), (140, .goto 5, 3), (143, .bipush 19, 2)]
theorem kX12_readsClause_6 : chkB cX12_readsClause LX12_readsClause_6 = true := by decide +kernel
theorem dX12_readsClause_121 : decode cX12_readsClause 121 = .ok (.bipush 107, 2) := getB' kX12_readsClause_6 0 rfl
theorem dX12_readsClause_123 : decode cX12_readsClause 123 = .ok (.if_icmp .eq 9, 3) := getB' kX12_readsClause_6 1 rfl
theorem dX12_readsClause_126 : decode cX12_readsClause 126 = .ok (.iload_n 1, 1) := getB' kX12_readsClause_6 2 rfl
theorem dX12_readsClause_127 : decode cX12_readsClause 127 = .ok (.bipush 120, 2) := getB' kX12_readsClause_6 3 rfl
theorem dX12_readsClause_129 : decode cX12_readsClause 129 = .ok (.if_icmp .ne 91, 3) := getB' kX12_readsClause_6 4 rfl
theorem dX12_readsClause_132 : decode cX12_readsClause 132 = .ok (.aload_n 0, 1) := getB' kX12_readsClause_6 5 rfl
theorem dX12_readsClause_133 : decode cX12_readsClause 133 = .ok (.iload_n 1, 1) := getB' kX12_readsClause_6 6 rfl
theorem dX12_readsClause_134 : decode cX12_readsClause 134 = .ok (.bipush 107, 2) := getB' kX12_readsClause_6 7 rfl
theorem dX12_readsClause_136 : decode cX12_readsClause 136 = .ok (.if_icmp .ne 7, 3) := getB' kX12_readsClause_6 8 rfl
theorem dX12_readsClause_139 : decode cX12_readsClause 139 = .ok (.iconst 3, 1) := getB' kX12_readsClause_6 9 rfl
theorem dX12_readsClause_140 : decode cX12_readsClause 140 = .ok (.goto 5, 3) := getB' kX12_readsClause_6 10 rfl
theorem dX12_readsClause_143 : decode cX12_readsClause 143 = .ok (.bipush 19, 2) := getB' kX12_readsClause_6 11 rfl
def LX12_readsClause_7 : List (Nat × Instr × Nat) := [(145, .invokevirtual 486, 3), (148, .ifCond .ne 5, 3), (151, .iconst 0, 1), (152, .ireturn, 1), (153, .aload_n 0, 1), (154, .getfield 106, 3), (157, .iload_n 2, 1), (158, .aload_n 0, 1), (159, .getfield 459, 3), (162, .iastore, 1), (163, .aload_n 0, 1), (164, .bipush 46, 2)]
theorem kX12_readsClause_7 : chkB cX12_readsClause LX12_readsClause_7 = true := by decide +kernel
theorem dX12_readsClause_145 : decode cX12_readsClause 145 = .ok (.invokevirtual 486, 3) := getB' kX12_readsClause_7 0 rfl
theorem dX12_readsClause_148 : decode cX12_readsClause 148 = .ok (.ifCond .ne 5, 3) := getB' kX12_readsClause_7 1 rfl
theorem dX12_readsClause_151 : decode cX12_readsClause 151 = .ok (.iconst 0, 1) := getB' kX12_readsClause_7 2 rfl
theorem dX12_readsClause_152 : decode cX12_readsClause 152 = .ok (.ireturn, 1) := getB' kX12_readsClause_7 3 rfl
theorem dX12_readsClause_153 : decode cX12_readsClause 153 = .ok (.aload_n 0, 1) := getB' kX12_readsClause_7 4 rfl
theorem dX12_readsClause_154 : decode cX12_readsClause 154 = .ok (.getfield 106, 3) := getB' kX12_readsClause_7 5 rfl
theorem dX12_readsClause_157 : decode cX12_readsClause 157 = .ok (.iload_n 2, 1) := getB' kX12_readsClause_7 6 rfl
theorem dX12_readsClause_158 : decode cX12_readsClause 158 = .ok (.aload_n 0, 1) := getB' kX12_readsClause_7 7 rfl
theorem dX12_readsClause_159 : decode cX12_readsClause 159 = .ok (.getfield 459, 3) := getB' kX12_readsClause_7 8 rfl
theorem dX12_readsClause_162 : decode cX12_readsClause 162 = .ok (.iastore, 1) := getB' kX12_readsClause_7 9 rfl
theorem dX12_readsClause_163 : decode cX12_readsClause 163 = .ok (.aload_n 0, 1) := getB' kX12_readsClause_7 10 rfl
theorem dX12_readsClause_164 : decode cX12_readsClause 164 = .ok (.bipush 46, 2) := getB' kX12_readsClause_7 11 rfl
def LX12_readsClause_8 : List (Nat × Instr × Nat) := [(166, .invokevirtual 532, 3), (169, .ifCond .eq 22, 3), (172, .aload_n 0, 1), (173, .iload_n 1, 1), (174, .bipush 107, 2), (176, .if_icmp .ne 7, 3), (179, .iconst 3, 1), (180, .goto 5, 3), (183, .bipush 11, 2), (185, .invokevirtual 486, 3), (188, .ifCond .ne 5, 3), (191, .iconst 0, 1)]
theorem kX12_readsClause_8 : chkB cX12_readsClause LX12_readsClause_8 = true := by decide +kernel
theorem dX12_readsClause_166 : decode cX12_readsClause 166 = .ok (.invokevirtual 532, 3) := getB' kX12_readsClause_8 0 rfl
theorem dX12_readsClause_169 : decode cX12_readsClause 169 = .ok (.ifCond .eq 22, 3) := getB' kX12_readsClause_8 1 rfl
theorem dX12_readsClause_172 : decode cX12_readsClause 172 = .ok (.aload_n 0, 1) := getB' kX12_readsClause_8 2 rfl
theorem dX12_readsClause_173 : decode cX12_readsClause 173 = .ok (.iload_n 1, 1) := getB' kX12_readsClause_8 3 rfl
theorem dX12_readsClause_174 : decode cX12_readsClause 174 = .ok (.bipush 107, 2) := getB' kX12_readsClause_8 4 rfl
theorem dX12_readsClause_176 : decode cX12_readsClause 176 = .ok (.if_icmp .ne 7, 3) := getB' kX12_readsClause_8 5 rfl
theorem dX12_readsClause_179 : decode cX12_readsClause 179 = .ok (.iconst 3, 1) := getB' kX12_readsClause_8 6 rfl
theorem dX12_readsClause_180 : decode cX12_readsClause 180 = .ok (.goto 5, 3) := getB' kX12_readsClause_8 7 rfl
theorem dX12_readsClause_183 : decode cX12_readsClause 183 = .ok (.bipush 11, 2) := getB' kX12_readsClause_8 8 rfl
theorem dX12_readsClause_185 : decode cX12_readsClause 185 = .ok (.invokevirtual 486, 3) := getB' kX12_readsClause_8 9 rfl
theorem dX12_readsClause_188 : decode cX12_readsClause 188 = .ok (.ifCond .ne 5, 3) := getB' kX12_readsClause_8 10 rfl
theorem dX12_readsClause_191 : decode cX12_readsClause 191 = .ok (.iconst 0, 1) := getB' kX12_readsClause_8 11 rfl
def LX12_readsClause_9 : List (Nat × Instr × Nat) := [(192, .ireturn, 1), (193, .aload_n 0, 1), (194, .getfield 109, 3), (197, .iload_n 2, 1), (198, .aload_n 0, 1), (199, .getfield 459, 3), (202, .iastore, 1), (203, .iload_n 1, 1), (204, .bipush 107, 2), (206, .if_icmp .ne 14, 3), (209, .aload_n 0, 1), (210, .bipush 61, 2)]
theorem kX12_readsClause_9 : chkB cX12_readsClause LX12_readsClause_9 = true := by decide +kernel
theorem dX12_readsClause_192 : decode cX12_readsClause 192 = .ok (.ireturn, 1) := getB' kX12_readsClause_9 0 rfl
theorem dX12_readsClause_193 : decode cX12_readsClause 193 = .ok (.aload_n 0, 1) := getB' kX12_readsClause_9 1 rfl
theorem dX12_readsClause_194 : decode cX12_readsClause 194 = .ok (.getfield 109, 3) := getB' kX12_readsClause_9 2 rfl
theorem dX12_readsClause_197 : decode cX12_readsClause 197 = .ok (.iload_n 2, 1) := getB' kX12_readsClause_9 3 rfl
theorem dX12_readsClause_198 : decode cX12_readsClause 198 = .ok (.aload_n 0, 1) := getB' kX12_readsClause_9 4 rfl
theorem dX12_readsClause_199 : decode cX12_readsClause 199 = .ok (.getfield 459, 3) := getB' kX12_readsClause_9 5 rfl
theorem dX12_readsClause_202 : decode cX12_readsClause 202 = .ok (.iastore, 1) := getB' kX12_readsClause_9 6 rfl
theorem dX12_readsClause_203 : decode cX12_readsClause 203 = .ok (.iload_n 1, 1) := getB' kX12_readsClause_9 7 rfl
theorem dX12_readsClause_204 : decode cX12_readsClause 204 = .ok (.bipush 107, 2) := getB' kX12_readsClause_9 8 rfl
theorem dX12_readsClause_206 : decode cX12_readsClause 206 = .ok (.if_icmp .ne 14, 3) := getB' kX12_readsClause_9 9 rfl
theorem dX12_readsClause_209 : decode cX12_readsClause 209 = .ok (.aload_n 0, 1) := getB' kX12_readsClause_9 10 rfl
theorem dX12_readsClause_210 : decode cX12_readsClause 210 = .ok (.bipush 61, 2) := getB' kX12_readsClause_9 11 rfl
def LX12_readsClause_10 : List (Nat × Instr × Nat) := [(212, .invokevirtual 532, 3), (215, .ifCond .ne 5, 3), (218, .iconst 0, 1), (219, .ireturn, 1), (220, .iload_n 1, 1), (221, .bipush 110, 2), (223, .if_icmp .eq 33, 3), (226, .iload_n 1, 1), (227, .bipush 115, 2), (229, .if_icmp .eq 27, 3), (232, .iload_n 1, 1), (233, .bipush 97, 2)]
theorem kX12_readsClause_10 : chkB cX12_readsClause LX12_readsClause_10 = true := by decide +kernel
theorem dX12_readsClause_212 : decode cX12_readsClause 212 = .ok (.invokevirtual 532, 3) := getB' kX12_readsClause_10 0 rfl
theorem dX12_readsClause_215 : decode cX12_readsClause 215 = .ok (.ifCond .ne 5, 3) := getB' kX12_readsClause_10 1 rfl
theorem dX12_readsClause_218 : decode cX12_readsClause 218 = .ok (.iconst 0, 1) := getB' kX12_readsClause_10 2 rfl
theorem dX12_readsClause_219 : decode cX12_readsClause 219 = .ok (.ireturn, 1) := getB' kX12_readsClause_10 3 rfl
theorem dX12_readsClause_220 : decode cX12_readsClause 220 = .ok (.iload_n 1, 1) := getB' kX12_readsClause_10 4 rfl
theorem dX12_readsClause_221 : decode cX12_readsClause 221 = .ok (.bipush 110, 2) := getB' kX12_readsClause_10 5 rfl
theorem dX12_readsClause_223 : decode cX12_readsClause 223 = .ok (.if_icmp .eq 33, 3) := getB' kX12_readsClause_10 6 rfl
theorem dX12_readsClause_226 : decode cX12_readsClause 226 = .ok (.iload_n 1, 1) := getB' kX12_readsClause_10 7 rfl
theorem dX12_readsClause_227 : decode cX12_readsClause 227 = .ok (.bipush 115, 2) := getB' kX12_readsClause_10 8 rfl
theorem dX12_readsClause_229 : decode cX12_readsClause 229 = .ok (.if_icmp .eq 27, 3) := getB' kX12_readsClause_10 9 rfl
theorem dX12_readsClause_232 : decode cX12_readsClause 232 = .ok (.iload_n 1, 1) := getB' kX12_readsClause_10 10 rfl
theorem dX12_readsClause_233 : decode cX12_readsClause 233 = .ok (.bipush 97, 2) := getB' kX12_readsClause_10 11 rfl
def LX12_readsClause_11 : List (Nat × Instr × Nat) := [(235, .if_icmp .eq 21, 3), (238, .iload_n 1, 1), (239, .bipush 113, 2), (241, .if_icmp .eq 15, 3), (244, .iload_n 1, 1), (245, .bipush 107, 2), (247, .if_icmp .eq 9, 3), (250, .iload_n 1, 1), (251, .bipush 103, 2), (253, .if_icmp .ne 25, 3), (256, .aload_n 0, 1), (257, .ldc_w 485, 3)]
theorem kX12_readsClause_11 : chkB cX12_readsClause LX12_readsClause_11 = true := by decide +kernel
theorem dX12_readsClause_235 : decode cX12_readsClause 235 = .ok (.if_icmp .eq 21, 3) := getB' kX12_readsClause_11 0 rfl
theorem dX12_readsClause_238 : decode cX12_readsClause 238 = .ok (.iload_n 1, 1) := getB' kX12_readsClause_11 1 rfl
theorem dX12_readsClause_239 : decode cX12_readsClause 239 = .ok (.bipush 113, 2) := getB' kX12_readsClause_11 2 rfl
theorem dX12_readsClause_241 : decode cX12_readsClause 241 = .ok (.if_icmp .eq 15, 3) := getB' kX12_readsClause_11 3 rfl
theorem dX12_readsClause_244 : decode cX12_readsClause 244 = .ok (.iload_n 1, 1) := getB' kX12_readsClause_11 4 rfl
theorem dX12_readsClause_245 : decode cX12_readsClause 245 = .ok (.bipush 107, 2) := getB' kX12_readsClause_11 5 rfl
theorem dX12_readsClause_247 : decode cX12_readsClause 247 = .ok (.if_icmp .eq 9, 3) := getB' kX12_readsClause_11 6 rfl
theorem dX12_readsClause_250 : decode cX12_readsClause 250 = .ok (.iload_n 1, 1) := getB' kX12_readsClause_11 7 rfl
theorem dX12_readsClause_251 : decode cX12_readsClause 251 = .ok (.bipush 103, 2) := getB' kX12_readsClause_11 8 rfl
theorem dX12_readsClause_253 : decode cX12_readsClause 253 = .ok (.if_icmp .ne 25, 3) := getB' kX12_readsClause_11 9 rfl
theorem dX12_readsClause_256 : decode cX12_readsClause 256 = .ok (.aload_n 0, 1) := getB' kX12_readsClause_11 10 rfl
theorem dX12_readsClause_257 : decode cX12_readsClause 257 = .ok (.ldc_w 485, 3) := getB' kX12_readsClause_11 11 rfl
def LX12_readsClause_12 : List (Nat × Instr × Nat) := [(260, .invokevirtual 486, 3), (263, .ifCond .ne 5, 3), (266, .iconst 0, 1), (267, .ireturn, 1), (268, .aload_n 0, 1), (269, .getfield 103, 3), (272, .iload_n 2, 1), (273, .aload_n 0, 1), (274, .getfield 459, 3), (277, .iastore, 1), (278, .aload_n 0, 1), (279, .aload_n 0, 1)]
theorem kX12_readsClause_12 : chkB cX12_readsClause LX12_readsClause_12 = true := by decide +kernel
theorem dX12_readsClause_260 : decode cX12_readsClause 260 = .ok (.invokevirtual 486, 3) := getB' kX12_readsClause_12 0 rfl
theorem dX12_readsClause_263 : decode cX12_readsClause 263 = .ok (.ifCond .ne 5, 3) := getB' kX12_readsClause_12 1 rfl
theorem dX12_readsClause_266 : decode cX12_readsClause 266 = .ok (.iconst 0, 1) := getB' kX12_readsClause_12 2 rfl
theorem dX12_readsClause_267 : decode cX12_readsClause 267 = .ok (.ireturn, 1) := getB' kX12_readsClause_12 3 rfl
theorem dX12_readsClause_268 : decode cX12_readsClause 268 = .ok (.aload_n 0, 1) := getB' kX12_readsClause_12 4 rfl
theorem dX12_readsClause_269 : decode cX12_readsClause 269 = .ok (.getfield 103, 3) := getB' kX12_readsClause_12 5 rfl
theorem dX12_readsClause_272 : decode cX12_readsClause 272 = .ok (.iload_n 2, 1) := getB' kX12_readsClause_12 6 rfl
theorem dX12_readsClause_273 : decode cX12_readsClause 273 = .ok (.aload_n 0, 1) := getB' kX12_readsClause_12 7 rfl
theorem dX12_readsClause_274 : decode cX12_readsClause 274 = .ok (.getfield 459, 3) := getB' kX12_readsClause_12 8 rfl
theorem dX12_readsClause_277 : decode cX12_readsClause 277 = .ok (.iastore, 1) := getB' kX12_readsClause_12 9 rfl
theorem dX12_readsClause_278 : decode cX12_readsClause 278 = .ok (.aload_n 0, 1) := getB' kX12_readsClause_12 10 rfl
theorem dX12_readsClause_279 : decode cX12_readsClause 279 = .ok (.aload_n 0, 1) := getB' kX12_readsClause_12 11 rfl
def LX12_readsClause_13 : List (Nat × Instr × Nat) := [(280, .getfield 526, 3), (283, .iconst 1, 1), (284, .iadd, 1), (285, .putfield 526, 3), (288, .iconst 1, 1), (289, .ireturn, 1)]
theorem kX12_readsClause_13 : chkB cX12_readsClause LX12_readsClause_13 = true := by decide +kernel
theorem dX12_readsClause_280 : decode cX12_readsClause 280 = .ok (.getfield 526, 3) := getB' kX12_readsClause_13 0 rfl
theorem dX12_readsClause_283 : decode cX12_readsClause 283 = .ok (.iconst 1, 1) := getB' kX12_readsClause_13 1 rfl
theorem dX12_readsClause_284 : decode cX12_readsClause 284 = .ok (.iadd, 1) := getB' kX12_readsClause_13 2 rfl
theorem dX12_readsClause_285 : decode cX12_readsClause 285 = .ok (.putfield 526, 3) := getB' kX12_readsClause_13 3 rfl
theorem dX12_readsClause_288 : decode cX12_readsClause 288 = .ok (.iconst 1, 1) := getB' kX12_readsClause_13 4 rfl
theorem dX12_readsClause_289 : decode cX12_readsClause 289 = .ok (.ireturn, 1) := getB' kX12_readsClause_13 5 rfl
def LX12_text_0 : List (Nat × Instr × Nat) := [(0, .iload_n 1, 1), (1, .invokestatic 409, 3), (4, .ifCond .eq 42, 3), (7, .iload_n 2, 1), (8, .iload_n 1, 1), (9, .sipush 3599, 3), (12, .invokestatic 371, 3), (15, .ifCond .eq 31, 3), (18, .iload_n 3, 1), (19, .iconst 1, 1), (20, .sipush 200, 3), (23, .invokestatic 371, 3)]
theorem kX12_text_0 : chkB cX12_text LX12_text_0 = true := by decide +kernel
theorem dX12_text_0 : decode cX12_text 0 = .ok (.iload_n 1, 1) := getB' kX12_text_0 0 rfl
theorem dX12_text_1 : decode cX12_text 1 = .ok (.invokestatic 409, 3) := getB' kX12_text_0 1 rfl
theorem dX12_text_4 : decode cX12_text 4 = .ok (.ifCond .eq 42, 3) := getB' kX12_text_0 2 rfl
theorem dX12_text_7 : decode cX12_text 7 = .ok (.iload_n 2, 1) := getB' kX12_text_0 3 rfl
theorem dX12_text_8 : decode cX12_text 8 = .ok (.iload_n 1, 1) := getB' kX12_text_0 4 rfl
theorem dX12_text_9 : decode cX12_text 9 = .ok (.sipush 3599, 3) := getB' kX12_text_0 5 rfl
theorem dX12_text_12 : decode cX12_text 12 = .ok (.invokestatic 371, 3) := getB' kX12_text_0 6 rfl
theorem dX12_text_15 : decode cX12_text 15 = .ok (.ifCond .eq 31, 3) := getB' kX12_text_0 7 rfl
theorem dX12_text_18 : decode cX12_text 18 = .ok (.iload_n 3, 1) := getB' kX12_text_0 8 rfl
theorem dX12_text_19 : decode cX12_text 19 = .ok (.iconst 1, 1) := getB' kX12_text_0 9 rfl
theorem dX12_text_20 : decode cX12_text 20 = .ok (.sipush 200, 3) := getB' kX12_text_0 10 rfl
theorem dX12_text_23 : decode cX12_text 23 = .ok (.invokestatic 371, 3) := getB' kX12_text_0 11 rfl
def LX12_text_1 : List (Nat × Instr × Nat) := [(26, .ifCond .eq 20, 3), (29, .iload_n 3, 1), (30, .aload_n 0, 1), (31, .getfield 436, 3), (34, .if_icmp .gt 12, 3), (37, .aload_n 0, 1), (38, .getfield 535, 3), (41, .bipush 20, 2), (43, .if_icmp .ne 5, 3), (46, .iconst (-1), 1), (47, .ireturn, 1), (48, .aload_n 0, 1)]
theorem kX12_text_1 : chkB cX12_text LX12_text_1 = true := by decide +kernel
theorem dX12_text_26 : decode cX12_text 26 = .ok (.ifCond .eq 20, 3) := getB' kX12_text_1 0 rfl
theorem dX12_text_29 : decode cX12_text 29 = .ok (.iload_n 3, 1) := getB' kX12_text_1 1 rfl
theorem dX12_text_30 : decode cX12_text 30 = .ok (.aload_n 0, 1) := getB' kX12_text_1 2 rfl
theorem dX12_text_31 : decode cX12_text 31 = .ok (.getfield 436, 3) := getB' kX12_text_1 3 rfl
theorem dX12_text_34 : decode cX12_text 34 = .ok (.if_icmp .gt 12, 3) := getB' kX12_text_1 4 rfl
theorem dX12_text_37 : decode cX12_text 37 = .ok (.aload_n 0, 1) := getB' kX12_text_1 5 rfl
theorem dX12_text_38 : decode cX12_text 38 = .ok (.getfield 535, 3) := getB' kX12_text_1 6 rfl
theorem dX12_text_41 : decode cX12_text 41 = .ok (.bipush 20, 2) := getB' kX12_text_1 7 rfl
theorem dX12_text_43 : decode cX12_text 43 = .ok (.if_icmp .ne 5, 3) := getB' kX12_text_1 8 rfl
theorem dX12_text_46 : decode cX12_text 46 = .ok (.iconst (-1), 1) := getB' kX12_text_1 9 rfl
theorem dX12_text_47 : decode cX12_text 47 = .ok (.ireturn, 1) := getB' kX12_text_1 10 rfl
theorem dX12_text_48 : decode cX12_text 48 = .ok (.aload_n 0, 1) := getB' kX12_text_1 11 rfl
def LX12_text_2 : List (Nat × Instr × Nat) := [(49, .iconst 0, 1), (50, .putfield 443, 3), (53, .aload_n 0, 1), (54, .iload_n 3, 1), (55, .putfield 446, 3), (58, .aload_n 0, 1), (59, .iconst 0, 1), (60, .putfield 466, 3), (63, .aload_n 0, 1), (64, .iconst 0, 1), (65, .putfield 526, 3), (68, .aload_n 0, 1)]
theorem kX12_text_2 : chkB cX12_text LX12_text_2 = true := by decide +kernel
theorem dX12_text_49 : decode cX12_text 49 = .ok (.iconst 0, 1) := getB' kX12_text_2 0 rfl
theorem dX12_text_50 : decode cX12_text 50 = .ok (.putfield 443, 3) := getB' kX12_text_2 1 rfl
theorem dX12_text_53 : decode cX12_text 53 = .ok (.aload_n 0, 1) := getB' kX12_text_2 2 rfl
theorem dX12_text_54 : decode cX12_text 54 = .ok (.iload_n 3, 1) := getB' kX12_text_2 3 rfl
theorem dX12_text_55 : decode cX12_text 55 = .ok (.putfield 446, 3) := getB' kX12_text_2 4 rfl
theorem dX12_text_58 : decode cX12_text 58 = .ok (.aload_n 0, 1) := getB' kX12_text_2 5 rfl
theorem dX12_text_59 : decode cX12_text 59 = .ok (.iconst 0, 1) := getB' kX12_text_2 6 rfl
theorem dX12_text_60 : decode cX12_text 60 = .ok (.putfield 466, 3) := getB' kX12_text_2 7 rfl
theorem dX12_text_63 : decode cX12_text 63 = .ok (.aload_n 0, 1) := getB' kX12_text_2 8 rfl
theorem dX12_text_64 : decode cX12_text 64 = .ok (.iconst 0, 1) := getB' kX12_text_2 9 rfl
theorem dX12_text_65 : decode cX12_text 65 = .ok (.putfield 526, 3) := getB' kX12_text_2 10 rfl
theorem dX12_text_68 : decode cX12_text 68 = .ok (.aload_n 0, 1) := getB' kX12_text_2 11 rfl
def LX12_text_3 : List (Nat × Instr × Nat) := [(69, .invokevirtual 538, 3), (72, .istore 4, 2), (74, .iload 4, 2), (76, .ifCond .eq 40, 3), (79, .aload_n 0, 1), (80, .getfield 443, 3), (83, .aload_n 0, 1), (84, .getfield 446, 3), (87, .if_icmp .ge 29, 3), (90, .aload_n 0, 1), (91, .bipush 59, 2), (93, .invokevirtual 532, 3)]
theorem kX12_text_3 : chkB cX12_text LX12_text_3 = true := by decide +kernel
theorem dX12_text_69 : decode cX12_text 69 = .ok (.invokevirtual 538, 3) := getB' kX12_text_3 0 rfl
theorem dX12_text_72 : decode cX12_text 72 = .ok (.istore 4, 2) := getB' kX12_text_3 1 rfl
theorem dX12_text_74 : decode cX12_text 74 = .ok (.iload 4, 2) := getB' kX12_text_3 2 rfl
theorem dX12_text_76 : decode cX12_text 76 = .ok (.ifCond .eq 40, 3) := getB' kX12_text_3 3 rfl
theorem dX12_text_79 : decode cX12_text 79 = .ok (.aload_n 0, 1) := getB' kX12_text_3 4 rfl
theorem dX12_text_80 : decode cX12_text 80 = .ok (.getfield 443, 3) := getB' kX12_text_3 5 rfl
theorem dX12_text_83 : decode cX12_text 83 = .ok (.aload_n 0, 1) := getB' kX12_text_3 6 rfl
theorem dX12_text_84 : decode cX12_text 84 = .ok (.getfield 446, 3) := getB' kX12_text_3 7 rfl
theorem dX12_text_87 : decode cX12_text 87 = .ok (.if_icmp .ge 29, 3) := getB' kX12_text_3 8 rfl
theorem dX12_text_90 : decode cX12_text 90 = .ok (.aload_n 0, 1) := getB' kX12_text_3 9 rfl
theorem dX12_text_91 : decode cX12_text 91 = .ok (.bipush 59, 2) := getB' kX12_text_3 10 rfl
theorem dX12_text_93 : decode cX12_text 93 = .ok (.invokevirtual 532, 3) := getB' kX12_text_3 11 rfl
def LX12_text_4 : List (Nat × Instr × Nat) := [(96, .ifCond .eq 14, 3), (99, .aload_n 0, 1), (100, .invokevirtual 538, 3), (103, .ifCond .eq 7, 3), (106, .iconst 1, 1), (107, .goto 4, 3), (110, .iconst 0, 1), (111, .istore 4, 2), (113, .goto (-39), 3), (116, .aload_n 0, 1), (117, .iconst 0, 1), (118, .putfield 436, 3)]
theorem kX12_text_4 : chkB cX12_text LX12_text_4 = true := by decide +kernel
theorem dX12_text_96 : decode cX12_text 96 = .ok (.ifCond .eq 14, 3) := getB' kX12_text_4 0 rfl
theorem dX12_text_99 : decode cX12_text 99 = .ok (.aload_n 0, 1) := getB' kX12_text_4 1 rfl
theorem dX12_text_100 : decode cX12_text 100 = .ok (.invokevirtual 538, 3) := getB' kX12_text_4 2 rfl
theorem dX12_text_103 : decode cX12_text 103 = .ok (.ifCond .eq 7, 3) := getB' kX12_text_4 3 rfl
theorem dX12_text_106 : decode cX12_text 106 = .ok (.iconst 1, 1) := getB' kX12_text_4 4 rfl
theorem dX12_text_107 : decode cX12_text 107 = .ok (.goto 4, 3) := getB' kX12_text_4 5 rfl
theorem dX12_text_110 : decode cX12_text 110 = .ok (.iconst 0, 1) := getB' kX12_text_4 6 rfl
theorem dX12_text_111 : decode cX12_text 111 = .ok (.istore 4, 2) := getB' kX12_text_4 7 rfl
theorem dX12_text_113 : decode cX12_text 113 = .ok (.goto (-39), 3) := getB' kX12_text_4 8 rfl
theorem dX12_text_116 : decode cX12_text 116 = .ok (.aload_n 0, 1) := getB' kX12_text_4 9 rfl
theorem dX12_text_117 : decode cX12_text 117 = .ok (.iconst 0, 1) := getB' kX12_text_4 10 rfl
theorem dX12_text_118 : decode cX12_text 118 = .ok (.putfield 436, 3) := getB' kX12_text_4 11 rfl
def LX12_text_5 : List (Nat × Instr × Nat) := [(121, .iload 4, 2), (123, .ifCond .ne 8, 3), (126, .aload_n 0, 1), (127, .getfield 453, 3), (130, .ireturn, 1), (131, .aload_n 0, 1), (132, .getfield 118, 3), (135, .aload_n 0, 1), (136, .getfield 535, 3), (139, .iload_n 1, 1), (140, .iastore, 1), (141, .aload_n 0, 1)]
theorem kX12_text_5 : chkB cX12_text LX12_text_5 = true := by decide +kernel
theorem dX12_text_121 : decode cX12_text 121 = .ok (.iload 4, 2) := getB' kX12_text_5 0 rfl
theorem dX12_text_123 : decode cX12_text 123 = .ok (.ifCond .ne 8, 3) := getB' kX12_text_5 1 rfl
theorem dX12_text_126 : decode cX12_text 126 = .ok (.aload_n 0, 1) := getB' kX12_text_5 2 rfl
theorem dX12_text_127 : decode cX12_text 127 = .ok (.getfield 453, 3) := getB' kX12_text_5 3 rfl
theorem dX12_text_130 : decode cX12_text 130 = .ok (.ireturn, 1) := getB' kX12_text_5 4 rfl
theorem dX12_text_131 : decode cX12_text 131 = .ok (.aload_n 0, 1) := getB' kX12_text_5 5 rfl
theorem dX12_text_132 : decode cX12_text 132 = .ok (.getfield 118, 3) := getB' kX12_text_5 6 rfl
theorem dX12_text_135 : decode cX12_text 135 = .ok (.aload_n 0, 1) := getB' kX12_text_5 7 rfl
theorem dX12_text_136 : decode cX12_text 136 = .ok (.getfield 535, 3) := getB' kX12_text_5 8 rfl
theorem dX12_text_139 : decode cX12_text 139 = .ok (.iload_n 1, 1) := getB' kX12_text_5 9 rfl
theorem dX12_text_140 : decode cX12_text 140 = .ok (.iastore, 1) := getB' kX12_text_5 10 rfl
theorem dX12_text_141 : decode cX12_text 141 = .ok (.aload_n 0, 1) := getB' kX12_text_5 11 rfl
def LX12_text_6 : List (Nat × Instr × Nat) := [(142, .getfield 121, 3), (145, .aload_n 0, 1), (146, .getfield 535, 3), (149, .iload_n 2, 1), (150, .iastore, 1), (151, .aload_n 0, 1), (152, .getfield 115, 3), (155, .aload_n 0, 1), (156, .getfield 535, 3), (159, .aload_n 0, 1), (160, .getfield 526, 3), (163, .iastore, 1)]
theorem kX12_text_6 : chkB cX12_text LX12_text_6 = true := by decide +kernel
theorem dX12_text_142 : decode cX12_text 142 = .ok (.getfield 121, 3) := getB' kX12_text_6 0 rfl
theorem dX12_text_145 : decode cX12_text 145 = .ok (.aload_n 0, 1) := getB' kX12_text_6 1 rfl
theorem dX12_text_146 : decode cX12_text 146 = .ok (.getfield 535, 3) := getB' kX12_text_6 2 rfl
theorem dX12_text_149 : decode cX12_text 149 = .ok (.iload_n 2, 1) := getB' kX12_text_6 3 rfl
theorem dX12_text_150 : decode cX12_text 150 = .ok (.iastore, 1) := getB' kX12_text_6 4 rfl
theorem dX12_text_151 : decode cX12_text 151 = .ok (.aload_n 0, 1) := getB' kX12_text_6 5 rfl
theorem dX12_text_152 : decode cX12_text 152 = .ok (.getfield 115, 3) := getB' kX12_text_6 6 rfl
theorem dX12_text_155 : decode cX12_text 155 = .ok (.aload_n 0, 1) := getB' kX12_text_6 7 rfl
theorem dX12_text_156 : decode cX12_text 156 = .ok (.getfield 535, 3) := getB' kX12_text_6 8 rfl
theorem dX12_text_159 : decode cX12_text 159 = .ok (.aload_n 0, 1) := getB' kX12_text_6 9 rfl
theorem dX12_text_160 : decode cX12_text 160 = .ok (.getfield 526, 3) := getB' kX12_text_6 10 rfl
theorem dX12_text_163 : decode cX12_text 163 = .ok (.iastore, 1) := getB' kX12_text_6 11 rfl
def LX12_text_7 : List (Nat × Instr × Nat) := [(164, .iconst 0, 1), (165, .istore 5, 2), (167, .iload 5, 2), (169, .aload_n 0, 1), (170, .getfield 466, 3), (173, .if_icmp .ge 32, 3), (176, .aload_n 0, 1), (177, .getfield 112, 3), (180, .sipush 220, 3), (183, .aload_n 0, 1), (184, .getfield 535, 3), (187, .imul, 1)]
theorem kX12_text_7 : chkB cX12_text LX12_text_7 = true := by decide +kernel
theorem dX12_text_164 : decode cX12_text 164 = .ok (.iconst 0, 1) := getB' kX12_text_7 0 rfl
theorem dX12_text_165 : decode cX12_text 165 = .ok (.istore 5, 2) := getB' kX12_text_7 1 rfl
theorem dX12_text_167 : decode cX12_text 167 = .ok (.iload 5, 2) := getB' kX12_text_7 2 rfl
theorem dX12_text_169 : decode cX12_text 169 = .ok (.aload_n 0, 1) := getB' kX12_text_7 3 rfl
theorem dX12_text_170 : decode cX12_text 170 = .ok (.getfield 466, 3) := getB' kX12_text_7 4 rfl
theorem dX12_text_173 : decode cX12_text 173 = .ok (.if_icmp .ge 32, 3) := getB' kX12_text_7 5 rfl
theorem dX12_text_176 : decode cX12_text 176 = .ok (.aload_n 0, 1) := getB' kX12_text_7 6 rfl
theorem dX12_text_177 : decode cX12_text 177 = .ok (.getfield 112, 3) := getB' kX12_text_7 7 rfl
theorem dX12_text_180 : decode cX12_text 180 = .ok (.sipush 220, 3) := getB' kX12_text_7 8 rfl
theorem dX12_text_183 : decode cX12_text 183 = .ok (.aload_n 0, 1) := getB' kX12_text_7 9 rfl
theorem dX12_text_184 : decode cX12_text 184 = .ok (.getfield 535, 3) := getB' kX12_text_7 10 rfl
theorem dX12_text_187 : decode cX12_text 187 = .ok (.imul, 1) := getB' kX12_text_7 11 rfl
def LX12_text_8 : List (Nat × Instr × Nat) := [(188, .iload 5, 2), (190, .iadd, 1), (191, .aload_n 0, 1), (192, .getfield 88, 3), (195, .iload 5, 2), (197, .iaload, 1), (198, .iastore, 1), (199, .iinc 5 1, 3), (202, .goto (-35), 3), (205, .iconst 0, 1), (206, .istore 5, 2), (208, .iload 5, 2)]
theorem kX12_text_8 : chkB cX12_text LX12_text_8 = true := by decide +kernel
theorem dX12_text_188 : decode cX12_text 188 = .ok (.iload 5, 2) := getB' kX12_text_8 0 rfl
theorem dX12_text_190 : decode cX12_text 190 = .ok (.iadd, 1) := getB' kX12_text_8 1 rfl
theorem dX12_text_191 : decode cX12_text 191 = .ok (.aload_n 0, 1) := getB' kX12_text_8 2 rfl
theorem dX12_text_192 : decode cX12_text 192 = .ok (.getfield 88, 3) := getB' kX12_text_8 3 rfl
theorem dX12_text_195 : decode cX12_text 195 = .ok (.iload 5, 2) := getB' kX12_text_8 4 rfl
theorem dX12_text_197 : decode cX12_text 197 = .ok (.iaload, 1) := getB' kX12_text_8 5 rfl
theorem dX12_text_198 : decode cX12_text 198 = .ok (.iastore, 1) := getB' kX12_text_8 6 rfl
theorem dX12_text_199 : decode cX12_text 199 = .ok (.iinc 5 1, 3) := getB' kX12_text_8 7 rfl
theorem dX12_text_202 : decode cX12_text 202 = .ok (.goto (-35), 3) := getB' kX12_text_8 8 rfl
theorem dX12_text_205 : decode cX12_text 205 = .ok (.iconst 0, 1) := getB' kX12_text_8 9 rfl
theorem dX12_text_206 : decode cX12_text 206 = .ok (.istore 5, 2) := getB' kX12_text_8 10 rfl
theorem dX12_text_208 : decode cX12_text 208 = .ok (.iload 5, 2) := getB' kX12_text_8 11 rfl
def LX12_text_9 : List (Nat × Instr × Nat) := [(210, .aload_n 0, 1), (211, .getfield 526, 3), (214, .if_icmp .ge 123, 3), (217, .bipush 12, 2), (219, .aload_n 0, 1), (220, .getfield 535, 3), (223, .imul, 1), (224, .iload 5, 2), (226, .iadd, 1), (227, .istore 6, 2), (229, .aload_n 0, 1), (230, .getfield 124, 3)]
theorem kX12_text_9 : chkB cX12_text LX12_text_9 = true := by decide +kernel
theorem dX12_text_210 : decode cX12_text 210 = .ok (.aload_n 0, 1) := getB' kX12_text_9 0 rfl
theorem dX12_text_211 : decode cX12_text 211 = .ok (.getfield 526, 3) := getB' kX12_text_9 1 rfl
theorem dX12_text_214 : decode cX12_text 214 = .ok (.if_icmp .ge 123, 3) := getB' kX12_text_9 2 rfl
theorem dX12_text_217 : decode cX12_text 217 = .ok (.bipush 12, 2) := getB' kX12_text_9 3 rfl
theorem dX12_text_219 : decode cX12_text 219 = .ok (.aload_n 0, 1) := getB' kX12_text_9 4 rfl
theorem dX12_text_220 : decode cX12_text 220 = .ok (.getfield 535, 3) := getB' kX12_text_9 5 rfl
theorem dX12_text_223 : decode cX12_text 223 = .ok (.imul, 1) := getB' kX12_text_9 6 rfl
theorem dX12_text_224 : decode cX12_text 224 = .ok (.iload 5, 2) := getB' kX12_text_9 7 rfl
theorem dX12_text_226 : decode cX12_text 226 = .ok (.iadd, 1) := getB' kX12_text_9 8 rfl
theorem dX12_text_227 : decode cX12_text 227 = .ok (.istore 6, 2) := getB' kX12_text_9 9 rfl
theorem dX12_text_229 : decode cX12_text 229 = .ok (.aload_n 0, 1) := getB' kX12_text_9 10 rfl
theorem dX12_text_230 : decode cX12_text 230 = .ok (.getfield 124, 3) := getB' kX12_text_9 11 rfl
def LX12_text_10 : List (Nat × Instr × Nat) := [(233, .iload 6, 2), (235, .aload_n 0, 1), (236, .getfield 94, 3), (239, .iload 5, 2), (241, .iaload, 1), (242, .iastore, 1), (243, .aload_n 0, 1), (244, .getfield 127, 3), (247, .iload 6, 2), (249, .sipush 220, 3), (252, .aload_n 0, 1), (253, .getfield 535, 3)]
theorem kX12_text_10 : chkB cX12_text LX12_text_10 = true := by decide +kernel
theorem dX12_text_233 : decode cX12_text 233 = .ok (.iload 6, 2) := getB' kX12_text_10 0 rfl
theorem dX12_text_235 : decode cX12_text 235 = .ok (.aload_n 0, 1) := getB' kX12_text_10 1 rfl
theorem dX12_text_236 : decode cX12_text 236 = .ok (.getfield 94, 3) := getB' kX12_text_10 2 rfl
theorem dX12_text_239 : decode cX12_text 239 = .ok (.iload 5, 2) := getB' kX12_text_10 3 rfl
theorem dX12_text_241 : decode cX12_text 241 = .ok (.iaload, 1) := getB' kX12_text_10 4 rfl
theorem dX12_text_242 : decode cX12_text 242 = .ok (.iastore, 1) := getB' kX12_text_10 5 rfl
theorem dX12_text_243 : decode cX12_text 243 = .ok (.aload_n 0, 1) := getB' kX12_text_10 6 rfl
theorem dX12_text_244 : decode cX12_text 244 = .ok (.getfield 127, 3) := getB' kX12_text_10 7 rfl
theorem dX12_text_247 : decode cX12_text 247 = .ok (.iload 6, 2) := getB' kX12_text_10 8 rfl
theorem dX12_text_249 : decode cX12_text 249 = .ok (.sipush 220, 3) := getB' kX12_text_10 9 rfl
theorem dX12_text_252 : decode cX12_text 252 = .ok (.aload_n 0, 1) := getB' kX12_text_10 10 rfl
theorem dX12_text_253 : decode cX12_text 253 = .ok (.getfield 535, 3) := getB' kX12_text_10 11 rfl
def LX12_text_11 : List (Nat × Instr × Nat) := [(256, .imul, 1), (257, .aload_n 0, 1), (258, .getfield 97, 3), (261, .iload 5, 2), (263, .iaload, 1), (264, .iadd, 1), (265, .iastore, 1), (266, .aload_n 0, 1), (267, .getfield 130, 3), (270, .iload 6, 2), (272, .sipush 220, 3), (275, .aload_n 0, 1)]
theorem kX12_text_11 : chkB cX12_text LX12_text_11 = true := by decide +kernel
theorem dX12_text_256 : decode cX12_text 256 = .ok (.imul, 1) := getB' kX12_text_11 0 rfl
theorem dX12_text_257 : decode cX12_text 257 = .ok (.aload_n 0, 1) := getB' kX12_text_11 1 rfl
theorem dX12_text_258 : decode cX12_text 258 = .ok (.getfield 97, 3) := getB' kX12_text_11 2 rfl
theorem dX12_text_261 : decode cX12_text 261 = .ok (.iload 5, 2) := getB' kX12_text_11 3 rfl
theorem dX12_text_263 : decode cX12_text 263 = .ok (.iaload, 1) := getB' kX12_text_11 4 rfl
theorem dX12_text_264 : decode cX12_text 264 = .ok (.iadd, 1) := getB' kX12_text_11 5 rfl
theorem dX12_text_265 : decode cX12_text 265 = .ok (.iastore, 1) := getB' kX12_text_11 6 rfl
theorem dX12_text_266 : decode cX12_text 266 = .ok (.aload_n 0, 1) := getB' kX12_text_11 7 rfl
theorem dX12_text_267 : decode cX12_text 267 = .ok (.getfield 130, 3) := getB' kX12_text_11 8 rfl
theorem dX12_text_270 : decode cX12_text 270 = .ok (.iload 6, 2) := getB' kX12_text_11 9 rfl
theorem dX12_text_272 : decode cX12_text 272 = .ok (.sipush 220, 3) := getB' kX12_text_11 10 rfl
theorem dX12_text_275 : decode cX12_text 275 = .ok (.aload_n 0, 1) := getB' kX12_text_11 11 rfl
def LX12_text_12 : List (Nat × Instr × Nat) := [(276, .getfield 535, 3), (279, .imul, 1), (280, .aload_n 0, 1), (281, .getfield 100, 3), (284, .iload 5, 2), (286, .iaload, 1), (287, .iadd, 1), (288, .iastore, 1), (289, .aload_n 0, 1), (290, .getfield 133, 3), (293, .iload 6, 2), (295, .aload_n 0, 1)]
theorem kX12_text_12 : chkB cX12_text LX12_text_12 = true := by decide +kernel
theorem dX12_text_276 : decode cX12_text 276 = .ok (.getfield 535, 3) := getB' kX12_text_12 0 rfl
theorem dX12_text_279 : decode cX12_text 279 = .ok (.imul, 1) := getB' kX12_text_12 1 rfl
theorem dX12_text_280 : decode cX12_text 280 = .ok (.aload_n 0, 1) := getB' kX12_text_12 2 rfl
theorem dX12_text_281 : decode cX12_text 281 = .ok (.getfield 100, 3) := getB' kX12_text_12 3 rfl
theorem dX12_text_284 : decode cX12_text 284 = .ok (.iload 5, 2) := getB' kX12_text_12 4 rfl
theorem dX12_text_286 : decode cX12_text 286 = .ok (.iaload, 1) := getB' kX12_text_12 5 rfl
theorem dX12_text_287 : decode cX12_text 287 = .ok (.iadd, 1) := getB' kX12_text_12 6 rfl
theorem dX12_text_288 : decode cX12_text 288 = .ok (.iastore, 1) := getB' kX12_text_12 7 rfl
theorem dX12_text_289 : decode cX12_text 289 = .ok (.aload_n 0, 1) := getB' kX12_text_12 8 rfl
theorem dX12_text_290 : decode cX12_text 290 = .ok (.getfield 133, 3) := getB' kX12_text_12 9 rfl
theorem dX12_text_293 : decode cX12_text 293 = .ok (.iload 6, 2) := getB' kX12_text_12 10 rfl
theorem dX12_text_295 : decode cX12_text 295 = .ok (.aload_n 0, 1) := getB' kX12_text_12 11 rfl
def LX12_text_13 : List (Nat × Instr × Nat) := [(296, .getfield 103, 3), (299, .iload 5, 2), (301, .iaload, 1), (302, .iastore, 1), (303, .aload_n 0, 1), (304, .getfield 136, 3), (307, .iload 6, 2), (309, .aload_n 0, 1), (310, .getfield 106, 3), (313, .iload 5, 2), (315, .iaload, 1), (316, .iastore, 1)]
theorem kX12_text_13 : chkB cX12_text LX12_text_13 = true := by decide +kernel
theorem dX12_text_296 : decode cX12_text 296 = .ok (.getfield 103, 3) := getB' kX12_text_13 0 rfl
theorem dX12_text_299 : decode cX12_text 299 = .ok (.iload 5, 2) := getB' kX12_text_13 1 rfl
theorem dX12_text_301 : decode cX12_text 301 = .ok (.iaload, 1) := getB' kX12_text_13 2 rfl
theorem dX12_text_302 : decode cX12_text 302 = .ok (.iastore, 1) := getB' kX12_text_13 3 rfl
theorem dX12_text_303 : decode cX12_text 303 = .ok (.aload_n 0, 1) := getB' kX12_text_13 4 rfl
theorem dX12_text_304 : decode cX12_text 304 = .ok (.getfield 136, 3) := getB' kX12_text_13 5 rfl
theorem dX12_text_307 : decode cX12_text 307 = .ok (.iload 6, 2) := getB' kX12_text_13 6 rfl
theorem dX12_text_309 : decode cX12_text 309 = .ok (.aload_n 0, 1) := getB' kX12_text_13 7 rfl
theorem dX12_text_310 : decode cX12_text 310 = .ok (.getfield 106, 3) := getB' kX12_text_13 8 rfl
theorem dX12_text_313 : decode cX12_text 313 = .ok (.iload 5, 2) := getB' kX12_text_13 9 rfl
theorem dX12_text_315 : decode cX12_text 315 = .ok (.iaload, 1) := getB' kX12_text_13 10 rfl
theorem dX12_text_316 : decode cX12_text 316 = .ok (.iastore, 1) := getB' kX12_text_13 11 rfl
def LX12_text_14 : List (Nat × Instr × Nat) := [(317, .aload_n 0, 1), (318, .getfield 139, 3), (321, .iload 6, 2), (323, .aload_n 0, 1), (324, .getfield 109, 3), (327, .iload 5, 2), (329, .iaload, 1), (330, .iastore, 1), (331, .iinc 5 1, 3), (334, .goto (-126), 3), (337, .iconst 0, 1), (338, .istore 5, 2)]
theorem kX12_text_14 : chkB cX12_text LX12_text_14 = true := by decide +kernel
theorem dX12_text_317 : decode cX12_text 317 = .ok (.aload_n 0, 1) := getB' kX12_text_14 0 rfl
theorem dX12_text_318 : decode cX12_text 318 = .ok (.getfield 139, 3) := getB' kX12_text_14 1 rfl
theorem dX12_text_321 : decode cX12_text 321 = .ok (.iload 6, 2) := getB' kX12_text_14 2 rfl
theorem dX12_text_323 : decode cX12_text 323 = .ok (.aload_n 0, 1) := getB' kX12_text_14 3 rfl
theorem dX12_text_324 : decode cX12_text 324 = .ok (.getfield 109, 3) := getB' kX12_text_14 4 rfl
theorem dX12_text_327 : decode cX12_text 327 = .ok (.iload 5, 2) := getB' kX12_text_14 5 rfl
theorem dX12_text_329 : decode cX12_text 329 = .ok (.iaload, 1) := getB' kX12_text_14 6 rfl
theorem dX12_text_330 : decode cX12_text 330 = .ok (.iastore, 1) := getB' kX12_text_14 7 rfl
theorem dX12_text_331 : decode cX12_text 331 = .ok (.iinc 5 1, 3) := getB' kX12_text_14 8 rfl
theorem dX12_text_334 : decode cX12_text 334 = .ok (.goto (-126), 3) := getB' kX12_text_14 9 rfl
theorem dX12_text_337 : decode cX12_text 337 = .ok (.iconst 0, 1) := getB' kX12_text_14 10 rfl
theorem dX12_text_338 : decode cX12_text 338 = .ok (.istore 5, 2) := getB' kX12_text_14 11 rfl
def LX12_text_15 : List (Nat × Instr × Nat) := [(340, .iload 5, 2), (342, .bipush 9, 2), (344, .if_icmp .ge 25, 3), (347, .aload_n 0, 1), (348, .getfield 142, 3), (351, .bipush 20, 2), (353, .iload 5, 2), (355, .imul, 1), (356, .aload_n 0, 1), (357, .getfield 535, 3), (360, .iadd, 1), (361, .iconst (-1), 1)]
theorem kX12_text_15 : chkB cX12_text LX12_text_15 = true := by decide +kernel
theorem dX12_text_340 : decode cX12_text 340 = .ok (.iload 5, 2) := getB' kX12_text_15 0 rfl
theorem dX12_text_342 : decode cX12_text 342 = .ok (.bipush 9, 2) := getB' kX12_text_15 1 rfl
theorem dX12_text_344 : decode cX12_text 344 = .ok (.if_icmp .ge 25, 3) := getB' kX12_text_15 2 rfl
theorem dX12_text_347 : decode cX12_text 347 = .ok (.aload_n 0, 1) := getB' kX12_text_15 3 rfl
theorem dX12_text_348 : decode cX12_text 348 = .ok (.getfield 142, 3) := getB' kX12_text_15 4 rfl
theorem dX12_text_351 : decode cX12_text 351 = .ok (.bipush 20, 2) := getB' kX12_text_15 5 rfl
theorem dX12_text_353 : decode cX12_text 353 = .ok (.iload 5, 2) := getB' kX12_text_15 6 rfl
theorem dX12_text_355 : decode cX12_text 355 = .ok (.imul, 1) := getB' kX12_text_15 7 rfl
theorem dX12_text_356 : decode cX12_text 356 = .ok (.aload_n 0, 1) := getB' kX12_text_15 8 rfl
theorem dX12_text_357 : decode cX12_text 357 = .ok (.getfield 535, 3) := getB' kX12_text_15 9 rfl
theorem dX12_text_360 : decode cX12_text 360 = .ok (.iadd, 1) := getB' kX12_text_15 10 rfl
theorem dX12_text_361 : decode cX12_text 361 = .ok (.iconst (-1), 1) := getB' kX12_text_15 11 rfl
def LX12_text_16 : List (Nat × Instr × Nat) := [(362, .iastore, 1), (363, .iinc 5 1, 3), (366, .goto (-26), 3), (369, .aload_n 0, 1), (370, .aload_n 0, 1), (371, .getfield 535, 3), (374, .iconst 1, 1), (375, .iadd, 1), (376, .putfield 535, 3), (379, .aload_n 0, 1), (380, .getfield 535, 3), (383, .iconst 1, 1)]
theorem kX12_text_16 : chkB cX12_text LX12_text_16 = true := by decide +kernel
theorem dX12_text_362 : decode cX12_text 362 = .ok (.iastore, 1) := getB' kX12_text_16 0 rfl
theorem dX12_text_363 : decode cX12_text 363 = .ok (.iinc 5 1, 3) := getB' kX12_text_16 1 rfl
theorem dX12_text_366 : decode cX12_text 366 = .ok (.goto (-26), 3) := getB' kX12_text_16 2 rfl
theorem dX12_text_369 : decode cX12_text 369 = .ok (.aload_n 0, 1) := getB' kX12_text_16 3 rfl
theorem dX12_text_370 : decode cX12_text 370 = .ok (.aload_n 0, 1) := getB' kX12_text_16 4 rfl
theorem dX12_text_371 : decode cX12_text 371 = .ok (.getfield 535, 3) := getB' kX12_text_16 5 rfl
theorem dX12_text_374 : decode cX12_text 374 = .ok (.iconst 1, 1) := getB' kX12_text_16 6 rfl
theorem dX12_text_375 : decode cX12_text 375 = .ok (.iadd, 1) := getB' kX12_text_16 7 rfl
theorem dX12_text_376 : decode cX12_text 376 = .ok (.putfield 535, 3) := getB' kX12_text_16 8 rfl
theorem dX12_text_379 : decode cX12_text 379 = .ok (.aload_n 0, 1) := getB' kX12_text_16 9 rfl
theorem dX12_text_380 : decode cX12_text 380 = .ok (.getfield 535, 3) := getB' kX12_text_16 10 rfl
theorem dX12_text_383 : decode cX12_text 383 = .ok (.iconst 1, 1) := getB' kX12_text_16 11 rfl
def LX12_text_17 : List (Nat × Instr × Nat) := [(384, .isub, 1), (385, .ireturn, 1)]
theorem kX12_text_17 : chkB cX12_text LX12_text_17 = true := by decide +kernel
theorem dX12_text_384 : decode cX12_text 384 = .ok (.isub, 1) := getB' kX12_text_17 0 rfl
theorem dX12_text_385 : decode cX12_text 385 = .ok (.ireturn, 1) := getB' kX12_text_17 1 rfl
def LX12_isText : List (Nat × Instr × Nat) := [(0, .iload_n 1, 1), (1, .ifCond .lt 15, 3), (4, .iload_n 1, 1), (5, .aload_n 0, 1), (6, .getfield 535, 3), (9, .if_icmp .ge 7, 3), (12, .iconst 1, 1), (13, .goto 4, 3), (16, .iconst 0, 1), (17, .ireturn, 1)]
theorem kX12_isText : chkB cX12_isText LX12_isText = true := by decide +kernel
theorem dX12_isText_0 : decode cX12_isText 0 = .ok (.iload_n 1, 1) := getB' kX12_isText 0 rfl
theorem dX12_isText_1 : decode cX12_isText 1 = .ok (.ifCond .lt 15, 3) := getB' kX12_isText 1 rfl
theorem dX12_isText_4 : decode cX12_isText 4 = .ok (.iload_n 1, 1) := getB' kX12_isText 2 rfl
theorem dX12_isText_5 : decode cX12_isText 5 = .ok (.aload_n 0, 1) := getB' kX12_isText 3 rfl
theorem dX12_isText_6 : decode cX12_isText 6 = .ok (.getfield 535, 3) := getB' kX12_isText 4 rfl
theorem dX12_isText_9 : decode cX12_isText 9 = .ok (.if_icmp .ge 7, 3) := getB' kX12_isText 5 rfl
theorem dX12_isText_12 : decode cX12_isText 12 = .ok (.iconst 1, 1) := getB' kX12_isText 6 rfl
theorem dX12_isText_13 : decode cX12_isText 13 = .ok (.goto 4, 3) := getB' kX12_isText 7 rfl
theorem dX12_isText_16 : decode cX12_isText 16 = .ok (.iconst 0, 1) := getB' kX12_isText 8 rfl
theorem dX12_isText_17 : decode cX12_isText 17 = .ok (.ireturn, 1) := getB' kX12_isText 9 rfl
def LX12_isClause_0 : List (Nat × Instr × Nat) := [(0, .aload_n 0, 1), (1, .iload_n 1, 1), (2, .invokevirtual 541, 3), (5, .ifCond .eq 21, 3), (8, .iload_n 2, 1), (9, .ifCond .lt 17, 3), (12, .iload_n 2, 1), (13, .aload_n 0, 1), (14, .getfield 115, 3), (17, .iload_n 1, 1), (18, .iaload, 1), (19, .if_icmp .ge 7, 3)]
theorem kX12_isClause_0 : chkB cX12_isClause LX12_isClause_0 = true := by decide +kernel
theorem dX12_isClause_0 : decode cX12_isClause 0 = .ok (.aload_n 0, 1) := getB' kX12_isClause_0 0 rfl
theorem dX12_isClause_1 : decode cX12_isClause 1 = .ok (.iload_n 1, 1) := getB' kX12_isClause_0 1 rfl
theorem dX12_isClause_2 : decode cX12_isClause 2 = .ok (.invokevirtual 541, 3) := getB' kX12_isClause_0 2 rfl
theorem dX12_isClause_5 : decode cX12_isClause 5 = .ok (.ifCond .eq 21, 3) := getB' kX12_isClause_0 3 rfl
theorem dX12_isClause_8 : decode cX12_isClause 8 = .ok (.iload_n 2, 1) := getB' kX12_isClause_0 4 rfl
theorem dX12_isClause_9 : decode cX12_isClause 9 = .ok (.ifCond .lt 17, 3) := getB' kX12_isClause_0 5 rfl
theorem dX12_isClause_12 : decode cX12_isClause 12 = .ok (.iload_n 2, 1) := getB' kX12_isClause_0 6 rfl
theorem dX12_isClause_13 : decode cX12_isClause 13 = .ok (.aload_n 0, 1) := getB' kX12_isClause_0 7 rfl
theorem dX12_isClause_14 : decode cX12_isClause 14 = .ok (.getfield 115, 3) := getB' kX12_isClause_0 8 rfl
theorem dX12_isClause_17 : decode cX12_isClause 17 = .ok (.iload_n 1, 1) := getB' kX12_isClause_0 9 rfl
theorem dX12_isClause_18 : decode cX12_isClause 18 = .ok (.iaload, 1) := getB' kX12_isClause_0 10 rfl
theorem dX12_isClause_19 : decode cX12_isClause 19 = .ok (.if_icmp .ge 7, 3) := getB' kX12_isClause_0 11 rfl
def LX12_isClause_1 : List (Nat × Instr × Nat) := [(22, .iconst 1, 1), (23, .goto 4, 3), (26, .iconst 0, 1), (27, .ireturn, 1)]
theorem kX12_isClause_1 : chkB cX12_isClause LX12_isClause_1 = true := by decide +kernel
theorem dX12_isClause_22 : decode cX12_isClause 22 = .ok (.iconst 1, 1) := getB' kX12_isClause_1 0 rfl
theorem dX12_isClause_23 : decode cX12_isClause 23 = .ok (.goto 4, 3) := getB' kX12_isClause_1 1 rfl
theorem dX12_isClause_26 : decode cX12_isClause 26 = .ok (.iconst 0, 1) := getB' kX12_isClause_1 2 rfl
theorem dX12_isClause_27 : decode cX12_isClause 27 = .ok (.ireturn, 1) := getB' kX12_isClause_1 3 rfl
def LX12_yes_0 : List (Nat × Instr × Nat) := [(0, .aload_n 0, 1), (1, .iload_n 1, 1), (2, .invokevirtual 406, 3), (5, .ifCond .eq 30, 3), (8, .aload_n 0, 1), (9, .iload_n 2, 1), (10, .invokevirtual 541, 3), (13, .ifCond .eq 22, 3), (16, .iload_n 2, 1), (17, .ifCond .eq 18, 3), (20, .aload_n 0, 1), (21, .getfield 142, 3)]
theorem kX12_yes_0 : chkB cX12_yes LX12_yes_0 = true := by decide +kernel
theorem dX12_yes_0 : decode cX12_yes 0 = .ok (.aload_n 0, 1) := getB' kX12_yes_0 0 rfl
theorem dX12_yes_1 : decode cX12_yes 1 = .ok (.iload_n 1, 1) := getB' kX12_yes_0 1 rfl
theorem dX12_yes_2 : decode cX12_yes 2 = .ok (.invokevirtual 406, 3) := getB' kX12_yes_0 2 rfl
theorem dX12_yes_5 : decode cX12_yes 5 = .ok (.ifCond .eq 30, 3) := getB' kX12_yes_0 3 rfl
theorem dX12_yes_8 : decode cX12_yes 8 = .ok (.aload_n 0, 1) := getB' kX12_yes_0 4 rfl
theorem dX12_yes_9 : decode cX12_yes 9 = .ok (.iload_n 2, 1) := getB' kX12_yes_0 5 rfl
theorem dX12_yes_10 : decode cX12_yes 10 = .ok (.invokevirtual 541, 3) := getB' kX12_yes_0 6 rfl
theorem dX12_yes_13 : decode cX12_yes 13 = .ok (.ifCond .eq 22, 3) := getB' kX12_yes_0 7 rfl
theorem dX12_yes_16 : decode cX12_yes 16 = .ok (.iload_n 2, 1) := getB' kX12_yes_0 8 rfl
theorem dX12_yes_17 : decode cX12_yes 17 = .ok (.ifCond .eq 18, 3) := getB' kX12_yes_0 9 rfl
theorem dX12_yes_20 : decode cX12_yes 20 = .ok (.aload_n 0, 1) := getB' kX12_yes_0 10 rfl
theorem dX12_yes_21 : decode cX12_yes 21 = .ok (.getfield 142, 3) := getB' kX12_yes_0 11 rfl
def LX12_yes_1 : List (Nat × Instr × Nat) := [(24, .bipush 20, 2), (26, .iload_n 1, 1), (27, .imul, 1), (28, .iload_n 2, 1), (29, .iadd, 1), (30, .iaload, 1), (31, .iconst (-1), 1), (32, .if_icmp .eq 5, 3), (35, .iconst 0, 1), (36, .ireturn, 1), (37, .aload_n 0, 1), (38, .getfield 142, 3)]
theorem kX12_yes_1 : chkB cX12_yes LX12_yes_1 = true := by decide +kernel
theorem dX12_yes_24 : decode cX12_yes 24 = .ok (.bipush 20, 2) := getB' kX12_yes_1 0 rfl
theorem dX12_yes_26 : decode cX12_yes 26 = .ok (.iload_n 1, 1) := getB' kX12_yes_1 1 rfl
theorem dX12_yes_27 : decode cX12_yes 27 = .ok (.imul, 1) := getB' kX12_yes_1 2 rfl
theorem dX12_yes_28 : decode cX12_yes 28 = .ok (.iload_n 2, 1) := getB' kX12_yes_1 3 rfl
theorem dX12_yes_29 : decode cX12_yes 29 = .ok (.iadd, 1) := getB' kX12_yes_1 4 rfl
theorem dX12_yes_30 : decode cX12_yes 30 = .ok (.iaload, 1) := getB' kX12_yes_1 5 rfl
theorem dX12_yes_31 : decode cX12_yes 31 = .ok (.iconst (-1), 1) := getB' kX12_yes_1 6 rfl
theorem dX12_yes_32 : decode cX12_yes 32 = .ok (.if_icmp .eq 5, 3) := getB' kX12_yes_1 7 rfl
theorem dX12_yes_35 : decode cX12_yes 35 = .ok (.iconst 0, 1) := getB' kX12_yes_1 8 rfl
theorem dX12_yes_36 : decode cX12_yes 36 = .ok (.ireturn, 1) := getB' kX12_yes_1 9 rfl
theorem dX12_yes_37 : decode cX12_yes 37 = .ok (.aload_n 0, 1) := getB' kX12_yes_1 10 rfl
theorem dX12_yes_38 : decode cX12_yes 38 = .ok (.getfield 142, 3) := getB' kX12_yes_1 11 rfl
def LX12_yes_2 : List (Nat × Instr × Nat) := [(41, .bipush 20, 2), (43, .iload_n 1, 1), (44, .imul, 1), (45, .iload_n 2, 1), (46, .iadd, 1), (47, .aload_n 0, 1), (48, .getfield 396, 3), (51, .iastore, 1), (52, .iconst 1, 1), (53, .ireturn, 1)]
theorem kX12_yes_2 : chkB cX12_yes LX12_yes_2 = true := by decide +kernel
theorem dX12_yes_41 : decode cX12_yes 41 = .ok (.bipush 20, 2) := getB' kX12_yes_2 0 rfl
theorem dX12_yes_43 : decode cX12_yes 43 = .ok (.iload_n 1, 1) := getB' kX12_yes_2 1 rfl
theorem dX12_yes_44 : decode cX12_yes 44 = .ok (.imul, 1) := getB' kX12_yes_2 2 rfl
theorem dX12_yes_45 : decode cX12_yes 45 = .ok (.iload_n 2, 1) := getB' kX12_yes_2 3 rfl
theorem dX12_yes_46 : decode cX12_yes 46 = .ok (.iadd, 1) := getB' kX12_yes_2 4 rfl
theorem dX12_yes_47 : decode cX12_yes 47 = .ok (.aload_n 0, 1) := getB' kX12_yes_2 5 rfl
theorem dX12_yes_48 : decode cX12_yes 48 = .ok (.getfield 396, 3) := getB' kX12_yes_2 6 rfl
theorem dX12_yes_51 : decode cX12_yes 51 = .ok (.iastore, 1) := getB' kX12_yes_2 7 rfl
theorem dX12_yes_52 : decode cX12_yes 52 = .ok (.iconst 1, 1) := getB' kX12_yes_2 8 rfl
theorem dX12_yes_53 : decode cX12_yes 53 = .ok (.ireturn, 1) := getB' kX12_yes_2 9 rfl
def LX12_reading_0 : List (Nat × Instr × Nat) := [(0, .aload_n 0, 1), (1, .iload_n 1, 1), (2, .invokevirtual 406, 3), (5, .ifCond .eq 58, 3), (8, .aload_n 0, 1), (9, .iload_n 2, 1), (10, .iload_n 3, 1), (11, .invokevirtual 544, 3), (14, .ifCond .eq 49, 3), (17, .aload_n 0, 1), (18, .getfield 124, 3), (21, .bipush 12, 2)]
theorem kX12_reading_0 : chkB cX12_reading LX12_reading_0 = true := by decide +kernel
theorem dX12_reading_0 : decode cX12_reading 0 = .ok (.aload_n 0, 1) := getB' kX12_reading_0 0 rfl
theorem dX12_reading_1 : decode cX12_reading 1 = .ok (.iload_n 1, 1) := getB' kX12_reading_0 1 rfl
theorem dX12_reading_2 : decode cX12_reading 2 = .ok (.invokevirtual 406, 3) := getB' kX12_reading_0 2 rfl
theorem dX12_reading_5 : decode cX12_reading 5 = .ok (.ifCond .eq 58, 3) := getB' kX12_reading_0 3 rfl
theorem dX12_reading_8 : decode cX12_reading 8 = .ok (.aload_n 0, 1) := getB' kX12_reading_0 4 rfl
theorem dX12_reading_9 : decode cX12_reading 9 = .ok (.iload_n 2, 1) := getB' kX12_reading_0 5 rfl
theorem dX12_reading_10 : decode cX12_reading 10 = .ok (.iload_n 3, 1) := getB' kX12_reading_0 6 rfl
theorem dX12_reading_11 : decode cX12_reading 11 = .ok (.invokevirtual 544, 3) := getB' kX12_reading_0 7 rfl
theorem dX12_reading_14 : decode cX12_reading 14 = .ok (.ifCond .eq 49, 3) := getB' kX12_reading_0 8 rfl
theorem dX12_reading_17 : decode cX12_reading 17 = .ok (.aload_n 0, 1) := getB' kX12_reading_0 9 rfl
theorem dX12_reading_18 : decode cX12_reading 18 = .ok (.getfield 124, 3) := getB' kX12_reading_0 10 rfl
theorem dX12_reading_21 : decode cX12_reading 21 = .ok (.bipush 12, 2) := getB' kX12_reading_0 11 rfl
def LX12_reading_1 : List (Nat × Instr × Nat) := [(23, .iload_n 2, 1), (24, .imul, 1), (25, .iload_n 3, 1), (26, .iadd, 1), (27, .iaload, 1), (28, .invokestatic 520, 3), (31, .ifCond .eq 32, 3), (34, .iload 4, 2), (36, .iconst 1, 1), (37, .bipush 100, 2), (39, .invokestatic 371, 3), (42, .ifCond .eq 21, 3)]
theorem kX12_reading_1 : chkB cX12_reading LX12_reading_1 = true := by decide +kernel
theorem dX12_reading_23 : decode cX12_reading 23 = .ok (.iload_n 2, 1) := getB' kX12_reading_1 0 rfl
theorem dX12_reading_24 : decode cX12_reading 24 = .ok (.imul, 1) := getB' kX12_reading_1 1 rfl
theorem dX12_reading_25 : decode cX12_reading 25 = .ok (.iload_n 3, 1) := getB' kX12_reading_1 2 rfl
theorem dX12_reading_26 : decode cX12_reading 26 = .ok (.iadd, 1) := getB' kX12_reading_1 3 rfl
theorem dX12_reading_27 : decode cX12_reading 27 = .ok (.iaload, 1) := getB' kX12_reading_1 4 rfl
theorem dX12_reading_28 : decode cX12_reading 28 = .ok (.invokestatic 520, 3) := getB' kX12_reading_1 5 rfl
theorem dX12_reading_31 : decode cX12_reading 31 = .ok (.ifCond .eq 32, 3) := getB' kX12_reading_1 6 rfl
theorem dX12_reading_34 : decode cX12_reading 34 = .ok (.iload 4, 2) := getB' kX12_reading_1 7 rfl
theorem dX12_reading_36 : decode cX12_reading 36 = .ok (.iconst 1, 1) := getB' kX12_reading_1 8 rfl
theorem dX12_reading_37 : decode cX12_reading 37 = .ok (.bipush 100, 2) := getB' kX12_reading_1 9 rfl
theorem dX12_reading_39 : decode cX12_reading 39 = .ok (.invokestatic 371, 3) := getB' kX12_reading_1 10 rfl
theorem dX12_reading_42 : decode cX12_reading 42 = .ok (.ifCond .eq 21, 3) := getB' kX12_reading_1 11 rfl
def LX12_reading_2 : List (Nat × Instr × Nat) := [(45, .iload 4, 2), (47, .aload_n 0, 1), (48, .getfield 436, 3), (51, .if_icmp .gt 12, 3), (54, .aload_n 0, 1), (55, .getfield 547, 3), (58, .bipush 20, 2), (60, .if_icmp .ne 5, 3), (63, .iconst (-1), 1), (64, .ireturn, 1), (65, .aload_n 0, 1), (66, .iconst 0, 1)]
theorem kX12_reading_2 : chkB cX12_reading LX12_reading_2 = true := by decide +kernel
theorem dX12_reading_45 : decode cX12_reading 45 = .ok (.iload 4, 2) := getB' kX12_reading_2 0 rfl
theorem dX12_reading_47 : decode cX12_reading 47 = .ok (.aload_n 0, 1) := getB' kX12_reading_2 1 rfl
theorem dX12_reading_48 : decode cX12_reading 48 = .ok (.getfield 436, 3) := getB' kX12_reading_2 2 rfl
theorem dX12_reading_51 : decode cX12_reading 51 = .ok (.if_icmp .gt 12, 3) := getB' kX12_reading_2 3 rfl
theorem dX12_reading_54 : decode cX12_reading 54 = .ok (.aload_n 0, 1) := getB' kX12_reading_2 4 rfl
theorem dX12_reading_55 : decode cX12_reading 55 = .ok (.getfield 547, 3) := getB' kX12_reading_2 5 rfl
theorem dX12_reading_58 : decode cX12_reading 58 = .ok (.bipush 20, 2) := getB' kX12_reading_2 6 rfl
theorem dX12_reading_60 : decode cX12_reading 60 = .ok (.if_icmp .ne 5, 3) := getB' kX12_reading_2 7 rfl
theorem dX12_reading_63 : decode cX12_reading 63 = .ok (.iconst (-1), 1) := getB' kX12_reading_2 8 rfl
theorem dX12_reading_64 : decode cX12_reading 64 = .ok (.ireturn, 1) := getB' kX12_reading_2 9 rfl
theorem dX12_reading_65 : decode cX12_reading 65 = .ok (.aload_n 0, 1) := getB' kX12_reading_2 10 rfl
theorem dX12_reading_66 : decode cX12_reading 66 = .ok (.iconst 0, 1) := getB' kX12_reading_2 11 rfl
def LX12_reading_3 : List (Nat × Instr × Nat) := [(67, .putfield 443, 3), (70, .aload_n 0, 1), (71, .iload 4, 2), (73, .putfield 446, 3), (76, .aload_n 0, 1), (77, .iconst 0, 1), (78, .putfield 466, 3), (81, .aload_n 0, 1), (82, .invokevirtual 529, 3), (85, .ifCond .eq 30, 3), (88, .aload_n 0, 1), (89, .getfield 443, 3)]
theorem kX12_reading_3 : chkB cX12_reading LX12_reading_3 = true := by decide +kernel
theorem dX12_reading_67 : decode cX12_reading 67 = .ok (.putfield 443, 3) := getB' kX12_reading_3 0 rfl
theorem dX12_reading_70 : decode cX12_reading 70 = .ok (.aload_n 0, 1) := getB' kX12_reading_3 1 rfl
theorem dX12_reading_71 : decode cX12_reading 71 = .ok (.iload 4, 2) := getB' kX12_reading_3 2 rfl
theorem dX12_reading_73 : decode cX12_reading 73 = .ok (.putfield 446, 3) := getB' kX12_reading_3 3 rfl
theorem dX12_reading_76 : decode cX12_reading 76 = .ok (.aload_n 0, 1) := getB' kX12_reading_3 4 rfl
theorem dX12_reading_77 : decode cX12_reading 77 = .ok (.iconst 0, 1) := getB' kX12_reading_3 5 rfl
theorem dX12_reading_78 : decode cX12_reading 78 = .ok (.putfield 466, 3) := getB' kX12_reading_3 6 rfl
theorem dX12_reading_81 : decode cX12_reading 81 = .ok (.aload_n 0, 1) := getB' kX12_reading_3 7 rfl
theorem dX12_reading_82 : decode cX12_reading 82 = .ok (.invokevirtual 529, 3) := getB' kX12_reading_3 8 rfl
theorem dX12_reading_85 : decode cX12_reading 85 = .ok (.ifCond .eq 30, 3) := getB' kX12_reading_3 9 rfl
theorem dX12_reading_88 : decode cX12_reading 88 = .ok (.aload_n 0, 1) := getB' kX12_reading_3 10 rfl
theorem dX12_reading_89 : decode cX12_reading 89 = .ok (.getfield 443, 3) := getB' kX12_reading_3 11 rfl
def LX12_reading_4 : List (Nat × Instr × Nat) := [(92, .aload_n 0, 1), (93, .getfield 446, 3), (96, .if_icmp .eq 15, 3), (99, .aload_n 0, 1), (100, .iconst 1, 1), (101, .aload_n 0, 1), (102, .getfield 443, 3), (105, .invokevirtual 456, 3), (108, .ifCond .eq 7, 3), (111, .iconst 1, 1), (112, .goto 4, 3), (115, .iconst 0, 1)]
theorem kX12_reading_4 : chkB cX12_reading LX12_reading_4 = true := by decide +kernel
theorem dX12_reading_92 : decode cX12_reading 92 = .ok (.aload_n 0, 1) := getB' kX12_reading_4 0 rfl
theorem dX12_reading_93 : decode cX12_reading 93 = .ok (.getfield 446, 3) := getB' kX12_reading_4 1 rfl
theorem dX12_reading_96 : decode cX12_reading 96 = .ok (.if_icmp .eq 15, 3) := getB' kX12_reading_4 2 rfl
theorem dX12_reading_99 : decode cX12_reading 99 = .ok (.aload_n 0, 1) := getB' kX12_reading_4 3 rfl
theorem dX12_reading_100 : decode cX12_reading 100 = .ok (.iconst 1, 1) := getB' kX12_reading_4 4 rfl
theorem dX12_reading_101 : decode cX12_reading 101 = .ok (.aload_n 0, 1) := getB' kX12_reading_4 5 rfl
theorem dX12_reading_102 : decode cX12_reading 102 = .ok (.getfield 443, 3) := getB' kX12_reading_4 6 rfl
theorem dX12_reading_105 : decode cX12_reading 105 = .ok (.invokevirtual 456, 3) := getB' kX12_reading_4 7 rfl
theorem dX12_reading_108 : decode cX12_reading 108 = .ok (.ifCond .eq 7, 3) := getB' kX12_reading_4 8 rfl
theorem dX12_reading_111 : decode cX12_reading 111 = .ok (.iconst 1, 1) := getB' kX12_reading_4 9 rfl
theorem dX12_reading_112 : decode cX12_reading 112 = .ok (.goto 4, 3) := getB' kX12_reading_4 10 rfl
theorem dX12_reading_115 : decode cX12_reading 115 = .ok (.iconst 0, 1) := getB' kX12_reading_4 11 rfl
def LX12_reading_5 : List (Nat × Instr × Nat) := [(116, .istore 5, 2), (118, .aload_n 0, 1), (119, .iconst 0, 1), (120, .putfield 436, 3), (123, .iload 5, 2), (125, .ifCond .ne 8, 3), (128, .aload_n 0, 1), (129, .getfield 453, 3), (132, .ireturn, 1), (133, .aload_n 0, 1), (134, .getfield 151, 3), (137, .aload_n 0, 1)]
theorem kX12_reading_5 : chkB cX12_reading LX12_reading_5 = true := by decide +kernel
theorem dX12_reading_116 : decode cX12_reading 116 = .ok (.istore 5, 2) := getB' kX12_reading_5 0 rfl
theorem dX12_reading_118 : decode cX12_reading 118 = .ok (.aload_n 0, 1) := getB' kX12_reading_5 1 rfl
theorem dX12_reading_119 : decode cX12_reading 119 = .ok (.iconst 0, 1) := getB' kX12_reading_5 2 rfl
theorem dX12_reading_120 : decode cX12_reading 120 = .ok (.putfield 436, 3) := getB' kX12_reading_5 3 rfl
theorem dX12_reading_123 : decode cX12_reading 123 = .ok (.iload 5, 2) := getB' kX12_reading_5 4 rfl
theorem dX12_reading_125 : decode cX12_reading 125 = .ok (.ifCond .ne 8, 3) := getB' kX12_reading_5 5 rfl
theorem dX12_reading_128 : decode cX12_reading 128 = .ok (.aload_n 0, 1) := getB' kX12_reading_5 6 rfl
theorem dX12_reading_129 : decode cX12_reading 129 = .ok (.getfield 453, 3) := getB' kX12_reading_5 7 rfl
theorem dX12_reading_132 : decode cX12_reading 132 = .ok (.ireturn, 1) := getB' kX12_reading_5 8 rfl
theorem dX12_reading_133 : decode cX12_reading 133 = .ok (.aload_n 0, 1) := getB' kX12_reading_5 9 rfl
theorem dX12_reading_134 : decode cX12_reading 134 = .ok (.getfield 151, 3) := getB' kX12_reading_5 10 rfl
theorem dX12_reading_137 : decode cX12_reading 137 = .ok (.aload_n 0, 1) := getB' kX12_reading_5 11 rfl
def LX12_reading_6 : List (Nat × Instr × Nat) := [(138, .getfield 547, 3), (141, .iload_n 1, 1), (142, .iastore, 1), (143, .aload_n 0, 1), (144, .getfield 154, 3), (147, .aload_n 0, 1), (148, .getfield 547, 3), (151, .bipush 12, 2), (153, .iload_n 2, 1), (154, .imul, 1), (155, .iload_n 3, 1), (156, .iadd, 1)]
theorem kX12_reading_6 : chkB cX12_reading LX12_reading_6 = true := by decide +kernel
theorem dX12_reading_138 : decode cX12_reading 138 = .ok (.getfield 547, 3) := getB' kX12_reading_6 0 rfl
theorem dX12_reading_141 : decode cX12_reading 141 = .ok (.iload_n 1, 1) := getB' kX12_reading_6 1 rfl
theorem dX12_reading_142 : decode cX12_reading 142 = .ok (.iastore, 1) := getB' kX12_reading_6 2 rfl
theorem dX12_reading_143 : decode cX12_reading 143 = .ok (.aload_n 0, 1) := getB' kX12_reading_6 3 rfl
theorem dX12_reading_144 : decode cX12_reading 144 = .ok (.getfield 154, 3) := getB' kX12_reading_6 4 rfl
theorem dX12_reading_147 : decode cX12_reading 147 = .ok (.aload_n 0, 1) := getB' kX12_reading_6 5 rfl
theorem dX12_reading_148 : decode cX12_reading 148 = .ok (.getfield 547, 3) := getB' kX12_reading_6 6 rfl
theorem dX12_reading_151 : decode cX12_reading 151 = .ok (.bipush 12, 2) := getB' kX12_reading_6 7 rfl
theorem dX12_reading_153 : decode cX12_reading 153 = .ok (.iload_n 2, 1) := getB' kX12_reading_6 8 rfl
theorem dX12_reading_154 : decode cX12_reading 154 = .ok (.imul, 1) := getB' kX12_reading_6 9 rfl
theorem dX12_reading_155 : decode cX12_reading 155 = .ok (.iload_n 3, 1) := getB' kX12_reading_6 10 rfl
theorem dX12_reading_156 : decode cX12_reading 156 = .ok (.iadd, 1) := getB' kX12_reading_6 11 rfl
def LX12_reading_7 : List (Nat × Instr × Nat) := [(157, .iastore, 1), (158, .aload_n 0, 1), (159, .getfield 148, 3), (162, .aload_n 0, 1), (163, .getfield 547, 3), (166, .aload_n 0, 1), (167, .getfield 466, 3), (170, .iastore, 1), (171, .iconst 0, 1), (172, .istore 6, 2), (174, .iload 6, 2), (176, .aload_n 0, 1)]
theorem kX12_reading_7 : chkB cX12_reading LX12_reading_7 = true := by decide +kernel
theorem dX12_reading_157 : decode cX12_reading 157 = .ok (.iastore, 1) := getB' kX12_reading_7 0 rfl
theorem dX12_reading_158 : decode cX12_reading 158 = .ok (.aload_n 0, 1) := getB' kX12_reading_7 1 rfl
theorem dX12_reading_159 : decode cX12_reading 159 = .ok (.getfield 148, 3) := getB' kX12_reading_7 2 rfl
theorem dX12_reading_162 : decode cX12_reading 162 = .ok (.aload_n 0, 1) := getB' kX12_reading_7 3 rfl
theorem dX12_reading_163 : decode cX12_reading 163 = .ok (.getfield 547, 3) := getB' kX12_reading_7 4 rfl
theorem dX12_reading_166 : decode cX12_reading 166 = .ok (.aload_n 0, 1) := getB' kX12_reading_7 5 rfl
theorem dX12_reading_167 : decode cX12_reading 167 = .ok (.getfield 466, 3) := getB' kX12_reading_7 6 rfl
theorem dX12_reading_170 : decode cX12_reading 170 = .ok (.iastore, 1) := getB' kX12_reading_7 7 rfl
theorem dX12_reading_171 : decode cX12_reading 171 = .ok (.iconst 0, 1) := getB' kX12_reading_7 8 rfl
theorem dX12_reading_172 : decode cX12_reading 172 = .ok (.istore 6, 2) := getB' kX12_reading_7 9 rfl
theorem dX12_reading_174 : decode cX12_reading 174 = .ok (.iload 6, 2) := getB' kX12_reading_7 10 rfl
theorem dX12_reading_176 : decode cX12_reading 176 = .ok (.aload_n 0, 1) := getB' kX12_reading_7 11 rfl
def LX12_reading_8 : List (Nat × Instr × Nat) := [(177, .getfield 466, 3), (180, .if_icmp .ge 31, 3), (183, .aload_n 0, 1), (184, .getfield 145, 3), (187, .bipush 110, 2), (189, .aload_n 0, 1), (190, .getfield 547, 3), (193, .imul, 1), (194, .iload 6, 2), (196, .iadd, 1), (197, .aload_n 0, 1), (198, .getfield 88, 3)]
theorem kX12_reading_8 : chkB cX12_reading LX12_reading_8 = true := by decide +kernel
theorem dX12_reading_177 : decode cX12_reading 177 = .ok (.getfield 466, 3) := getB' kX12_reading_8 0 rfl
theorem dX12_reading_180 : decode cX12_reading 180 = .ok (.if_icmp .ge 31, 3) := getB' kX12_reading_8 1 rfl
theorem dX12_reading_183 : decode cX12_reading 183 = .ok (.aload_n 0, 1) := getB' kX12_reading_8 2 rfl
theorem dX12_reading_184 : decode cX12_reading 184 = .ok (.getfield 145, 3) := getB' kX12_reading_8 3 rfl
theorem dX12_reading_187 : decode cX12_reading 187 = .ok (.bipush 110, 2) := getB' kX12_reading_8 4 rfl
theorem dX12_reading_189 : decode cX12_reading 189 = .ok (.aload_n 0, 1) := getB' kX12_reading_8 5 rfl
theorem dX12_reading_190 : decode cX12_reading 190 = .ok (.getfield 547, 3) := getB' kX12_reading_8 6 rfl
theorem dX12_reading_193 : decode cX12_reading 193 = .ok (.imul, 1) := getB' kX12_reading_8 7 rfl
theorem dX12_reading_194 : decode cX12_reading 194 = .ok (.iload 6, 2) := getB' kX12_reading_8 8 rfl
theorem dX12_reading_196 : decode cX12_reading 196 = .ok (.iadd, 1) := getB' kX12_reading_8 9 rfl
theorem dX12_reading_197 : decode cX12_reading 197 = .ok (.aload_n 0, 1) := getB' kX12_reading_8 10 rfl
theorem dX12_reading_198 : decode cX12_reading 198 = .ok (.getfield 88, 3) := getB' kX12_reading_8 11 rfl
def LX12_reading_9 : List (Nat × Instr × Nat) := [(201, .iload 6, 2), (203, .iaload, 1), (204, .iastore, 1), (205, .iinc 6 1, 3), (208, .goto (-34), 3), (211, .aload_n 0, 1), (212, .aload_n 0, 1), (213, .getfield 547, 3), (216, .iconst 1, 1), (217, .iadd, 1), (218, .putfield 547, 3), (221, .iconst 0, 1)]
theorem kX12_reading_9 : chkB cX12_reading LX12_reading_9 = true := by decide +kernel
theorem dX12_reading_201 : decode cX12_reading 201 = .ok (.iload 6, 2) := getB' kX12_reading_9 0 rfl
theorem dX12_reading_203 : decode cX12_reading 203 = .ok (.iaload, 1) := getB' kX12_reading_9 1 rfl
theorem dX12_reading_204 : decode cX12_reading 204 = .ok (.iastore, 1) := getB' kX12_reading_9 2 rfl
theorem dX12_reading_205 : decode cX12_reading 205 = .ok (.iinc 6 1, 3) := getB' kX12_reading_9 3 rfl
theorem dX12_reading_208 : decode cX12_reading 208 = .ok (.goto (-34), 3) := getB' kX12_reading_9 4 rfl
theorem dX12_reading_211 : decode cX12_reading 211 = .ok (.aload_n 0, 1) := getB' kX12_reading_9 5 rfl
theorem dX12_reading_212 : decode cX12_reading 212 = .ok (.aload_n 0, 1) := getB' kX12_reading_9 6 rfl
theorem dX12_reading_213 : decode cX12_reading 213 = .ok (.getfield 547, 3) := getB' kX12_reading_9 7 rfl
theorem dX12_reading_216 : decode cX12_reading 216 = .ok (.iconst 1, 1) := getB' kX12_reading_9 8 rfl
theorem dX12_reading_217 : decode cX12_reading 217 = .ok (.iadd, 1) := getB' kX12_reading_9 9 rfl
theorem dX12_reading_218 : decode cX12_reading 218 = .ok (.putfield 547, 3) := getB' kX12_reading_9 10 rfl
theorem dX12_reading_221 : decode cX12_reading 221 = .ok (.iconst 0, 1) := getB' kX12_reading_9 11 rfl
def LX12_reading_10 : List (Nat × Instr × Nat) := [(222, .ireturn, 1)]
theorem kX12_reading_10 : chkB cX12_reading LX12_reading_10 = true := by decide +kernel
theorem dX12_reading_222 : decode cX12_reading 222 = .ok (.ireturn, 1) := getB' kX12_reading_10 0 rfl
def LX12_strikes_0 : List (Nat × Instr × Nat) := [(0, .iconst 0, 1), (1, .istore_n 2, 1), (2, .iload_n 2, 1), (3, .bipush 12, 2), (5, .iload_n 1, 1), (6, .imul, 1), (7, .if_icmp .ge 16, 3), (10, .aload_n 0, 1), (11, .getfield 160, 3), (14, .iload_n 2, 1), (15, .iconst 0, 1), (16, .bastore, 1)]
theorem kX12_strikes_0 : chkB cX12_strikes LX12_strikes_0 = true := by decide +kernel
theorem dX12_strikes_0 : decode cX12_strikes 0 = .ok (.iconst 0, 1) := getB' kX12_strikes_0 0 rfl
theorem dX12_strikes_1 : decode cX12_strikes 1 = .ok (.istore_n 2, 1) := getB' kX12_strikes_0 1 rfl
theorem dX12_strikes_2 : decode cX12_strikes 2 = .ok (.iload_n 2, 1) := getB' kX12_strikes_0 2 rfl
theorem dX12_strikes_3 : decode cX12_strikes 3 = .ok (.bipush 12, 2) := getB' kX12_strikes_0 3 rfl
theorem dX12_strikes_5 : decode cX12_strikes 5 = .ok (.iload_n 1, 1) := getB' kX12_strikes_0 4 rfl
theorem dX12_strikes_6 : decode cX12_strikes 6 = .ok (.imul, 1) := getB' kX12_strikes_0 5 rfl
theorem dX12_strikes_7 : decode cX12_strikes 7 = .ok (.if_icmp .ge 16, 3) := getB' kX12_strikes_0 6 rfl
theorem dX12_strikes_10 : decode cX12_strikes 10 = .ok (.aload_n 0, 1) := getB' kX12_strikes_0 7 rfl
theorem dX12_strikes_11 : decode cX12_strikes 11 = .ok (.getfield 160, 3) := getB' kX12_strikes_0 8 rfl
theorem dX12_strikes_14 : decode cX12_strikes 14 = .ok (.iload_n 2, 1) := getB' kX12_strikes_0 9 rfl
theorem dX12_strikes_15 : decode cX12_strikes 15 = .ok (.iconst 0, 1) := getB' kX12_strikes_0 10 rfl
theorem dX12_strikes_16 : decode cX12_strikes 16 = .ok (.bastore, 1) := getB' kX12_strikes_0 11 rfl
def LX12_strikes_1 : List (Nat × Instr × Nat) := [(17, .iinc 2 1, 3), (20, .goto (-18), 3), (23, .iload_n 1, 1), (24, .iconst 1, 1), (25, .isub, 1), (26, .istore_n 2, 1), (27, .iload_n 2, 1), (28, .ifCond .lt 101, 3), (31, .iconst 0, 1), (32, .istore_n 3, 1), (33, .iload_n 3, 1), (34, .aload_n 0, 1)]
theorem kX12_strikes_1 : chkB cX12_strikes LX12_strikes_1 = true := by decide +kernel
theorem dX12_strikes_17 : decode cX12_strikes 17 = .ok (.iinc 2 1, 3) := getB' kX12_strikes_1 0 rfl
theorem dX12_strikes_20 : decode cX12_strikes 20 = .ok (.goto (-18), 3) := getB' kX12_strikes_1 1 rfl
theorem dX12_strikes_23 : decode cX12_strikes 23 = .ok (.iload_n 1, 1) := getB' kX12_strikes_1 2 rfl
theorem dX12_strikes_24 : decode cX12_strikes 24 = .ok (.iconst 1, 1) := getB' kX12_strikes_1 3 rfl
theorem dX12_strikes_25 : decode cX12_strikes 25 = .ok (.isub, 1) := getB' kX12_strikes_1 4 rfl
theorem dX12_strikes_26 : decode cX12_strikes 26 = .ok (.istore_n 2, 1) := getB' kX12_strikes_1 5 rfl
theorem dX12_strikes_27 : decode cX12_strikes 27 = .ok (.iload_n 2, 1) := getB' kX12_strikes_1 6 rfl
theorem dX12_strikes_28 : decode cX12_strikes 28 = .ok (.ifCond .lt 101, 3) := getB' kX12_strikes_1 7 rfl
theorem dX12_strikes_31 : decode cX12_strikes 31 = .ok (.iconst 0, 1) := getB' kX12_strikes_1 8 rfl
theorem dX12_strikes_32 : decode cX12_strikes 32 = .ok (.istore_n 3, 1) := getB' kX12_strikes_1 9 rfl
theorem dX12_strikes_33 : decode cX12_strikes 33 = .ok (.iload_n 3, 1) := getB' kX12_strikes_1 10 rfl
theorem dX12_strikes_34 : decode cX12_strikes 34 = .ok (.aload_n 0, 1) := getB' kX12_strikes_1 11 rfl
def LX12_strikes_2 : List (Nat × Instr × Nat) := [(35, .getfield 115, 3), (38, .iload_n 2, 1), (39, .iaload, 1), (40, .if_icmp .ge 83, 3), (43, .aload_n 0, 1), (44, .getfield 157, 3), (47, .iload_n 2, 1), (48, .baload, 1), (49, .ifCond .eq 74, 3), (52, .bipush 12, 2), (54, .iload_n 2, 1), (55, .imul, 1)]
theorem kX12_strikes_2 : chkB cX12_strikes LX12_strikes_2 = true := by decide +kernel
theorem dX12_strikes_35 : decode cX12_strikes 35 = .ok (.getfield 115, 3) := getB' kX12_strikes_2 0 rfl
theorem dX12_strikes_38 : decode cX12_strikes 38 = .ok (.iload_n 2, 1) := getB' kX12_strikes_2 1 rfl
theorem dX12_strikes_39 : decode cX12_strikes 39 = .ok (.iaload, 1) := getB' kX12_strikes_2 2 rfl
theorem dX12_strikes_40 : decode cX12_strikes 40 = .ok (.if_icmp .ge 83, 3) := getB' kX12_strikes_2 3 rfl
theorem dX12_strikes_43 : decode cX12_strikes 43 = .ok (.aload_n 0, 1) := getB' kX12_strikes_2 4 rfl
theorem dX12_strikes_44 : decode cX12_strikes 44 = .ok (.getfield 157, 3) := getB' kX12_strikes_2 5 rfl
theorem dX12_strikes_47 : decode cX12_strikes 47 = .ok (.iload_n 2, 1) := getB' kX12_strikes_2 6 rfl
theorem dX12_strikes_48 : decode cX12_strikes 48 = .ok (.baload, 1) := getB' kX12_strikes_2 7 rfl
theorem dX12_strikes_49 : decode cX12_strikes 49 = .ok (.ifCond .eq 74, 3) := getB' kX12_strikes_2 8 rfl
theorem dX12_strikes_52 : decode cX12_strikes 52 = .ok (.bipush 12, 2) := getB' kX12_strikes_2 9 rfl
theorem dX12_strikes_54 : decode cX12_strikes 54 = .ok (.iload_n 2, 1) := getB' kX12_strikes_2 10 rfl
theorem dX12_strikes_55 : decode cX12_strikes 55 = .ok (.imul, 1) := getB' kX12_strikes_2 11 rfl
def LX12_strikes_3 : List (Nat × Instr × Nat) := [(56, .iload_n 3, 1), (57, .iadd, 1), (58, .istore 4, 2), (60, .aload_n 0, 1), (61, .getfield 124, 3), (64, .iload 4, 2), (66, .iaload, 1), (67, .bipush 120, 2), (69, .if_icmp .ne 48, 3), (72, .aload_n 0, 1), (73, .getfield 160, 3), (76, .iload 4, 2)]
theorem kX12_strikes_3 : chkB cX12_strikes LX12_strikes_3 = true := by decide +kernel
theorem dX12_strikes_56 : decode cX12_strikes 56 = .ok (.iload_n 3, 1) := getB' kX12_strikes_3 0 rfl
theorem dX12_strikes_57 : decode cX12_strikes 57 = .ok (.iadd, 1) := getB' kX12_strikes_3 1 rfl
theorem dX12_strikes_58 : decode cX12_strikes 58 = .ok (.istore 4, 2) := getB' kX12_strikes_3 2 rfl
theorem dX12_strikes_60 : decode cX12_strikes 60 = .ok (.aload_n 0, 1) := getB' kX12_strikes_3 3 rfl
theorem dX12_strikes_61 : decode cX12_strikes 61 = .ok (.getfield 124, 3) := getB' kX12_strikes_3 4 rfl
theorem dX12_strikes_64 : decode cX12_strikes 64 = .ok (.iload 4, 2) := getB' kX12_strikes_3 5 rfl
theorem dX12_strikes_66 : decode cX12_strikes 66 = .ok (.iaload, 1) := getB' kX12_strikes_3 6 rfl
theorem dX12_strikes_67 : decode cX12_strikes 67 = .ok (.bipush 120, 2) := getB' kX12_strikes_3 7 rfl
theorem dX12_strikes_69 : decode cX12_strikes 69 = .ok (.if_icmp .ne 48, 3) := getB' kX12_strikes_3 8 rfl
theorem dX12_strikes_72 : decode cX12_strikes 72 = .ok (.aload_n 0, 1) := getB' kX12_strikes_3 9 rfl
theorem dX12_strikes_73 : decode cX12_strikes 73 = .ok (.getfield 160, 3) := getB' kX12_strikes_3 10 rfl
theorem dX12_strikes_76 : decode cX12_strikes 76 = .ok (.iload 4, 2) := getB' kX12_strikes_3 11 rfl
def LX12_strikes_4 : List (Nat × Instr × Nat) := [(78, .baload, 1), (79, .ifCond .ne 38, 3), (82, .aload_n 0, 1), (83, .getfield 136, 3), (86, .iload 4, 2), (88, .iaload, 1), (89, .iload_n 2, 1), (90, .if_icmp .ge 27, 3), (93, .aload_n 0, 1), (94, .getfield 160, 3), (97, .bipush 12, 2), (99, .aload_n 0, 1)]
theorem kX12_strikes_4 : chkB cX12_strikes LX12_strikes_4 = true := by decide +kernel
theorem dX12_strikes_78 : decode cX12_strikes 78 = .ok (.baload, 1) := getB' kX12_strikes_4 0 rfl
theorem dX12_strikes_79 : decode cX12_strikes 79 = .ok (.ifCond .ne 38, 3) := getB' kX12_strikes_4 1 rfl
theorem dX12_strikes_82 : decode cX12_strikes 82 = .ok (.aload_n 0, 1) := getB' kX12_strikes_4 2 rfl
theorem dX12_strikes_83 : decode cX12_strikes 83 = .ok (.getfield 136, 3) := getB' kX12_strikes_4 3 rfl
theorem dX12_strikes_86 : decode cX12_strikes 86 = .ok (.iload 4, 2) := getB' kX12_strikes_4 4 rfl
theorem dX12_strikes_88 : decode cX12_strikes 88 = .ok (.iaload, 1) := getB' kX12_strikes_4 5 rfl
theorem dX12_strikes_89 : decode cX12_strikes 89 = .ok (.iload_n 2, 1) := getB' kX12_strikes_4 6 rfl
theorem dX12_strikes_90 : decode cX12_strikes 90 = .ok (.if_icmp .ge 27, 3) := getB' kX12_strikes_4 7 rfl
theorem dX12_strikes_93 : decode cX12_strikes 93 = .ok (.aload_n 0, 1) := getB' kX12_strikes_4 8 rfl
theorem dX12_strikes_94 : decode cX12_strikes 94 = .ok (.getfield 160, 3) := getB' kX12_strikes_4 9 rfl
theorem dX12_strikes_97 : decode cX12_strikes 97 = .ok (.bipush 12, 2) := getB' kX12_strikes_4 10 rfl
theorem dX12_strikes_99 : decode cX12_strikes 99 = .ok (.aload_n 0, 1) := getB' kX12_strikes_4 11 rfl
def LX12_strikes_5 : List (Nat × Instr × Nat) := [(100, .getfield 136, 3), (103, .iload 4, 2), (105, .iaload, 1), (106, .imul, 1), (107, .aload_n 0, 1), (108, .getfield 139, 3), (111, .iload 4, 2), (113, .iaload, 1), (114, .iadd, 1), (115, .iconst 1, 1), (116, .bastore, 1), (117, .iinc 3 1, 3)]
theorem kX12_strikes_5 : chkB cX12_strikes LX12_strikes_5 = true := by decide +kernel
theorem dX12_strikes_100 : decode cX12_strikes 100 = .ok (.getfield 136, 3) := getB' kX12_strikes_5 0 rfl
theorem dX12_strikes_103 : decode cX12_strikes 103 = .ok (.iload 4, 2) := getB' kX12_strikes_5 1 rfl
theorem dX12_strikes_105 : decode cX12_strikes 105 = .ok (.iaload, 1) := getB' kX12_strikes_5 2 rfl
theorem dX12_strikes_106 : decode cX12_strikes 106 = .ok (.imul, 1) := getB' kX12_strikes_5 3 rfl
theorem dX12_strikes_107 : decode cX12_strikes 107 = .ok (.aload_n 0, 1) := getB' kX12_strikes_5 4 rfl
theorem dX12_strikes_108 : decode cX12_strikes 108 = .ok (.getfield 139, 3) := getB' kX12_strikes_5 5 rfl
theorem dX12_strikes_111 : decode cX12_strikes 111 = .ok (.iload 4, 2) := getB' kX12_strikes_5 6 rfl
theorem dX12_strikes_113 : decode cX12_strikes 113 = .ok (.iaload, 1) := getB' kX12_strikes_5 7 rfl
theorem dX12_strikes_114 : decode cX12_strikes 114 = .ok (.iadd, 1) := getB' kX12_strikes_5 8 rfl
theorem dX12_strikes_115 : decode cX12_strikes 115 = .ok (.iconst 1, 1) := getB' kX12_strikes_5 9 rfl
theorem dX12_strikes_116 : decode cX12_strikes 116 = .ok (.bastore, 1) := getB' kX12_strikes_5 10 rfl
theorem dX12_strikes_117 : decode cX12_strikes 117 = .ok (.iinc 3 1, 3) := getB' kX12_strikes_5 11 rfl
def LX12_strikes_6 : List (Nat × Instr × Nat) := [(120, .goto (-87), 3), (123, .iinc 2 (-1), 3), (126, .goto (-99), 3), (129, .return_, 1)]
theorem kX12_strikes_6 : chkB cX12_strikes LX12_strikes_6 = true := by decide +kernel
theorem dX12_strikes_120 : decode cX12_strikes 120 = .ok (.goto (-87), 3) := getB' kX12_strikes_6 0 rfl
theorem dX12_strikes_123 : decode cX12_strikes 123 = .ok (.iinc 2 (-1), 3) := getB' kX12_strikes_6 1 rfl
theorem dX12_strikes_126 : decode cX12_strikes 126 = .ok (.goto (-99), 3) := getB' kX12_strikes_6 2 rfl
theorem dX12_strikes_129 : decode cX12_strikes 129 = .ok (.return_, 1) := getB' kX12_strikes_6 3 rfl
def LX12_numberBy_0 : List (Nat × Instr × Nat) := [(0, .iload 4, 2), (2, .iconst 1, 1), (3, .isub, 1), (4, .istore 5, 2), (6, .iload 5, 2), (8, .ifCond .lt 102, 3), (11, .aload_n 0, 1), (12, .getfield 115, 3), (15, .iload 5, 2), (17, .iaload, 1), (18, .iconst 1, 1), (19, .isub, 1)]
theorem kX12_numberBy_0 : chkB cX12_numberBy LX12_numberBy_0 = true := by decide +kernel
theorem dX12_numberBy_0 : decode cX12_numberBy 0 = .ok (.iload 4, 2) := getB' kX12_numberBy_0 0 rfl
theorem dX12_numberBy_2 : decode cX12_numberBy 2 = .ok (.iconst 1, 1) := getB' kX12_numberBy_0 1 rfl
theorem dX12_numberBy_3 : decode cX12_numberBy 3 = .ok (.isub, 1) := getB' kX12_numberBy_0 2 rfl
theorem dX12_numberBy_4 : decode cX12_numberBy 4 = .ok (.istore 5, 2) := getB' kX12_numberBy_0 3 rfl
theorem dX12_numberBy_6 : decode cX12_numberBy 6 = .ok (.iload 5, 2) := getB' kX12_numberBy_0 4 rfl
theorem dX12_numberBy_8 : decode cX12_numberBy 8 = .ok (.ifCond .lt 102, 3) := getB' kX12_numberBy_0 5 rfl
theorem dX12_numberBy_11 : decode cX12_numberBy 11 = .ok (.aload_n 0, 1) := getB' kX12_numberBy_0 6 rfl
theorem dX12_numberBy_12 : decode cX12_numberBy 12 = .ok (.getfield 115, 3) := getB' kX12_numberBy_0 7 rfl
theorem dX12_numberBy_15 : decode cX12_numberBy 15 = .ok (.iload 5, 2) := getB' kX12_numberBy_0 8 rfl
theorem dX12_numberBy_17 : decode cX12_numberBy 17 = .ok (.iaload, 1) := getB' kX12_numberBy_0 9 rfl
theorem dX12_numberBy_18 : decode cX12_numberBy 18 = .ok (.iconst 1, 1) := getB' kX12_numberBy_0 10 rfl
theorem dX12_numberBy_19 : decode cX12_numberBy 19 = .ok (.isub, 1) := getB' kX12_numberBy_0 11 rfl
def LX12_numberBy_1 : List (Nat × Instr × Nat) := [(20, .istore 6, 2), (22, .iload 6, 2), (24, .ifCond .lt 80, 3), (27, .aload_n 0, 1), (28, .getfield 157, 3), (31, .iload 5, 2), (33, .baload, 1), (34, .ifCond .eq 70, 3), (37, .bipush 12, 2), (39, .iload 5, 2), (41, .imul, 1), (42, .iload 6, 2)]
theorem kX12_numberBy_1 : chkB cX12_numberBy LX12_numberBy_1 = true := by decide +kernel
theorem dX12_numberBy_20 : decode cX12_numberBy 20 = .ok (.istore 6, 2) := getB' kX12_numberBy_1 0 rfl
theorem dX12_numberBy_22 : decode cX12_numberBy 22 = .ok (.iload 6, 2) := getB' kX12_numberBy_1 1 rfl
theorem dX12_numberBy_24 : decode cX12_numberBy 24 = .ok (.ifCond .lt 80, 3) := getB' kX12_numberBy_1 2 rfl
theorem dX12_numberBy_27 : decode cX12_numberBy 27 = .ok (.aload_n 0, 1) := getB' kX12_numberBy_1 3 rfl
theorem dX12_numberBy_28 : decode cX12_numberBy 28 = .ok (.getfield 157, 3) := getB' kX12_numberBy_1 4 rfl
theorem dX12_numberBy_31 : decode cX12_numberBy 31 = .ok (.iload 5, 2) := getB' kX12_numberBy_1 5 rfl
theorem dX12_numberBy_33 : decode cX12_numberBy 33 = .ok (.baload, 1) := getB' kX12_numberBy_1 6 rfl
theorem dX12_numberBy_34 : decode cX12_numberBy 34 = .ok (.ifCond .eq 70, 3) := getB' kX12_numberBy_1 7 rfl
theorem dX12_numberBy_37 : decode cX12_numberBy 37 = .ok (.bipush 12, 2) := getB' kX12_numberBy_1 8 rfl
theorem dX12_numberBy_39 : decode cX12_numberBy 39 = .ok (.iload 5, 2) := getB' kX12_numberBy_1 9 rfl
theorem dX12_numberBy_41 : decode cX12_numberBy 41 = .ok (.imul, 1) := getB' kX12_numberBy_1 10 rfl
theorem dX12_numberBy_42 : decode cX12_numberBy 42 = .ok (.iload 6, 2) := getB' kX12_numberBy_1 11 rfl
def LX12_numberBy_2 : List (Nat × Instr × Nat) := [(44, .iadd, 1), (45, .istore 7, 2), (47, .aload_n 0, 1), (48, .getfield 124, 3), (51, .iload 7, 2), (53, .iaload, 1), (54, .iload_n 1, 1), (55, .if_icmp .ne 43, 3), (58, .aload_n 0, 1), (59, .getfield 160, 3), (62, .iload 7, 2), (64, .baload, 1)]
theorem kX12_numberBy_2 : chkB cX12_numberBy LX12_numberBy_2 = true := by decide +kernel
theorem dX12_numberBy_44 : decode cX12_numberBy 44 = .ok (.iadd, 1) := getB' kX12_numberBy_2 0 rfl
theorem dX12_numberBy_45 : decode cX12_numberBy 45 = .ok (.istore 7, 2) := getB' kX12_numberBy_2 1 rfl
theorem dX12_numberBy_47 : decode cX12_numberBy 47 = .ok (.aload_n 0, 1) := getB' kX12_numberBy_2 2 rfl
theorem dX12_numberBy_48 : decode cX12_numberBy 48 = .ok (.getfield 124, 3) := getB' kX12_numberBy_2 3 rfl
theorem dX12_numberBy_51 : decode cX12_numberBy 51 = .ok (.iload 7, 2) := getB' kX12_numberBy_2 4 rfl
theorem dX12_numberBy_53 : decode cX12_numberBy 53 = .ok (.iaload, 1) := getB' kX12_numberBy_2 5 rfl
theorem dX12_numberBy_54 : decode cX12_numberBy 54 = .ok (.iload_n 1, 1) := getB' kX12_numberBy_2 6 rfl
theorem dX12_numberBy_55 : decode cX12_numberBy 55 = .ok (.if_icmp .ne 43, 3) := getB' kX12_numberBy_2 7 rfl
theorem dX12_numberBy_58 : decode cX12_numberBy 58 = .ok (.aload_n 0, 1) := getB' kX12_numberBy_2 8 rfl
theorem dX12_numberBy_59 : decode cX12_numberBy 59 = .ok (.getfield 160, 3) := getB' kX12_numberBy_2 9 rfl
theorem dX12_numberBy_62 : decode cX12_numberBy 62 = .ok (.iload 7, 2) := getB' kX12_numberBy_2 10 rfl
theorem dX12_numberBy_64 : decode cX12_numberBy 64 = .ok (.baload, 1) := getB' kX12_numberBy_2 11 rfl
def LX12_numberBy_3 : List (Nat × Instr × Nat) := [(65, .ifCond .ne 33, 3), (68, .aload_n 0, 1), (69, .getfield 136, 3), (72, .iload 7, 2), (74, .iaload, 1), (75, .iload_n 2, 1), (76, .if_icmp .ne 22, 3), (79, .aload_n 0, 1), (80, .getfield 139, 3), (83, .iload 7, 2), (85, .iaload, 1), (86, .iload_n 3, 1)]
theorem kX12_numberBy_3 : chkB cX12_numberBy LX12_numberBy_3 = true := by decide +kernel
theorem dX12_numberBy_65 : decode cX12_numberBy 65 = .ok (.ifCond .ne 33, 3) := getB' kX12_numberBy_3 0 rfl
theorem dX12_numberBy_68 : decode cX12_numberBy 68 = .ok (.aload_n 0, 1) := getB' kX12_numberBy_3 1 rfl
theorem dX12_numberBy_69 : decode cX12_numberBy 69 = .ok (.getfield 136, 3) := getB' kX12_numberBy_3 2 rfl
theorem dX12_numberBy_72 : decode cX12_numberBy 72 = .ok (.iload 7, 2) := getB' kX12_numberBy_3 3 rfl
theorem dX12_numberBy_74 : decode cX12_numberBy 74 = .ok (.iaload, 1) := getB' kX12_numberBy_3 4 rfl
theorem dX12_numberBy_75 : decode cX12_numberBy 75 = .ok (.iload_n 2, 1) := getB' kX12_numberBy_3 5 rfl
theorem dX12_numberBy_76 : decode cX12_numberBy 76 = .ok (.if_icmp .ne 22, 3) := getB' kX12_numberBy_3 6 rfl
theorem dX12_numberBy_79 : decode cX12_numberBy 79 = .ok (.aload_n 0, 1) := getB' kX12_numberBy_3 7 rfl
theorem dX12_numberBy_80 : decode cX12_numberBy 80 = .ok (.getfield 139, 3) := getB' kX12_numberBy_3 8 rfl
theorem dX12_numberBy_83 : decode cX12_numberBy 83 = .ok (.iload 7, 2) := getB' kX12_numberBy_3 9 rfl
theorem dX12_numberBy_85 : decode cX12_numberBy 85 = .ok (.iaload, 1) := getB' kX12_numberBy_3 10 rfl
theorem dX12_numberBy_86 : decode cX12_numberBy 86 = .ok (.iload_n 3, 1) := getB' kX12_numberBy_3 11 rfl
def LX12_numberBy_4 : List (Nat × Instr × Nat) := [(87, .if_icmp .ne 11, 3), (90, .aload_n 0, 1), (91, .getfield 133, 3), (94, .iload 7, 2), (96, .iaload, 1), (97, .ireturn, 1), (98, .iinc 6 (-1), 3), (101, .goto (-79), 3), (104, .iinc 5 (-1), 3), (107, .goto (-101), 3), (110, .iconst (-1), 1), (111, .ireturn, 1)]
theorem kX12_numberBy_4 : chkB cX12_numberBy LX12_numberBy_4 = true := by decide +kernel
theorem dX12_numberBy_87 : decode cX12_numberBy 87 = .ok (.if_icmp .ne 11, 3) := getB' kX12_numberBy_4 0 rfl
theorem dX12_numberBy_90 : decode cX12_numberBy 90 = .ok (.aload_n 0, 1) := getB' kX12_numberBy_4 1 rfl
theorem dX12_numberBy_91 : decode cX12_numberBy 91 = .ok (.getfield 133, 3) := getB' kX12_numberBy_4 2 rfl
theorem dX12_numberBy_94 : decode cX12_numberBy 94 = .ok (.iload 7, 2) := getB' kX12_numberBy_4 3 rfl
theorem dX12_numberBy_96 : decode cX12_numberBy 96 = .ok (.iaload, 1) := getB' kX12_numberBy_4 4 rfl
theorem dX12_numberBy_97 : decode cX12_numberBy 97 = .ok (.ireturn, 1) := getB' kX12_numberBy_4 5 rfl
theorem dX12_numberBy_98 : decode cX12_numberBy 98 = .ok (.iinc 6 (-1), 3) := getB' kX12_numberBy_4 6 rfl
theorem dX12_numberBy_101 : decode cX12_numberBy 101 = .ok (.goto (-79), 3) := getB' kX12_numberBy_4 7 rfl
theorem dX12_numberBy_104 : decode cX12_numberBy 104 = .ok (.iinc 5 (-1), 3) := getB' kX12_numberBy_4 8 rfl
theorem dX12_numberBy_107 : decode cX12_numberBy 107 = .ok (.goto (-101), 3) := getB' kX12_numberBy_4 9 rfl
theorem dX12_numberBy_110 : decode cX12_numberBy 110 = .ok (.iconst (-1), 1) := getB' kX12_numberBy_4 10 rfl
theorem dX12_numberBy_111 : decode cX12_numberBy 111 = .ok (.ireturn, 1) := getB' kX12_numberBy_4 11 rfl
def LX12_binds_0 : List (Nat × Instr × Nat) := [(0, .iconst 0, 1), (1, .istore_n 3, 1), (2, .iload_n 3, 1), (3, .aload_n 0, 1), (4, .getfield 535, 3), (7, .if_icmp .ge 115, 3), (10, .iload_n 2, 1), (11, .aload_n 0, 1), (12, .getfield 118, 3), (15, .iload_n 3, 1), (16, .iaload, 1), (17, .aload_n 0, 1)]
theorem kX12_binds_0 : chkB cX12_binds LX12_binds_0 = true := by decide +kernel
theorem dX12_binds_0 : decode cX12_binds 0 = .ok (.iconst 0, 1) := getB' kX12_binds_0 0 rfl
theorem dX12_binds_1 : decode cX12_binds 1 = .ok (.istore_n 3, 1) := getB' kX12_binds_0 1 rfl
theorem dX12_binds_2 : decode cX12_binds 2 = .ok (.iload_n 3, 1) := getB' kX12_binds_0 2 rfl
theorem dX12_binds_3 : decode cX12_binds 3 = .ok (.aload_n 0, 1) := getB' kX12_binds_0 3 rfl
theorem dX12_binds_4 : decode cX12_binds 4 = .ok (.getfield 535, 3) := getB' kX12_binds_0 4 rfl
theorem dX12_binds_7 : decode cX12_binds 7 = .ok (.if_icmp .ge 115, 3) := getB' kX12_binds_0 5 rfl
theorem dX12_binds_10 : decode cX12_binds 10 = .ok (.iload_n 2, 1) := getB' kX12_binds_0 6 rfl
theorem dX12_binds_11 : decode cX12_binds 11 = .ok (.aload_n 0, 1) := getB' kX12_binds_0 7 rfl
theorem dX12_binds_12 : decode cX12_binds 12 = .ok (.getfield 118, 3) := getB' kX12_binds_0 8 rfl
theorem dX12_binds_15 : decode cX12_binds 15 = .ok (.iload_n 3, 1) := getB' kX12_binds_0 9 rfl
theorem dX12_binds_16 : decode cX12_binds 16 = .ok (.iaload, 1) := getB' kX12_binds_0 10 rfl
theorem dX12_binds_17 : decode cX12_binds 17 = .ok (.aload_n 0, 1) := getB' kX12_binds_0 11 rfl
def LX12_binds_1 : List (Nat × Instr × Nat) := [(18, .getfield 121, 3), (21, .iload_n 3, 1), (22, .iaload, 1), (23, .invokestatic 371, 3), (26, .istore 4, 2), (28, .aload_n 0, 1), (29, .getfield 142, 3), (32, .bipush 20, 2), (34, .iload_n 1, 1), (35, .imul, 1), (36, .iload_n 3, 1), (37, .iadd, 1)]
theorem kX12_binds_1 : chkB cX12_binds LX12_binds_1 = true := by decide +kernel
theorem dX12_binds_18 : decode cX12_binds 18 = .ok (.getfield 121, 3) := getB' kX12_binds_1 0 rfl
theorem dX12_binds_21 : decode cX12_binds 21 = .ok (.iload_n 3, 1) := getB' kX12_binds_1 1 rfl
theorem dX12_binds_22 : decode cX12_binds 22 = .ok (.iaload, 1) := getB' kX12_binds_1 2 rfl
theorem dX12_binds_23 : decode cX12_binds 23 = .ok (.invokestatic 371, 3) := getB' kX12_binds_1 3 rfl
theorem dX12_binds_26 : decode cX12_binds 26 = .ok (.istore 4, 2) := getB' kX12_binds_1 4 rfl
theorem dX12_binds_28 : decode cX12_binds 28 = .ok (.aload_n 0, 1) := getB' kX12_binds_1 5 rfl
theorem dX12_binds_29 : decode cX12_binds 29 = .ok (.getfield 142, 3) := getB' kX12_binds_1 6 rfl
theorem dX12_binds_32 : decode cX12_binds 32 = .ok (.bipush 20, 2) := getB' kX12_binds_1 7 rfl
theorem dX12_binds_34 : decode cX12_binds 34 = .ok (.iload_n 1, 1) := getB' kX12_binds_1 8 rfl
theorem dX12_binds_35 : decode cX12_binds 35 = .ok (.imul, 1) := getB' kX12_binds_1 9 rfl
theorem dX12_binds_36 : decode cX12_binds 36 = .ok (.iload_n 3, 1) := getB' kX12_binds_1 10 rfl
theorem dX12_binds_37 : decode cX12_binds 37 = .ok (.iadd, 1) := getB' kX12_binds_1 11 rfl
def LX12_binds_2 : List (Nat × Instr × Nat) := [(38, .iaload, 1), (39, .istore 5, 2), (41, .iload_n 3, 1), (42, .ifCond .le 59, 3), (45, .iload 4, 2), (47, .ifCond .eq 54, 3), (50, .iload 5, 2), (52, .iconst (-1), 1), (53, .if_icmp .eq 48, 3), (56, .aload_n 0, 1), (57, .iload_n 3, 1), (58, .invokevirtual 550, 3)]
theorem kX12_binds_2 : chkB cX12_binds LX12_binds_2 = true := by decide +kernel
theorem dX12_binds_38 : decode cX12_binds 38 = .ok (.iaload, 1) := getB' kX12_binds_2 0 rfl
theorem dX12_binds_39 : decode cX12_binds 39 = .ok (.istore 5, 2) := getB' kX12_binds_2 1 rfl
theorem dX12_binds_41 : decode cX12_binds 41 = .ok (.iload_n 3, 1) := getB' kX12_binds_2 2 rfl
theorem dX12_binds_42 : decode cX12_binds 42 = .ok (.ifCond .le 59, 3) := getB' kX12_binds_2 3 rfl
theorem dX12_binds_45 : decode cX12_binds 45 = .ok (.iload 4, 2) := getB' kX12_binds_2 4 rfl
theorem dX12_binds_47 : decode cX12_binds 47 = .ok (.ifCond .eq 54, 3) := getB' kX12_binds_2 5 rfl
theorem dX12_binds_50 : decode cX12_binds 50 = .ok (.iload 5, 2) := getB' kX12_binds_2 6 rfl
theorem dX12_binds_52 : decode cX12_binds 52 = .ok (.iconst (-1), 1) := getB' kX12_binds_2 7 rfl
theorem dX12_binds_53 : decode cX12_binds 53 = .ok (.if_icmp .eq 48, 3) := getB' kX12_binds_2 8 rfl
theorem dX12_binds_56 : decode cX12_binds 56 = .ok (.aload_n 0, 1) := getB' kX12_binds_2 9 rfl
theorem dX12_binds_57 : decode cX12_binds 57 = .ok (.iload_n 3, 1) := getB' kX12_binds_2 10 rfl
theorem dX12_binds_58 : decode cX12_binds 58 = .ok (.invokevirtual 550, 3) := getB' kX12_binds_2 11 rfl
def LX12_binds_3 : List (Nat × Instr × Nat) := [(61, .aload_n 0, 1), (62, .bipush 103, 2), (64, .iconst 0, 1), (65, .iconst 0, 1), (66, .iload_n 3, 1), (67, .invokevirtual 553, 3), (70, .istore 6, 2), (72, .iload_n 2, 1), (73, .iload 5, 2), (75, .isub, 1), (76, .iload 6, 2), (78, .iconst (-1), 1)]
theorem kX12_binds_3 : chkB cX12_binds LX12_binds_3 = true := by decide +kernel
theorem dX12_binds_61 : decode cX12_binds 61 = .ok (.aload_n 0, 1) := getB' kX12_binds_3 0 rfl
theorem dX12_binds_62 : decode cX12_binds 62 = .ok (.bipush 103, 2) := getB' kX12_binds_3 1 rfl
theorem dX12_binds_64 : decode cX12_binds 64 = .ok (.iconst 0, 1) := getB' kX12_binds_3 2 rfl
theorem dX12_binds_65 : decode cX12_binds 65 = .ok (.iconst 0, 1) := getB' kX12_binds_3 3 rfl
theorem dX12_binds_66 : decode cX12_binds 66 = .ok (.iload_n 3, 1) := getB' kX12_binds_3 4 rfl
theorem dX12_binds_67 : decode cX12_binds 67 = .ok (.invokevirtual 553, 3) := getB' kX12_binds_3 5 rfl
theorem dX12_binds_70 : decode cX12_binds 70 = .ok (.istore 6, 2) := getB' kX12_binds_3 6 rfl
theorem dX12_binds_72 : decode cX12_binds 72 = .ok (.iload_n 2, 1) := getB' kX12_binds_3 7 rfl
theorem dX12_binds_73 : decode cX12_binds 73 = .ok (.iload 5, 2) := getB' kX12_binds_3 8 rfl
theorem dX12_binds_75 : decode cX12_binds 75 = .ok (.isub, 1) := getB' kX12_binds_3 9 rfl
theorem dX12_binds_76 : decode cX12_binds 76 = .ok (.iload 6, 2) := getB' kX12_binds_3 10 rfl
theorem dX12_binds_78 : decode cX12_binds 78 = .ok (.iconst (-1), 1) := getB' kX12_binds_3 11 rfl
def LX12_binds_4 : List (Nat × Instr × Nat) := [(79, .if_icmp .ne 7, 3), (82, .iconst 0, 1), (83, .goto 5, 3), (86, .iload 6, 2), (88, .if_icmp .lt 7, 3), (91, .iconst 1, 1), (92, .goto 4, 3), (95, .iconst 0, 1), (96, .istore 4, 2), (98, .goto 10, 3), (101, .iload_n 3, 1), (102, .ifCond .le 6, 3)]
theorem kX12_binds_4 : chkB cX12_binds LX12_binds_4 = true := by decide +kernel
theorem dX12_binds_79 : decode cX12_binds 79 = .ok (.if_icmp .ne 7, 3) := getB' kX12_binds_4 0 rfl
theorem dX12_binds_82 : decode cX12_binds 82 = .ok (.iconst 0, 1) := getB' kX12_binds_4 1 rfl
theorem dX12_binds_83 : decode cX12_binds 83 = .ok (.goto 5, 3) := getB' kX12_binds_4 2 rfl
theorem dX12_binds_86 : decode cX12_binds 86 = .ok (.iload 6, 2) := getB' kX12_binds_4 3 rfl
theorem dX12_binds_88 : decode cX12_binds 88 = .ok (.if_icmp .lt 7, 3) := getB' kX12_binds_4 4 rfl
theorem dX12_binds_91 : decode cX12_binds 91 = .ok (.iconst 1, 1) := getB' kX12_binds_4 5 rfl
theorem dX12_binds_92 : decode cX12_binds 92 = .ok (.goto 4, 3) := getB' kX12_binds_4 6 rfl
theorem dX12_binds_95 : decode cX12_binds 95 = .ok (.iconst 0, 1) := getB' kX12_binds_4 7 rfl
theorem dX12_binds_96 : decode cX12_binds 96 = .ok (.istore 4, 2) := getB' kX12_binds_4 8 rfl
theorem dX12_binds_98 : decode cX12_binds 98 = .ok (.goto 10, 3) := getB' kX12_binds_4 9 rfl
theorem dX12_binds_101 : decode cX12_binds 101 = .ok (.iload_n 3, 1) := getB' kX12_binds_4 10 rfl
theorem dX12_binds_102 : decode cX12_binds 102 = .ok (.ifCond .le 6, 3) := getB' kX12_binds_4 11 rfl
def LX12_binds_5 : List (Nat × Instr × Nat) := [(105, .iconst 0, 1), (106, .istore 4, 2), (108, .aload_n 0, 1), (109, .getfield 157, 3), (112, .iload_n 3, 1), (113, .iload 4, 2), (115, .bastore, 1), (116, .iinc 3 1, 3), (119, .goto (-117), 3), (122, .aload_n 0, 1), (123, .aload_n 0, 1), (124, .getfield 535, 3)]
theorem kX12_binds_5 : chkB cX12_binds LX12_binds_5 = true := by decide +kernel
theorem dX12_binds_105 : decode cX12_binds 105 = .ok (.iconst 0, 1) := getB' kX12_binds_5 0 rfl
theorem dX12_binds_106 : decode cX12_binds 106 = .ok (.istore 4, 2) := getB' kX12_binds_5 1 rfl
theorem dX12_binds_108 : decode cX12_binds 108 = .ok (.aload_n 0, 1) := getB' kX12_binds_5 2 rfl
theorem dX12_binds_109 : decode cX12_binds 109 = .ok (.getfield 157, 3) := getB' kX12_binds_5 3 rfl
theorem dX12_binds_112 : decode cX12_binds 112 = .ok (.iload_n 3, 1) := getB' kX12_binds_5 4 rfl
theorem dX12_binds_113 : decode cX12_binds 113 = .ok (.iload 4, 2) := getB' kX12_binds_5 5 rfl
theorem dX12_binds_115 : decode cX12_binds 115 = .ok (.bastore, 1) := getB' kX12_binds_5 6 rfl
theorem dX12_binds_116 : decode cX12_binds 116 = .ok (.iinc 3 1, 3) := getB' kX12_binds_5 7 rfl
theorem dX12_binds_119 : decode cX12_binds 119 = .ok (.goto (-117), 3) := getB' kX12_binds_5 8 rfl
theorem dX12_binds_122 : decode cX12_binds 122 = .ok (.aload_n 0, 1) := getB' kX12_binds_5 9 rfl
theorem dX12_binds_123 : decode cX12_binds 123 = .ok (.aload_n 0, 1) := getB' kX12_binds_5 10 rfl
theorem dX12_binds_124 : decode cX12_binds 124 = .ok (.getfield 535, 3) := getB' kX12_binds_5 11 rfl
def LX12_binds_6 : List (Nat × Instr × Nat) := [(127, .invokevirtual 550, 3), (130, .return_, 1)]
theorem kX12_binds_6 : chkB cX12_binds LX12_binds_6 = true := by decide +kernel
theorem dX12_binds_127 : decode cX12_binds 127 = .ok (.invokevirtual 550, 3) := getB' kX12_binds_6 0 rfl
theorem dX12_binds_130 : decode cX12_binds 130 = .ok (.return_, 1) := getB' kX12_binds_6 1 rfl
def LX12_counts_0 : List (Nat × Instr × Nat) := [(0, .aload_n 0, 1), (1, .iload_n 1, 1), (2, .invokevirtual 541, 3), (5, .ifCond .eq 18, 3), (8, .aload_n 0, 1), (9, .iload_n 2, 1), (10, .invokevirtual 406, 3), (13, .ifCond .eq 10, 3), (16, .iload_n 3, 1), (17, .invokestatic 409, 3), (20, .ifCond .ne 5, 3), (23, .iconst (-1), 1)]
theorem kX12_counts_0 : chkB cX12_counts LX12_counts_0 = true := by decide +kernel
theorem dX12_counts_0 : decode cX12_counts 0 = .ok (.aload_n 0, 1) := getB' kX12_counts_0 0 rfl
theorem dX12_counts_1 : decode cX12_counts 1 = .ok (.iload_n 1, 1) := getB' kX12_counts_0 1 rfl
theorem dX12_counts_2 : decode cX12_counts 2 = .ok (.invokevirtual 541, 3) := getB' kX12_counts_0 2 rfl
theorem dX12_counts_5 : decode cX12_counts 5 = .ok (.ifCond .eq 18, 3) := getB' kX12_counts_0 3 rfl
theorem dX12_counts_8 : decode cX12_counts 8 = .ok (.aload_n 0, 1) := getB' kX12_counts_0 4 rfl
theorem dX12_counts_9 : decode cX12_counts 9 = .ok (.iload_n 2, 1) := getB' kX12_counts_0 5 rfl
theorem dX12_counts_10 : decode cX12_counts 10 = .ok (.invokevirtual 406, 3) := getB' kX12_counts_0 6 rfl
theorem dX12_counts_13 : decode cX12_counts 13 = .ok (.ifCond .eq 10, 3) := getB' kX12_counts_0 7 rfl
theorem dX12_counts_16 : decode cX12_counts 16 = .ok (.iload_n 3, 1) := getB' kX12_counts_0 8 rfl
theorem dX12_counts_17 : decode cX12_counts 17 = .ok (.invokestatic 409, 3) := getB' kX12_counts_0 9 rfl
theorem dX12_counts_20 : decode cX12_counts 20 = .ok (.ifCond .ne 5, 3) := getB' kX12_counts_0 10 rfl
theorem dX12_counts_23 : decode cX12_counts 23 = .ok (.iconst (-1), 1) := getB' kX12_counts_0 11 rfl
def LX12_counts_1 : List (Nat × Instr × Nat) := [(24, .ireturn, 1), (25, .aload_n 0, 1), (26, .iload_n 2, 1), (27, .iload_n 3, 1), (28, .invokevirtual 557, 3), (31, .iconst 0, 1), (32, .istore 4, 2), (34, .iconst 0, 1), (35, .istore 5, 2), (37, .iload 5, 2), (39, .aload_n 0, 1), (40, .getfield 115, 3)]
theorem kX12_counts_1 : chkB cX12_counts LX12_counts_1 = true := by decide +kernel
theorem dX12_counts_24 : decode cX12_counts 24 = .ok (.ireturn, 1) := getB' kX12_counts_1 0 rfl
theorem dX12_counts_25 : decode cX12_counts 25 = .ok (.aload_n 0, 1) := getB' kX12_counts_1 1 rfl
theorem dX12_counts_26 : decode cX12_counts 26 = .ok (.iload_n 2, 1) := getB' kX12_counts_1 2 rfl
theorem dX12_counts_27 : decode cX12_counts 27 = .ok (.iload_n 3, 1) := getB' kX12_counts_1 3 rfl
theorem dX12_counts_28 : decode cX12_counts 28 = .ok (.invokevirtual 557, 3) := getB' kX12_counts_1 4 rfl
theorem dX12_counts_31 : decode cX12_counts 31 = .ok (.iconst 0, 1) := getB' kX12_counts_1 5 rfl
theorem dX12_counts_32 : decode cX12_counts 32 = .ok (.istore 4, 2) := getB' kX12_counts_1 6 rfl
theorem dX12_counts_34 : decode cX12_counts 34 = .ok (.iconst 0, 1) := getB' kX12_counts_1 7 rfl
theorem dX12_counts_35 : decode cX12_counts 35 = .ok (.istore 5, 2) := getB' kX12_counts_1 8 rfl
theorem dX12_counts_37 : decode cX12_counts 37 = .ok (.iload 5, 2) := getB' kX12_counts_1 9 rfl
theorem dX12_counts_39 : decode cX12_counts 39 = .ok (.aload_n 0, 1) := getB' kX12_counts_1 10 rfl
theorem dX12_counts_40 : decode cX12_counts 40 = .ok (.getfield 115, 3) := getB' kX12_counts_1 11 rfl
def LX12_counts_2 : List (Nat × Instr × Nat) := [(43, .iload_n 1, 1), (44, .iaload, 1), (45, .if_icmp .ge 43, 3), (48, .aload_n 0, 1), (49, .getfield 157, 3), (52, .iload_n 1, 1), (53, .baload, 1), (54, .ifCond .eq 34, 3), (57, .iload 4, 2), (59, .aload_n 0, 1), (60, .getfield 160, 3), (63, .bipush 12, 2)]
theorem kX12_counts_2 : chkB cX12_counts LX12_counts_2 = true := by decide +kernel
theorem dX12_counts_43 : decode cX12_counts 43 = .ok (.iload_n 1, 1) := getB' kX12_counts_2 0 rfl
theorem dX12_counts_44 : decode cX12_counts 44 = .ok (.iaload, 1) := getB' kX12_counts_2 1 rfl
theorem dX12_counts_45 : decode cX12_counts 45 = .ok (.if_icmp .ge 43, 3) := getB' kX12_counts_2 2 rfl
theorem dX12_counts_48 : decode cX12_counts 48 = .ok (.aload_n 0, 1) := getB' kX12_counts_2 3 rfl
theorem dX12_counts_49 : decode cX12_counts 49 = .ok (.getfield 157, 3) := getB' kX12_counts_2 4 rfl
theorem dX12_counts_52 : decode cX12_counts 52 = .ok (.iload_n 1, 1) := getB' kX12_counts_2 5 rfl
theorem dX12_counts_53 : decode cX12_counts 53 = .ok (.baload, 1) := getB' kX12_counts_2 6 rfl
theorem dX12_counts_54 : decode cX12_counts 54 = .ok (.ifCond .eq 34, 3) := getB' kX12_counts_2 7 rfl
theorem dX12_counts_57 : decode cX12_counts 57 = .ok (.iload 4, 2) := getB' kX12_counts_2 8 rfl
theorem dX12_counts_59 : decode cX12_counts 59 = .ok (.aload_n 0, 1) := getB' kX12_counts_2 9 rfl
theorem dX12_counts_60 : decode cX12_counts 60 = .ok (.getfield 160, 3) := getB' kX12_counts_2 10 rfl
theorem dX12_counts_63 : decode cX12_counts 63 = .ok (.bipush 12, 2) := getB' kX12_counts_2 11 rfl
def LX12_counts_3 : List (Nat × Instr × Nat) := [(65, .iload_n 1, 1), (66, .imul, 1), (67, .iload 5, 2), (69, .iadd, 1), (70, .baload, 1), (71, .ifCond .eq 7, 3), (74, .iconst 0, 1), (75, .goto 4, 3), (78, .iconst 1, 1), (79, .iadd, 1), (80, .istore 4, 2), (82, .iinc 5 1, 3)]
theorem kX12_counts_3 : chkB cX12_counts LX12_counts_3 = true := by decide +kernel
theorem dX12_counts_65 : decode cX12_counts 65 = .ok (.iload_n 1, 1) := getB' kX12_counts_3 0 rfl
theorem dX12_counts_66 : decode cX12_counts 66 = .ok (.imul, 1) := getB' kX12_counts_3 1 rfl
theorem dX12_counts_67 : decode cX12_counts 67 = .ok (.iload 5, 2) := getB' kX12_counts_3 2 rfl
theorem dX12_counts_69 : decode cX12_counts 69 = .ok (.iadd, 1) := getB' kX12_counts_3 3 rfl
theorem dX12_counts_70 : decode cX12_counts 70 = .ok (.baload, 1) := getB' kX12_counts_3 4 rfl
theorem dX12_counts_71 : decode cX12_counts 71 = .ok (.ifCond .eq 7, 3) := getB' kX12_counts_3 5 rfl
theorem dX12_counts_74 : decode cX12_counts 74 = .ok (.iconst 0, 1) := getB' kX12_counts_3 6 rfl
theorem dX12_counts_75 : decode cX12_counts 75 = .ok (.goto 4, 3) := getB' kX12_counts_3 7 rfl
theorem dX12_counts_78 : decode cX12_counts 78 = .ok (.iconst 1, 1) := getB' kX12_counts_3 8 rfl
theorem dX12_counts_79 : decode cX12_counts 79 = .ok (.iadd, 1) := getB' kX12_counts_3 9 rfl
theorem dX12_counts_80 : decode cX12_counts 80 = .ok (.istore 4, 2) := getB' kX12_counts_3 10 rfl
theorem dX12_counts_82 : decode cX12_counts 82 = .ok (.iinc 5 1, 3) := getB' kX12_counts_3 11 rfl
def LX12_counts_4 : List (Nat × Instr × Nat) := [(85, .goto (-48), 3), (88, .iload 4, 2), (90, .ireturn, 1)]
theorem kX12_counts_4 : chkB cX12_counts LX12_counts_4 = true := by decide +kernel
theorem dX12_counts_85 : decode cX12_counts 85 = .ok (.goto (-48), 3) := getB' kX12_counts_4 0 rfl
theorem dX12_counts_88 : decode cX12_counts 88 = .ok (.iload 4, 2) := getB' kX12_counts_4 1 rfl
theorem dX12_counts_90 : decode cX12_counts 90 = .ok (.ireturn, 1) := getB' kX12_counts_4 2 rfl
def LX12_isAsleep_0 : List (Nat × Instr × Nat) := [(0, .aload_n 0, 1), (1, .iload_n 1, 1), (2, .iload_n 2, 1), (3, .invokevirtual 557, 3), (6, .aload_n 0, 1), (7, .bipush 122, 2), (9, .iconst 0, 1), (10, .iconst 0, 1), (11, .aload_n 0, 1), (12, .getfield 535, 3), (15, .invokevirtual 553, 3), (18, .iconst (-1), 1)]
theorem kX12_isAsleep_0 : chkB cX12_isAsleep LX12_isAsleep_0 = true := by decide +kernel
theorem dX12_isAsleep_0 : decode cX12_isAsleep 0 = .ok (.aload_n 0, 1) := getB' kX12_isAsleep_0 0 rfl
theorem dX12_isAsleep_1 : decode cX12_isAsleep 1 = .ok (.iload_n 1, 1) := getB' kX12_isAsleep_0 1 rfl
theorem dX12_isAsleep_2 : decode cX12_isAsleep 2 = .ok (.iload_n 2, 1) := getB' kX12_isAsleep_0 2 rfl
theorem dX12_isAsleep_3 : decode cX12_isAsleep 3 = .ok (.invokevirtual 557, 3) := getB' kX12_isAsleep_0 3 rfl
theorem dX12_isAsleep_6 : decode cX12_isAsleep 6 = .ok (.aload_n 0, 1) := getB' kX12_isAsleep_0 4 rfl
theorem dX12_isAsleep_7 : decode cX12_isAsleep 7 = .ok (.bipush 122, 2) := getB' kX12_isAsleep_0 5 rfl
theorem dX12_isAsleep_9 : decode cX12_isAsleep 9 = .ok (.iconst 0, 1) := getB' kX12_isAsleep_0 6 rfl
theorem dX12_isAsleep_10 : decode cX12_isAsleep 10 = .ok (.iconst 0, 1) := getB' kX12_isAsleep_0 7 rfl
theorem dX12_isAsleep_11 : decode cX12_isAsleep 11 = .ok (.aload_n 0, 1) := getB' kX12_isAsleep_0 8 rfl
theorem dX12_isAsleep_12 : decode cX12_isAsleep 12 = .ok (.getfield 535, 3) := getB' kX12_isAsleep_0 9 rfl
theorem dX12_isAsleep_15 : decode cX12_isAsleep 15 = .ok (.invokevirtual 553, 3) := getB' kX12_isAsleep_0 10 rfl
theorem dX12_isAsleep_18 : decode cX12_isAsleep 18 = .ok (.iconst (-1), 1) := getB' kX12_isAsleep_0 11 rfl
def LX12_isAsleep_1 : List (Nat × Instr × Nat) := [(19, .if_icmp .eq 7, 3), (22, .iconst 1, 1), (23, .goto 4, 3), (26, .iconst 0, 1), (27, .ireturn, 1)]
theorem kX12_isAsleep_1 : chkB cX12_isAsleep LX12_isAsleep_1 = true := by decide +kernel
theorem dX12_isAsleep_19 : decode cX12_isAsleep 19 = .ok (.if_icmp .eq 7, 3) := getB' kX12_isAsleep_1 0 rfl
theorem dX12_isAsleep_22 : decode cX12_isAsleep 22 = .ok (.iconst 1, 1) := getB' kX12_isAsleep_1 1 rfl
theorem dX12_isAsleep_23 : decode cX12_isAsleep 23 = .ok (.goto 4, 3) := getB' kX12_isAsleep_1 2 rfl
theorem dX12_isAsleep_26 : decode cX12_isAsleep 26 = .ok (.iconst 0, 1) := getB' kX12_isAsleep_1 3 rfl
theorem dX12_isAsleep_27 : decode cX12_isAsleep 27 = .ok (.ireturn, 1) := getB' kX12_isAsleep_1 4 rfl
def LX12_asked_0 : List (Nat × Instr × Nat) := [(0, .aload_n 0, 1), (1, .iload_n 2, 1), (2, .iload_n 3, 1), (3, .invokevirtual 557, 3), (6, .aload_n 0, 1), (7, .iload_n 1, 1), (8, .iconst 0, 1), (9, .iconst 0, 1), (10, .aload_n 0, 1), (11, .getfield 535, 3), (14, .invokevirtual 553, 3), (17, .istore 5, 2)]
theorem kX12_asked_0 : chkB cX12_asked LX12_asked_0 = true := by decide +kernel
theorem dX12_asked_0 : decode cX12_asked 0 = .ok (.aload_n 0, 1) := getB' kX12_asked_0 0 rfl
theorem dX12_asked_1 : decode cX12_asked 1 = .ok (.iload_n 2, 1) := getB' kX12_asked_0 1 rfl
theorem dX12_asked_2 : decode cX12_asked 2 = .ok (.iload_n 3, 1) := getB' kX12_asked_0 2 rfl
theorem dX12_asked_3 : decode cX12_asked 3 = .ok (.invokevirtual 557, 3) := getB' kX12_asked_0 3 rfl
theorem dX12_asked_6 : decode cX12_asked 6 = .ok (.aload_n 0, 1) := getB' kX12_asked_0 4 rfl
theorem dX12_asked_7 : decode cX12_asked 7 = .ok (.iload_n 1, 1) := getB' kX12_asked_0 5 rfl
theorem dX12_asked_8 : decode cX12_asked 8 = .ok (.iconst 0, 1) := getB' kX12_asked_0 6 rfl
theorem dX12_asked_9 : decode cX12_asked 9 = .ok (.iconst 0, 1) := getB' kX12_asked_0 7 rfl
theorem dX12_asked_10 : decode cX12_asked 10 = .ok (.aload_n 0, 1) := getB' kX12_asked_0 8 rfl
theorem dX12_asked_11 : decode cX12_asked 11 = .ok (.getfield 535, 3) := getB' kX12_asked_0 9 rfl
theorem dX12_asked_14 : decode cX12_asked 14 = .ok (.invokevirtual 553, 3) := getB' kX12_asked_0 10 rfl
theorem dX12_asked_17 : decode cX12_asked 17 = .ok (.istore 5, 2) := getB' kX12_asked_0 11 rfl
def LX12_asked_1 : List (Nat × Instr × Nat) := [(19, .iload 5, 2), (21, .iconst (-1), 1), (22, .if_icmp .ne 8, 3), (25, .iload 4, 2), (27, .goto 5, 3), (30, .iload 5, 2), (32, .ireturn, 1)]
theorem kX12_asked_1 : chkB cX12_asked LX12_asked_1 = true := by decide +kernel
theorem dX12_asked_19 : decode cX12_asked 19 = .ok (.iload 5, 2) := getB' kX12_asked_1 0 rfl
theorem dX12_asked_21 : decode cX12_asked 21 = .ok (.iconst (-1), 1) := getB' kX12_asked_1 1 rfl
theorem dX12_asked_22 : decode cX12_asked 22 = .ok (.if_icmp .ne 8, 3) := getB' kX12_asked_1 2 rfl
theorem dX12_asked_25 : decode cX12_asked 25 = .ok (.iload 4, 2) := getB' kX12_asked_1 3 rfl
theorem dX12_asked_27 : decode cX12_asked 27 = .ok (.goto 5, 3) := getB' kX12_asked_1 4 rfl
theorem dX12_asked_30 : decode cX12_asked 30 = .ok (.iload 5, 2) := getB' kX12_asked_1 5 rfl
theorem dX12_asked_32 : decode cX12_asked 32 = .ok (.ireturn, 1) := getB' kX12_asked_1 6 rfl
def LX12_caughtAtMost : List (Nat × Instr × Nat) := [(0, .aload_n 0, 1), (1, .iload_n 3, 1), (2, .iload 4, 2), (4, .invokevirtual 557, 3), (7, .aload_n 0, 1), (8, .bipush 107, 2), (10, .iload_n 1, 1), (11, .iload_n 2, 1), (12, .aload_n 0, 1), (13, .getfield 535, 3), (16, .invokevirtual 553, 3), (19, .ireturn, 1)]
theorem kX12_caughtAtMost : chkB cX12_caughtAtMost LX12_caughtAtMost = true := by decide +kernel
theorem dX12_caughtAtMost_0 : decode cX12_caughtAtMost 0 = .ok (.aload_n 0, 1) := getB' kX12_caughtAtMost 0 rfl
theorem dX12_caughtAtMost_1 : decode cX12_caughtAtMost 1 = .ok (.iload_n 3, 1) := getB' kX12_caughtAtMost 1 rfl
theorem dX12_caughtAtMost_2 : decode cX12_caughtAtMost 2 = .ok (.iload 4, 2) := getB' kX12_caughtAtMost 2 rfl
theorem dX12_caughtAtMost_4 : decode cX12_caughtAtMost 4 = .ok (.invokevirtual 557, 3) := getB' kX12_caughtAtMost 3 rfl
theorem dX12_caughtAtMost_7 : decode cX12_caughtAtMost 7 = .ok (.aload_n 0, 1) := getB' kX12_caughtAtMost 4 rfl
theorem dX12_caughtAtMost_8 : decode cX12_caughtAtMost 8 = .ok (.bipush 107, 2) := getB' kX12_caughtAtMost 5 rfl
theorem dX12_caughtAtMost_10 : decode cX12_caughtAtMost 10 = .ok (.iload_n 1, 1) := getB' kX12_caughtAtMost 6 rfl
theorem dX12_caughtAtMost_11 : decode cX12_caughtAtMost 11 = .ok (.iload_n 2, 1) := getB' kX12_caughtAtMost 7 rfl
theorem dX12_caughtAtMost_12 : decode cX12_caughtAtMost 12 = .ok (.aload_n 0, 1) := getB' kX12_caughtAtMost 8 rfl
theorem dX12_caughtAtMost_13 : decode cX12_caughtAtMost 13 = .ok (.getfield 535, 3) := getB' kX12_caughtAtMost 9 rfl
theorem dX12_caughtAtMost_16 : decode cX12_caughtAtMost 16 = .ok (.invokevirtual 553, 3) := getB' kX12_caughtAtMost 10 rfl
theorem dX12_caughtAtMost_19 : decode cX12_caughtAtMost 19 = .ok (.ireturn, 1) := getB' kX12_caughtAtMost 11 rfl
def LX12_number_0 : List (Nat × Instr × Nat) := [(0, .aload_n 0, 1), (1, .iload_n 2, 1), (2, .invokevirtual 406, 3), (5, .ifCond .eq 10, 3), (8, .iload_n 3, 1), (9, .invokestatic 409, 3), (12, .ifCond .ne 5, 3), (15, .iconst (-1), 1), (16, .ireturn, 1), (17, .iload_n 1, 1), (18, .bipush 10, 2), (20, .bipush 25, 2)]
theorem kX12_number_0 : chkB cX12_number LX12_number_0 = true := by decide +kernel
theorem dX12_number_0 : decode cX12_number 0 = .ok (.aload_n 0, 1) := getB' kX12_number_0 0 rfl
theorem dX12_number_1 : decode cX12_number 1 = .ok (.iload_n 2, 1) := getB' kX12_number_0 1 rfl
theorem dX12_number_2 : decode cX12_number 2 = .ok (.invokevirtual 406, 3) := getB' kX12_number_0 2 rfl
theorem dX12_number_5 : decode cX12_number 5 = .ok (.ifCond .eq 10, 3) := getB' kX12_number_0 3 rfl
theorem dX12_number_8 : decode cX12_number 8 = .ok (.iload_n 3, 1) := getB' kX12_number_0 4 rfl
theorem dX12_number_9 : decode cX12_number 9 = .ok (.invokestatic 409, 3) := getB' kX12_number_0 5 rfl
theorem dX12_number_12 : decode cX12_number 12 = .ok (.ifCond .ne 5, 3) := getB' kX12_number_0 6 rfl
theorem dX12_number_15 : decode cX12_number 15 = .ok (.iconst (-1), 1) := getB' kX12_number_0 7 rfl
theorem dX12_number_16 : decode cX12_number 16 = .ok (.ireturn, 1) := getB' kX12_number_0 8 rfl
theorem dX12_number_17 : decode cX12_number 17 = .ok (.iload_n 1, 1) := getB' kX12_number_0 9 rfl
theorem dX12_number_18 : decode cX12_number 18 = .ok (.bipush 10, 2) := getB' kX12_number_0 10 rfl
theorem dX12_number_20 : decode cX12_number 20 = .ok (.bipush 25, 2) := getB' kX12_number_0 11 rfl
def LX12_number_1 : List (Nat × Instr × Nat) := [(22, .invokestatic 371, 3), (25, .ifCond .eq 22, 3), (28, .aload_n 0, 1), (29, .iload_n 1, 1), (30, .bipush 10, 2), (32, .isub, 1), (33, .iconst 4, 1), (34, .idiv, 1), (35, .iload_n 1, 1), (36, .bipush 10, 2), (38, .isub, 1), (39, .iconst 4, 1)]
theorem kX12_number_1 : chkB cX12_number LX12_number_1 = true := by decide +kernel
theorem dX12_number_22 : decode cX12_number 22 = .ok (.invokestatic 371, 3) := getB' kX12_number_1 0 rfl
theorem dX12_number_25 : decode cX12_number 25 = .ok (.ifCond .eq 22, 3) := getB' kX12_number_1 1 rfl
theorem dX12_number_28 : decode cX12_number 28 = .ok (.aload_n 0, 1) := getB' kX12_number_1 2 rfl
theorem dX12_number_29 : decode cX12_number 29 = .ok (.iload_n 1, 1) := getB' kX12_number_1 3 rfl
theorem dX12_number_30 : decode cX12_number 30 = .ok (.bipush 10, 2) := getB' kX12_number_1 4 rfl
theorem dX12_number_32 : decode cX12_number 32 = .ok (.isub, 1) := getB' kX12_number_1 5 rfl
theorem dX12_number_33 : decode cX12_number 33 = .ok (.iconst 4, 1) := getB' kX12_number_1 6 rfl
theorem dX12_number_34 : decode cX12_number 34 = .ok (.idiv, 1) := getB' kX12_number_1 7 rfl
theorem dX12_number_35 : decode cX12_number 35 = .ok (.iload_n 1, 1) := getB' kX12_number_1 8 rfl
theorem dX12_number_36 : decode cX12_number 36 = .ok (.bipush 10, 2) := getB' kX12_number_1 9 rfl
theorem dX12_number_38 : decode cX12_number 38 = .ok (.isub, 1) := getB' kX12_number_1 10 rfl
theorem dX12_number_39 : decode cX12_number 39 = .ok (.iconst 4, 1) := getB' kX12_number_1 11 rfl
def LX12_number_2 : List (Nat × Instr × Nat) := [(40, .irem, 1), (41, .iload_n 2, 1), (42, .iload_n 3, 1), (43, .invokevirtual 560, 3), (46, .ireturn, 1), (47, .iload_n 1, 1), (48, .tableswitch 77 0 3 #[32, 42, 52, 62], 32), (80, .aload_n 0, 1), (81, .bipush 97, 2), (83, .iload_n 2, 1), (84, .iload_n 3, 1), (85, .iconst 0, 1)]
theorem kX12_number_2 : chkB cX12_number LX12_number_2 = true := by decide +kernel
theorem dX12_number_40 : decode cX12_number 40 = .ok (.irem, 1) := getB' kX12_number_2 0 rfl
theorem dX12_number_41 : decode cX12_number 41 = .ok (.iload_n 2, 1) := getB' kX12_number_2 1 rfl
theorem dX12_number_42 : decode cX12_number 42 = .ok (.iload_n 3, 1) := getB' kX12_number_2 2 rfl
theorem dX12_number_43 : decode cX12_number 43 = .ok (.invokevirtual 560, 3) := getB' kX12_number_2 3 rfl
theorem dX12_number_46 : decode cX12_number 46 = .ok (.ireturn, 1) := getB' kX12_number_2 4 rfl
theorem dX12_number_47 : decode cX12_number 47 = .ok (.iload_n 1, 1) := getB' kX12_number_2 5 rfl
theorem dX12_number_48 : decode cX12_number 48 = .ok (.tableswitch 77 0 3 #[32, 42, 52, 62], 32) := getB' kX12_number_2 6 rfl
theorem dX12_number_80 : decode cX12_number 80 = .ok (.aload_n 0, 1) := getB' kX12_number_2 7 rfl
theorem dX12_number_81 : decode cX12_number 81 = .ok (.bipush 97, 2) := getB' kX12_number_2 8 rfl
theorem dX12_number_83 : decode cX12_number 83 = .ok (.iload_n 2, 1) := getB' kX12_number_2 9 rfl
theorem dX12_number_84 : decode cX12_number 84 = .ok (.iload_n 3, 1) := getB' kX12_number_2 10 rfl
theorem dX12_number_85 : decode cX12_number 85 = .ok (.iconst 0, 1) := getB' kX12_number_2 11 rfl
def LX12_number_3 : List (Nat × Instr × Nat) := [(86, .invokevirtual 563, 3), (89, .ireturn, 1), (90, .aload_n 0, 1), (91, .bipush 113, 2), (93, .iload_n 2, 1), (94, .iload_n 3, 1), (95, .iconst (-1), 1), (96, .invokevirtual 563, 3), (99, .ireturn, 1), (100, .aload_n 0, 1), (101, .bipush 103, 2), (103, .iload_n 2, 1)]
theorem kX12_number_3 : chkB cX12_number LX12_number_3 = true := by decide +kernel
theorem dX12_number_86 : decode cX12_number 86 = .ok (.invokevirtual 563, 3) := getB' kX12_number_3 0 rfl
theorem dX12_number_89 : decode cX12_number 89 = .ok (.ireturn, 1) := getB' kX12_number_3 1 rfl
theorem dX12_number_90 : decode cX12_number 90 = .ok (.aload_n 0, 1) := getB' kX12_number_3 2 rfl
theorem dX12_number_91 : decode cX12_number 91 = .ok (.bipush 113, 2) := getB' kX12_number_3 3 rfl
theorem dX12_number_93 : decode cX12_number 93 = .ok (.iload_n 2, 1) := getB' kX12_number_3 4 rfl
theorem dX12_number_94 : decode cX12_number 94 = .ok (.iload_n 3, 1) := getB' kX12_number_3 5 rfl
theorem dX12_number_95 : decode cX12_number 95 = .ok (.iconst (-1), 1) := getB' kX12_number_3 6 rfl
theorem dX12_number_96 : decode cX12_number 96 = .ok (.invokevirtual 563, 3) := getB' kX12_number_3 7 rfl
theorem dX12_number_99 : decode cX12_number 99 = .ok (.ireturn, 1) := getB' kX12_number_3 8 rfl
theorem dX12_number_100 : decode cX12_number 100 = .ok (.aload_n 0, 1) := getB' kX12_number_3 9 rfl
theorem dX12_number_101 : decode cX12_number 101 = .ok (.bipush 103, 2) := getB' kX12_number_3 10 rfl
theorem dX12_number_103 : decode cX12_number 103 = .ok (.iload_n 2, 1) := getB' kX12_number_3 11 rfl
def LX12_number_4 : List (Nat × Instr × Nat) := [(104, .iload_n 3, 1), (105, .iconst 0, 1), (106, .invokevirtual 563, 3), (109, .ireturn, 1), (110, .aload_n 0, 1), (111, .iload_n 2, 1), (112, .iload_n 3, 1), (113, .invokevirtual 418, 3), (116, .ifCond .eq 7, 3), (119, .iconst 1, 1), (120, .goto 4, 3), (123, .iconst 0, 1)]
theorem kX12_number_4 : chkB cX12_number LX12_number_4 = true := by decide +kernel
theorem dX12_number_104 : decode cX12_number 104 = .ok (.iload_n 3, 1) := getB' kX12_number_4 0 rfl
theorem dX12_number_105 : decode cX12_number 105 = .ok (.iconst 0, 1) := getB' kX12_number_4 1 rfl
theorem dX12_number_106 : decode cX12_number 106 = .ok (.invokevirtual 563, 3) := getB' kX12_number_4 2 rfl
theorem dX12_number_109 : decode cX12_number 109 = .ok (.ireturn, 1) := getB' kX12_number_4 3 rfl
theorem dX12_number_110 : decode cX12_number 110 = .ok (.aload_n 0, 1) := getB' kX12_number_4 4 rfl
theorem dX12_number_111 : decode cX12_number 111 = .ok (.iload_n 2, 1) := getB' kX12_number_4 5 rfl
theorem dX12_number_112 : decode cX12_number 112 = .ok (.iload_n 3, 1) := getB' kX12_number_4 6 rfl
theorem dX12_number_113 : decode cX12_number 113 = .ok (.invokevirtual 418, 3) := getB' kX12_number_4 7 rfl
theorem dX12_number_116 : decode cX12_number 116 = .ok (.ifCond .eq 7, 3) := getB' kX12_number_4 8 rfl
theorem dX12_number_119 : decode cX12_number 119 = .ok (.iconst 1, 1) := getB' kX12_number_4 9 rfl
theorem dX12_number_120 : decode cX12_number 120 = .ok (.goto 4, 3) := getB' kX12_number_4 10 rfl
theorem dX12_number_123 : decode cX12_number 123 = .ok (.iconst 0, 1) := getB' kX12_number_4 11 rfl
def LX12_number_5 : List (Nat × Instr × Nat) := [(124, .ireturn, 1), (125, .iconst (-1), 1), (126, .ireturn, 1)]
theorem kX12_number_5 : chkB cX12_number LX12_number_5 = true := by decide +kernel
theorem dX12_number_124 : decode cX12_number 124 = .ok (.ireturn, 1) := getB' kX12_number_5 0 rfl
theorem dX12_number_125 : decode cX12_number 125 = .ok (.iconst (-1), 1) := getB' kX12_number_5 1 rfl
theorem dX12_number_126 : decode cX12_number 126 = .ok (.ireturn, 1) := getB' kX12_number_5 2 rfl
def LX12_isWork : List (Nat × Instr × Nat) := [(0, .iload_n 1, 1), (1, .ifCond .lt 15, 3), (4, .iload_n 1, 1), (5, .aload_n 0, 1), (6, .getfield 378, 3), (9, .if_icmp .ge 7, 3), (12, .iconst 1, 1), (13, .goto 4, 3), (16, .iconst 0, 1), (17, .ireturn, 1)]
theorem kX12_isWork : chkB cX12_isWork LX12_isWork = true := by decide +kernel
theorem dX12_isWork_0 : decode cX12_isWork 0 = .ok (.iload_n 1, 1) := getB' kX12_isWork 0 rfl
theorem dX12_isWork_1 : decode cX12_isWork 1 = .ok (.ifCond .lt 15, 3) := getB' kX12_isWork 1 rfl
theorem dX12_isWork_4 : decode cX12_isWork 4 = .ok (.iload_n 1, 1) := getB' kX12_isWork 2 rfl
theorem dX12_isWork_5 : decode cX12_isWork 5 = .ok (.aload_n 0, 1) := getB' kX12_isWork 3 rfl
theorem dX12_isWork_6 : decode cX12_isWork 6 = .ok (.getfield 378, 3) := getB' kX12_isWork 4 rfl
theorem dX12_isWork_9 : decode cX12_isWork 9 = .ok (.if_icmp .ge 7, 3) := getB' kX12_isWork 5 rfl
theorem dX12_isWork_12 : decode cX12_isWork 12 = .ok (.iconst 1, 1) := getB' kX12_isWork 6 rfl
theorem dX12_isWork_13 : decode cX12_isWork 13 = .ok (.goto 4, 3) := getB' kX12_isWork 7 rfl
theorem dX12_isWork_16 : decode cX12_isWork 16 = .ok (.iconst 0, 1) := getB' kX12_isWork 8 rfl
theorem dX12_isWork_17 : decode cX12_isWork 17 = .ok (.ireturn, 1) := getB' kX12_isWork 9 rfl
def LX12_work_0 : List (Nat × Instr × Nat) := [(0, .iload_n 1, 1), (1, .iconst 0, 1), (2, .bipush 9, 2), (4, .invokestatic 371, 3), (7, .ifCond .eq 79, 3), (10, .aload_n 0, 1), (11, .iload_n 2, 1), (12, .invokevirtual 406, 3), (15, .ifCond .eq 71, 3), (18, .aload_n 0, 1), (19, .iload_n 3, 1), (20, .invokevirtual 381, 3)]
theorem kX12_work_0 : chkB cX12_work LX12_work_0 = true := by decide +kernel
theorem dX12_work_0 : decode cX12_work 0 = .ok (.iload_n 1, 1) := getB' kX12_work_0 0 rfl
theorem dX12_work_1 : decode cX12_work 1 = .ok (.iconst 0, 1) := getB' kX12_work_0 1 rfl
theorem dX12_work_2 : decode cX12_work 2 = .ok (.bipush 9, 2) := getB' kX12_work_0 2 rfl
theorem dX12_work_4 : decode cX12_work 4 = .ok (.invokestatic 371, 3) := getB' kX12_work_0 3 rfl
theorem dX12_work_7 : decode cX12_work 7 = .ok (.ifCond .eq 79, 3) := getB' kX12_work_0 4 rfl
theorem dX12_work_10 : decode cX12_work 10 = .ok (.aload_n 0, 1) := getB' kX12_work_0 5 rfl
theorem dX12_work_11 : decode cX12_work 11 = .ok (.iload_n 2, 1) := getB' kX12_work_0 6 rfl
theorem dX12_work_12 : decode cX12_work 12 = .ok (.invokevirtual 406, 3) := getB' kX12_work_0 7 rfl
theorem dX12_work_15 : decode cX12_work 15 = .ok (.ifCond .eq 71, 3) := getB' kX12_work_0 8 rfl
theorem dX12_work_18 : decode cX12_work 18 = .ok (.aload_n 0, 1) := getB' kX12_work_0 9 rfl
theorem dX12_work_19 : decode cX12_work 19 = .ok (.iload_n 3, 1) := getB' kX12_work_0 10 rfl
theorem dX12_work_20 : decode cX12_work 20 = .ok (.invokevirtual 381, 3) := getB' kX12_work_0 11 rfl
def LX12_work_1 : List (Nat × Instr × Nat) := [(23, .ifCond .eq 63, 3), (26, .iload 4, 2), (28, .aload_n 0, 1), (29, .getfield 396, 3), (32, .sipush 3599, 3), (35, .invokestatic 371, 3), (38, .ifCond .eq 48, 3), (41, .iload 5, 2), (43, .iload 4, 2), (45, .sipush 3599, 3), (48, .invokestatic 371, 3), (51, .ifCond .eq 35, 3)]
theorem kX12_work_1 : chkB cX12_work LX12_work_1 = true := by decide +kernel
theorem dX12_work_23 : decode cX12_work 23 = .ok (.ifCond .eq 63, 3) := getB' kX12_work_1 0 rfl
theorem dX12_work_26 : decode cX12_work 26 = .ok (.iload 4, 2) := getB' kX12_work_1 1 rfl
theorem dX12_work_28 : decode cX12_work 28 = .ok (.aload_n 0, 1) := getB' kX12_work_1 2 rfl
theorem dX12_work_29 : decode cX12_work 29 = .ok (.getfield 396, 3) := getB' kX12_work_1 3 rfl
theorem dX12_work_32 : decode cX12_work 32 = .ok (.sipush 3599, 3) := getB' kX12_work_1 4 rfl
theorem dX12_work_35 : decode cX12_work 35 = .ok (.invokestatic 371, 3) := getB' kX12_work_1 5 rfl
theorem dX12_work_38 : decode cX12_work 38 = .ok (.ifCond .eq 48, 3) := getB' kX12_work_1 6 rfl
theorem dX12_work_41 : decode cX12_work 41 = .ok (.iload 5, 2) := getB' kX12_work_1 7 rfl
theorem dX12_work_43 : decode cX12_work 43 = .ok (.iload 4, 2) := getB' kX12_work_1 8 rfl
theorem dX12_work_45 : decode cX12_work 45 = .ok (.sipush 3599, 3) := getB' kX12_work_1 9 rfl
theorem dX12_work_48 : decode cX12_work 48 = .ok (.invokestatic 371, 3) := getB' kX12_work_1 10 rfl
theorem dX12_work_51 : decode cX12_work 51 = .ok (.ifCond .eq 35, 3) := getB' kX12_work_1 11 rfl
def LX12_work_2 : List (Nat × Instr × Nat) := [(54, .iload 6, 2), (56, .iconst 0, 1), (57, .sipush 500, 3), (60, .invokestatic 371, 3), (63, .ifCond .eq 23, 3), (66, .iload 7, 2), (68, .iconst 0, 1), (69, .bipush 99, 2), (71, .invokestatic 371, 3), (74, .ifCond .eq 12, 3), (77, .aload_n 0, 1), (78, .getfield 378, 3)]
theorem kX12_work_2 : chkB cX12_work LX12_work_2 = true := by decide +kernel
theorem dX12_work_54 : decode cX12_work 54 = .ok (.iload 6, 2) := getB' kX12_work_2 0 rfl
theorem dX12_work_56 : decode cX12_work 56 = .ok (.iconst 0, 1) := getB' kX12_work_2 1 rfl
theorem dX12_work_57 : decode cX12_work 57 = .ok (.sipush 500, 3) := getB' kX12_work_2 2 rfl
theorem dX12_work_60 : decode cX12_work 60 = .ok (.invokestatic 371, 3) := getB' kX12_work_2 3 rfl
theorem dX12_work_63 : decode cX12_work 63 = .ok (.ifCond .eq 23, 3) := getB' kX12_work_2 4 rfl
theorem dX12_work_66 : decode cX12_work 66 = .ok (.iload 7, 2) := getB' kX12_work_2 5 rfl
theorem dX12_work_68 : decode cX12_work 68 = .ok (.iconst 0, 1) := getB' kX12_work_2 6 rfl
theorem dX12_work_69 : decode cX12_work 69 = .ok (.bipush 99, 2) := getB' kX12_work_2 7 rfl
theorem dX12_work_71 : decode cX12_work 71 = .ok (.invokestatic 371, 3) := getB' kX12_work_2 8 rfl
theorem dX12_work_74 : decode cX12_work 74 = .ok (.ifCond .eq 12, 3) := getB' kX12_work_2 9 rfl
theorem dX12_work_77 : decode cX12_work 77 = .ok (.aload_n 0, 1) := getB' kX12_work_2 10 rfl
theorem dX12_work_78 : decode cX12_work 78 = .ok (.getfield 378, 3) := getB' kX12_work_2 11 rfl
def LX12_work_3 : List (Nat × Instr × Nat) := [(81, .bipush 100, 2), (83, .if_icmp .ne 5, 3), (86, .iconst (-1), 1), (87, .ireturn, 1), (88, .aload_n 0, 1), (89, .getfield 378, 3), (92, .istore 8, 2), (94, .aload_n 0, 1), (95, .getfield 163, 3), (98, .iload 8, 2), (100, .iload_n 1, 1), (101, .iastore, 1)]
theorem kX12_work_3 : chkB cX12_work LX12_work_3 = true := by decide +kernel
theorem dX12_work_81 : decode cX12_work 81 = .ok (.bipush 100, 2) := getB' kX12_work_3 0 rfl
theorem dX12_work_83 : decode cX12_work 83 = .ok (.if_icmp .ne 5, 3) := getB' kX12_work_3 1 rfl
theorem dX12_work_86 : decode cX12_work 86 = .ok (.iconst (-1), 1) := getB' kX12_work_3 2 rfl
theorem dX12_work_87 : decode cX12_work 87 = .ok (.ireturn, 1) := getB' kX12_work_3 3 rfl
theorem dX12_work_88 : decode cX12_work 88 = .ok (.aload_n 0, 1) := getB' kX12_work_3 4 rfl
theorem dX12_work_89 : decode cX12_work 89 = .ok (.getfield 378, 3) := getB' kX12_work_3 5 rfl
theorem dX12_work_92 : decode cX12_work 92 = .ok (.istore 8, 2) := getB' kX12_work_3 6 rfl
theorem dX12_work_94 : decode cX12_work 94 = .ok (.aload_n 0, 1) := getB' kX12_work_3 7 rfl
theorem dX12_work_95 : decode cX12_work 95 = .ok (.getfield 163, 3) := getB' kX12_work_3 8 rfl
theorem dX12_work_98 : decode cX12_work 98 = .ok (.iload 8, 2) := getB' kX12_work_3 9 rfl
theorem dX12_work_100 : decode cX12_work 100 = .ok (.iload_n 1, 1) := getB' kX12_work_3 10 rfl
theorem dX12_work_101 : decode cX12_work 101 = .ok (.iastore, 1) := getB' kX12_work_3 11 rfl
def LX12_work_4 : List (Nat × Instr × Nat) := [(102, .aload_n 0, 1), (103, .getfield 166, 3), (106, .iload 8, 2), (108, .iload_n 2, 1), (109, .iastore, 1), (110, .aload_n 0, 1), (111, .getfield 169, 3), (114, .iload 8, 2), (116, .iload_n 3, 1), (117, .iastore, 1), (118, .aload_n 0, 1), (119, .getfield 172, 3)]
theorem kX12_work_4 : chkB cX12_work LX12_work_4 = true := by decide +kernel
theorem dX12_work_102 : decode cX12_work 102 = .ok (.aload_n 0, 1) := getB' kX12_work_4 0 rfl
theorem dX12_work_103 : decode cX12_work 103 = .ok (.getfield 166, 3) := getB' kX12_work_4 1 rfl
theorem dX12_work_106 : decode cX12_work 106 = .ok (.iload 8, 2) := getB' kX12_work_4 2 rfl
theorem dX12_work_108 : decode cX12_work 108 = .ok (.iload_n 2, 1) := getB' kX12_work_4 3 rfl
theorem dX12_work_109 : decode cX12_work 109 = .ok (.iastore, 1) := getB' kX12_work_4 4 rfl
theorem dX12_work_110 : decode cX12_work 110 = .ok (.aload_n 0, 1) := getB' kX12_work_4 5 rfl
theorem dX12_work_111 : decode cX12_work 111 = .ok (.getfield 169, 3) := getB' kX12_work_4 6 rfl
theorem dX12_work_114 : decode cX12_work 114 = .ok (.iload 8, 2) := getB' kX12_work_4 7 rfl
theorem dX12_work_116 : decode cX12_work 116 = .ok (.iload_n 3, 1) := getB' kX12_work_4 8 rfl
theorem dX12_work_117 : decode cX12_work 117 = .ok (.iastore, 1) := getB' kX12_work_4 9 rfl
theorem dX12_work_118 : decode cX12_work 118 = .ok (.aload_n 0, 1) := getB' kX12_work_4 10 rfl
theorem dX12_work_119 : decode cX12_work 119 = .ok (.getfield 172, 3) := getB' kX12_work_4 11 rfl
def LX12_work_5 : List (Nat × Instr × Nat) := [(122, .iload 8, 2), (124, .iload 4, 2), (126, .iastore, 1), (127, .aload_n 0, 1), (128, .getfield 175, 3), (131, .iload 8, 2), (133, .iload 5, 2), (135, .iastore, 1), (136, .aload_n 0, 1), (137, .getfield 178, 3), (140, .iload 8, 2), (142, .iload 6, 2)]
theorem kX12_work_5 : chkB cX12_work LX12_work_5 = true := by decide +kernel
theorem dX12_work_122 : decode cX12_work 122 = .ok (.iload 8, 2) := getB' kX12_work_5 0 rfl
theorem dX12_work_124 : decode cX12_work 124 = .ok (.iload 4, 2) := getB' kX12_work_5 1 rfl
theorem dX12_work_126 : decode cX12_work 126 = .ok (.iastore, 1) := getB' kX12_work_5 2 rfl
theorem dX12_work_127 : decode cX12_work 127 = .ok (.aload_n 0, 1) := getB' kX12_work_5 3 rfl
theorem dX12_work_128 : decode cX12_work 128 = .ok (.getfield 175, 3) := getB' kX12_work_5 4 rfl
theorem dX12_work_131 : decode cX12_work 131 = .ok (.iload 8, 2) := getB' kX12_work_5 5 rfl
theorem dX12_work_133 : decode cX12_work 133 = .ok (.iload 5, 2) := getB' kX12_work_5 6 rfl
theorem dX12_work_135 : decode cX12_work 135 = .ok (.iastore, 1) := getB' kX12_work_5 7 rfl
theorem dX12_work_136 : decode cX12_work 136 = .ok (.aload_n 0, 1) := getB' kX12_work_5 8 rfl
theorem dX12_work_137 : decode cX12_work 137 = .ok (.getfield 178, 3) := getB' kX12_work_5 9 rfl
theorem dX12_work_140 : decode cX12_work 140 = .ok (.iload 8, 2) := getB' kX12_work_5 10 rfl
theorem dX12_work_142 : decode cX12_work 142 = .ok (.iload 6, 2) := getB' kX12_work_5 11 rfl
def LX12_work_6 : List (Nat × Instr × Nat) := [(144, .iastore, 1), (145, .aload_n 0, 1), (146, .getfield 181, 3), (149, .iload 8, 2), (151, .iload 7, 2), (153, .iastore, 1), (154, .aload_n 0, 1), (155, .getfield 190, 3), (158, .iload 8, 2), (160, .iconst (-1), 1), (161, .iastore, 1), (162, .aload_n 0, 1)]
theorem kX12_work_6 : chkB cX12_work LX12_work_6 = true := by decide +kernel
theorem dX12_work_144 : decode cX12_work 144 = .ok (.iastore, 1) := getB' kX12_work_6 0 rfl
theorem dX12_work_145 : decode cX12_work 145 = .ok (.aload_n 0, 1) := getB' kX12_work_6 1 rfl
theorem dX12_work_146 : decode cX12_work 146 = .ok (.getfield 181, 3) := getB' kX12_work_6 2 rfl
theorem dX12_work_149 : decode cX12_work 149 = .ok (.iload 8, 2) := getB' kX12_work_6 3 rfl
theorem dX12_work_151 : decode cX12_work 151 = .ok (.iload 7, 2) := getB' kX12_work_6 4 rfl
theorem dX12_work_153 : decode cX12_work 153 = .ok (.iastore, 1) := getB' kX12_work_6 5 rfl
theorem dX12_work_154 : decode cX12_work 154 = .ok (.aload_n 0, 1) := getB' kX12_work_6 6 rfl
theorem dX12_work_155 : decode cX12_work 155 = .ok (.getfield 190, 3) := getB' kX12_work_6 7 rfl
theorem dX12_work_158 : decode cX12_work 158 = .ok (.iload 8, 2) := getB' kX12_work_6 8 rfl
theorem dX12_work_160 : decode cX12_work 160 = .ok (.iconst (-1), 1) := getB' kX12_work_6 9 rfl
theorem dX12_work_161 : decode cX12_work 161 = .ok (.iastore, 1) := getB' kX12_work_6 10 rfl
theorem dX12_work_162 : decode cX12_work 162 = .ok (.aload_n 0, 1) := getB' kX12_work_6 11 rfl
def LX12_work_7 : List (Nat × Instr × Nat) := [(163, .getfield 193, 3), (166, .iload 8, 2), (168, .iconst (-1), 1), (169, .iastore, 1), (170, .aload_n 0, 1), (171, .getfield 196, 3), (174, .iload 8, 2), (176, .iconst (-1), 1), (177, .iastore, 1), (178, .aload_n 0, 1), (179, .getfield 199, 3), (182, .iload 8, 2)]
theorem kX12_work_7 : chkB cX12_work LX12_work_7 = true := by decide +kernel
theorem dX12_work_163 : decode cX12_work 163 = .ok (.getfield 193, 3) := getB' kX12_work_7 0 rfl
theorem dX12_work_166 : decode cX12_work 166 = .ok (.iload 8, 2) := getB' kX12_work_7 1 rfl
theorem dX12_work_168 : decode cX12_work 168 = .ok (.iconst (-1), 1) := getB' kX12_work_7 2 rfl
theorem dX12_work_169 : decode cX12_work 169 = .ok (.iastore, 1) := getB' kX12_work_7 3 rfl
theorem dX12_work_170 : decode cX12_work 170 = .ok (.aload_n 0, 1) := getB' kX12_work_7 4 rfl
theorem dX12_work_171 : decode cX12_work 171 = .ok (.getfield 196, 3) := getB' kX12_work_7 5 rfl
theorem dX12_work_174 : decode cX12_work 174 = .ok (.iload 8, 2) := getB' kX12_work_7 6 rfl
theorem dX12_work_176 : decode cX12_work 176 = .ok (.iconst (-1), 1) := getB' kX12_work_7 7 rfl
theorem dX12_work_177 : decode cX12_work 177 = .ok (.iastore, 1) := getB' kX12_work_7 8 rfl
theorem dX12_work_178 : decode cX12_work 178 = .ok (.aload_n 0, 1) := getB' kX12_work_7 9 rfl
theorem dX12_work_179 : decode cX12_work 179 = .ok (.getfield 199, 3) := getB' kX12_work_7 10 rfl
theorem dX12_work_182 : decode cX12_work 182 = .ok (.iload 8, 2) := getB' kX12_work_7 11 rfl
def LX12_work_8 : List (Nat × Instr × Nat) := [(184, .iconst (-1), 1), (185, .iastore, 1), (186, .aload_n 0, 1), (187, .aload_n 0, 1), (188, .getfield 378, 3), (191, .iconst 1, 1), (192, .iadd, 1), (193, .putfield 378, 3), (196, .iload 8, 2), (198, .ireturn, 1)]
theorem kX12_work_8 : chkB cX12_work LX12_work_8 = true := by decide +kernel
theorem dX12_work_184 : decode cX12_work 184 = .ok (.iconst (-1), 1) := getB' kX12_work_8 0 rfl
theorem dX12_work_185 : decode cX12_work 185 = .ok (.iastore, 1) := getB' kX12_work_8 1 rfl
theorem dX12_work_186 : decode cX12_work 186 = .ok (.aload_n 0, 1) := getB' kX12_work_8 2 rfl
theorem dX12_work_187 : decode cX12_work 187 = .ok (.aload_n 0, 1) := getB' kX12_work_8 3 rfl
theorem dX12_work_188 : decode cX12_work 188 = .ok (.getfield 378, 3) := getB' kX12_work_8 4 rfl
theorem dX12_work_191 : decode cX12_work 191 = .ok (.iconst 1, 1) := getB' kX12_work_8 5 rfl
theorem dX12_work_192 : decode cX12_work 192 = .ok (.iadd, 1) := getB' kX12_work_8 6 rfl
theorem dX12_work_193 : decode cX12_work 193 = .ok (.putfield 378, 3) := getB' kX12_work_8 7 rfl
theorem dX12_work_196 : decode cX12_work 196 = .ok (.iload 8, 2) := getB' kX12_work_8 8 rfl
theorem dX12_work_198 : decode cX12_work 198 = .ok (.ireturn, 1) := getB' kX12_work_8 9 rfl
def LX12_tell_0 : List (Nat × Instr × Nat) := [(0, .aload_n 0, 1), (1, .iload_n 1, 1), (2, .invokevirtual 566, 3), (5, .ifCond .eq 35, 3), (8, .iload_n 2, 1), (9, .iconst 0, 1), (10, .iconst 1, 1), (11, .invokestatic 371, 3), (14, .ifCond .eq 26, 3), (17, .iload_n 2, 1), (18, .ifCond .ne 12, 3), (21, .aload_n 0, 1)]
theorem kX12_tell_0 : chkB cX12_tell LX12_tell_0 = true := by decide +kernel
theorem dX12_tell_0 : decode cX12_tell 0 = .ok (.aload_n 0, 1) := getB' kX12_tell_0 0 rfl
theorem dX12_tell_1 : decode cX12_tell 1 = .ok (.iload_n 1, 1) := getB' kX12_tell_0 1 rfl
theorem dX12_tell_2 : decode cX12_tell 2 = .ok (.invokevirtual 566, 3) := getB' kX12_tell_0 2 rfl
theorem dX12_tell_5 : decode cX12_tell 5 = .ok (.ifCond .eq 35, 3) := getB' kX12_tell_0 3 rfl
theorem dX12_tell_8 : decode cX12_tell 8 = .ok (.iload_n 2, 1) := getB' kX12_tell_0 4 rfl
theorem dX12_tell_9 : decode cX12_tell 9 = .ok (.iconst 0, 1) := getB' kX12_tell_0 5 rfl
theorem dX12_tell_10 : decode cX12_tell 10 = .ok (.iconst 1, 1) := getB' kX12_tell_0 6 rfl
theorem dX12_tell_11 : decode cX12_tell 11 = .ok (.invokestatic 371, 3) := getB' kX12_tell_0 7 rfl
theorem dX12_tell_14 : decode cX12_tell 14 = .ok (.ifCond .eq 26, 3) := getB' kX12_tell_0 8 rfl
theorem dX12_tell_17 : decode cX12_tell 17 = .ok (.iload_n 2, 1) := getB' kX12_tell_0 9 rfl
theorem dX12_tell_18 : decode cX12_tell 18 = .ok (.ifCond .ne 12, 3) := getB' kX12_tell_0 10 rfl
theorem dX12_tell_21 : decode cX12_tell 21 = .ok (.aload_n 0, 1) := getB' kX12_tell_0 11 rfl
def LX12_tell_1 : List (Nat × Instr × Nat) := [(22, .getfield 190, 3), (25, .iload_n 1, 1), (26, .iaload, 1), (27, .goto 9, 3), (30, .aload_n 0, 1), (31, .getfield 193, 3), (34, .iload_n 1, 1), (35, .iaload, 1), (36, .iconst (-1), 1), (37, .if_icmp .eq 5, 3), (40, .iconst 0, 1), (41, .ireturn, 1)]
theorem kX12_tell_1 : chkB cX12_tell LX12_tell_1 = true := by decide +kernel
theorem dX12_tell_22 : decode cX12_tell 22 = .ok (.getfield 190, 3) := getB' kX12_tell_1 0 rfl
theorem dX12_tell_25 : decode cX12_tell 25 = .ok (.iload_n 1, 1) := getB' kX12_tell_1 1 rfl
theorem dX12_tell_26 : decode cX12_tell 26 = .ok (.iaload, 1) := getB' kX12_tell_1 2 rfl
theorem dX12_tell_27 : decode cX12_tell 27 = .ok (.goto 9, 3) := getB' kX12_tell_1 3 rfl
theorem dX12_tell_30 : decode cX12_tell 30 = .ok (.aload_n 0, 1) := getB' kX12_tell_1 4 rfl
theorem dX12_tell_31 : decode cX12_tell 31 = .ok (.getfield 193, 3) := getB' kX12_tell_1 5 rfl
theorem dX12_tell_34 : decode cX12_tell 34 = .ok (.iload_n 1, 1) := getB' kX12_tell_1 6 rfl
theorem dX12_tell_35 : decode cX12_tell 35 = .ok (.iaload, 1) := getB' kX12_tell_1 7 rfl
theorem dX12_tell_36 : decode cX12_tell 36 = .ok (.iconst (-1), 1) := getB' kX12_tell_1 8 rfl
theorem dX12_tell_37 : decode cX12_tell 37 = .ok (.if_icmp .eq 5, 3) := getB' kX12_tell_1 9 rfl
theorem dX12_tell_40 : decode cX12_tell 40 = .ok (.iconst 0, 1) := getB' kX12_tell_1 10 rfl
theorem dX12_tell_41 : decode cX12_tell 41 = .ok (.ireturn, 1) := getB' kX12_tell_1 11 rfl
def LX12_tell_2 : List (Nat × Instr × Nat) := [(42, .iload_n 2, 1), (43, .ifCond .ne 16, 3), (46, .aload_n 0, 1), (47, .getfield 190, 3), (50, .iload_n 1, 1), (51, .aload_n 0, 1), (52, .getfield 396, 3), (55, .iastore, 1), (56, .goto 13, 3), (59, .aload_n 0, 1), (60, .getfield 193, 3), (63, .iload_n 1, 1)]
theorem kX12_tell_2 : chkB cX12_tell LX12_tell_2 = true := by decide +kernel
theorem dX12_tell_42 : decode cX12_tell 42 = .ok (.iload_n 2, 1) := getB' kX12_tell_2 0 rfl
theorem dX12_tell_43 : decode cX12_tell 43 = .ok (.ifCond .ne 16, 3) := getB' kX12_tell_2 1 rfl
theorem dX12_tell_46 : decode cX12_tell 46 = .ok (.aload_n 0, 1) := getB' kX12_tell_2 2 rfl
theorem dX12_tell_47 : decode cX12_tell 47 = .ok (.getfield 190, 3) := getB' kX12_tell_2 3 rfl
theorem dX12_tell_50 : decode cX12_tell 50 = .ok (.iload_n 1, 1) := getB' kX12_tell_2 4 rfl
theorem dX12_tell_51 : decode cX12_tell 51 = .ok (.aload_n 0, 1) := getB' kX12_tell_2 5 rfl
theorem dX12_tell_52 : decode cX12_tell 52 = .ok (.getfield 396, 3) := getB' kX12_tell_2 6 rfl
theorem dX12_tell_55 : decode cX12_tell 55 = .ok (.iastore, 1) := getB' kX12_tell_2 7 rfl
theorem dX12_tell_56 : decode cX12_tell 56 = .ok (.goto 13, 3) := getB' kX12_tell_2 8 rfl
theorem dX12_tell_59 : decode cX12_tell 59 = .ok (.aload_n 0, 1) := getB' kX12_tell_2 9 rfl
theorem dX12_tell_60 : decode cX12_tell 60 = .ok (.getfield 193, 3) := getB' kX12_tell_2 10 rfl
theorem dX12_tell_63 : decode cX12_tell 63 = .ok (.iload_n 1, 1) := getB' kX12_tell_2 11 rfl
def LX12_tell_3 : List (Nat × Instr × Nat) := [(64, .aload_n 0, 1), (65, .getfield 396, 3), (68, .iastore, 1), (69, .iconst 1, 1), (70, .ireturn, 1)]
theorem kX12_tell_3 : chkB cX12_tell LX12_tell_3 = true := by decide +kernel
theorem dX12_tell_64 : decode cX12_tell 64 = .ok (.aload_n 0, 1) := getB' kX12_tell_3 0 rfl
theorem dX12_tell_65 : decode cX12_tell 65 = .ok (.getfield 396, 3) := getB' kX12_tell_3 1 rfl
theorem dX12_tell_68 : decode cX12_tell 68 = .ok (.iastore, 1) := getB' kX12_tell_3 2 rfl
theorem dX12_tell_69 : decode cX12_tell 69 = .ok (.iconst 1, 1) := getB' kX12_tell_3 3 rfl
theorem dX12_tell_70 : decode cX12_tell 70 = .ok (.ireturn, 1) := getB' kX12_tell_3 4 rfl
def LX12_study_0 : List (Nat × Instr × Nat) := [(0, .aload_n 0, 1), (1, .iload_n 1, 1), (2, .invokevirtual 566, 3), (5, .ifCond .eq 24, 3), (8, .iload_n 2, 1), (9, .iconst 0, 1), (10, .sipush 1000, 3), (13, .invokestatic 371, 3), (16, .ifCond .eq 13, 3), (19, .aload_n 0, 1), (20, .getfield 196, 3), (23, .iload_n 1, 1)]
theorem kX12_study_0 : chkB cX12_study LX12_study_0 = true := by decide +kernel
theorem dX12_study_0 : decode cX12_study 0 = .ok (.aload_n 0, 1) := getB' kX12_study_0 0 rfl
theorem dX12_study_1 : decode cX12_study 1 = .ok (.iload_n 1, 1) := getB' kX12_study_0 1 rfl
theorem dX12_study_2 : decode cX12_study 2 = .ok (.invokevirtual 566, 3) := getB' kX12_study_0 2 rfl
theorem dX12_study_5 : decode cX12_study 5 = .ok (.ifCond .eq 24, 3) := getB' kX12_study_0 3 rfl
theorem dX12_study_8 : decode cX12_study 8 = .ok (.iload_n 2, 1) := getB' kX12_study_0 4 rfl
theorem dX12_study_9 : decode cX12_study 9 = .ok (.iconst 0, 1) := getB' kX12_study_0 5 rfl
theorem dX12_study_10 : decode cX12_study 10 = .ok (.sipush 1000, 3) := getB' kX12_study_0 6 rfl
theorem dX12_study_13 : decode cX12_study 13 = .ok (.invokestatic 371, 3) := getB' kX12_study_0 7 rfl
theorem dX12_study_16 : decode cX12_study 16 = .ok (.ifCond .eq 13, 3) := getB' kX12_study_0 8 rfl
theorem dX12_study_19 : decode cX12_study 19 = .ok (.aload_n 0, 1) := getB' kX12_study_0 9 rfl
theorem dX12_study_20 : decode cX12_study 20 = .ok (.getfield 196, 3) := getB' kX12_study_0 10 rfl
theorem dX12_study_23 : decode cX12_study 23 = .ok (.iload_n 1, 1) := getB' kX12_study_0 11 rfl
def LX12_study_1 : List (Nat × Instr × Nat) := [(24, .iaload, 1), (25, .iconst (-1), 1), (26, .if_icmp .eq 5, 3), (29, .iconst 0, 1), (30, .ireturn, 1), (31, .aload_n 0, 1), (32, .getfield 196, 3), (35, .iload_n 1, 1), (36, .aload_n 0, 1), (37, .getfield 396, 3), (40, .iastore, 1), (41, .aload_n 0, 1)]
theorem kX12_study_1 : chkB cX12_study LX12_study_1 = true := by decide +kernel
theorem dX12_study_24 : decode cX12_study 24 = .ok (.iaload, 1) := getB' kX12_study_1 0 rfl
theorem dX12_study_25 : decode cX12_study 25 = .ok (.iconst (-1), 1) := getB' kX12_study_1 1 rfl
theorem dX12_study_26 : decode cX12_study 26 = .ok (.if_icmp .eq 5, 3) := getB' kX12_study_1 2 rfl
theorem dX12_study_29 : decode cX12_study 29 = .ok (.iconst 0, 1) := getB' kX12_study_1 3 rfl
theorem dX12_study_30 : decode cX12_study 30 = .ok (.ireturn, 1) := getB' kX12_study_1 4 rfl
theorem dX12_study_31 : decode cX12_study 31 = .ok (.aload_n 0, 1) := getB' kX12_study_1 5 rfl
theorem dX12_study_32 : decode cX12_study 32 = .ok (.getfield 196, 3) := getB' kX12_study_1 6 rfl
theorem dX12_study_35 : decode cX12_study 35 = .ok (.iload_n 1, 1) := getB' kX12_study_1 7 rfl
theorem dX12_study_36 : decode cX12_study 36 = .ok (.aload_n 0, 1) := getB' kX12_study_1 8 rfl
theorem dX12_study_37 : decode cX12_study 37 = .ok (.getfield 396, 3) := getB' kX12_study_1 9 rfl
theorem dX12_study_40 : decode cX12_study 40 = .ok (.iastore, 1) := getB' kX12_study_1 10 rfl
theorem dX12_study_41 : decode cX12_study 41 = .ok (.aload_n 0, 1) := getB' kX12_study_1 11 rfl
def LX12_study_2 : List (Nat × Instr × Nat) := [(42, .getfield 199, 3), (45, .iload_n 1, 1), (46, .iload_n 2, 1), (47, .iastore, 1), (48, .iconst 1, 1), (49, .ireturn, 1)]
theorem kX12_study_2 : chkB cX12_study LX12_study_2 = true := by decide +kernel
theorem dX12_study_42 : decode cX12_study 42 = .ok (.getfield 199, 3) := getB' kX12_study_2 0 rfl
theorem dX12_study_45 : decode cX12_study 45 = .ok (.iload_n 1, 1) := getB' kX12_study_2 1 rfl
theorem dX12_study_46 : decode cX12_study 46 = .ok (.iload_n 2, 1) := getB' kX12_study_2 2 rfl
theorem dX12_study_47 : decode cX12_study 47 = .ok (.iastore, 1) := getB' kX12_study_2 3 rfl
theorem dX12_study_48 : decode cX12_study 48 = .ok (.iconst 1, 1) := getB' kX12_study_2 4 rfl
theorem dX12_study_49 : decode cX12_study 49 = .ok (.ireturn, 1) := getB' kX12_study_2 5 rfl
