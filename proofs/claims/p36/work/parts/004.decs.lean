def LX5_negation : List (Nat × Instr × Nat) := [(0, .aload_n 0, 1), (1, .bipush 33, 2), (3, .invokevirtual 80, 3), (6, .aload_n 0, 1), (7, .invokevirtual 96, 3), (10, .aload_n 0, 1), (11, .dup, 1), (12, .getfield 15, 3), (15, .iconst 1, 1), (16, .isub, 1), (17, .putfield 15, 3), (20, .aload_n 0, 1), (21, .getfield 31, 3), (24, .iconst 2, 1), (25, .iconst 0, 1), (26, .invokevirtual 92, 3), (29, .pop, 1), (30, .return_, 1)]
theorem kX5_negation : chkB cX5_negation LX5_negation = true := by decide +kernel
theorem dX5_negation_0 : decode cX5_negation 0 = .ok (.aload_n 0, 1) := getB' kX5_negation 0 rfl
theorem dX5_negation_1 : decode cX5_negation 1 = .ok (.bipush 33, 2) := getB' kX5_negation 1 rfl
theorem dX5_negation_3 : decode cX5_negation 3 = .ok (.invokevirtual 80, 3) := getB' kX5_negation 2 rfl
theorem dX5_negation_6 : decode cX5_negation 6 = .ok (.aload_n 0, 1) := getB' kX5_negation 3 rfl
theorem dX5_negation_7 : decode cX5_negation 7 = .ok (.invokevirtual 96, 3) := getB' kX5_negation 4 rfl
theorem dX5_negation_10 : decode cX5_negation 10 = .ok (.aload_n 0, 1) := getB' kX5_negation 5 rfl
theorem dX5_negation_11 : decode cX5_negation 11 = .ok (.dup, 1) := getB' kX5_negation 6 rfl
theorem dX5_negation_12 : decode cX5_negation 12 = .ok (.getfield 15, 3) := getB' kX5_negation 7 rfl
theorem dX5_negation_15 : decode cX5_negation 15 = .ok (.iconst 1, 1) := getB' kX5_negation 8 rfl
theorem dX5_negation_16 : decode cX5_negation 16 = .ok (.isub, 1) := getB' kX5_negation 9 rfl
theorem dX5_negation_17 : decode cX5_negation 17 = .ok (.putfield 15, 3) := getB' kX5_negation 10 rfl
theorem dX5_negation_20 : decode cX5_negation 20 = .ok (.aload_n 0, 1) := getB' kX5_negation 11 rfl
theorem dX5_negation_21 : decode cX5_negation 21 = .ok (.getfield 31, 3) := getB' kX5_negation 12 rfl
theorem dX5_negation_24 : decode cX5_negation 24 = .ok (.iconst 2, 1) := getB' kX5_negation 13 rfl
theorem dX5_negation_25 : decode cX5_negation 25 = .ok (.iconst 0, 1) := getB' kX5_negation 14 rfl
theorem dX5_negation_26 : decode cX5_negation 26 = .ok (.invokevirtual 92, 3) := getB' kX5_negation 15 rfl
theorem dX5_negation_29 : decode cX5_negation 29 = .ok (.pop, 1) := getB' kX5_negation 16 rfl
theorem dX5_negation_30 : decode cX5_negation 30 = .ok (.return_, 1) := getB' kX5_negation 17 rfl
def LX5_comparison : List (Nat × Instr × Nat) := [(0, .iload_n 1, 1), (1, .bipush 60, 2), (3, .if_icmp .eq 24, 3), (6, .iload_n 1, 1), (7, .bipush 62, 2), (9, .if_icmp .eq 18, 3), (12, .iload_n 1, 1), (13, .bipush 61, 2), (15, .if_icmp .eq 12, 3), (18, .aload_n 0, 1), (19, .iconst 1, 1), (20, .aload_n 0, 1), (21, .getfield 9, 3), (24, .invokevirtual 57, 3), (27, .iload_n 1, 1), (28, .bipush 60, 2), (30, .if_icmp .ne 8, 3), (33, .bipush 10, 2), (35, .goto 16, 3), (38, .iload_n 1, 1), (39, .bipush 62, 2), (41, .if_icmp .ne 8, 3), (44, .bipush 11, 2), (46, .goto 5, 3), (49, .bipush 12, 2), (51, .ireturn, 1)]
theorem kX5_comparison : chkB cX5_comparison LX5_comparison = true := by decide +kernel
theorem dX5_comparison_0 : decode cX5_comparison 0 = .ok (.iload_n 1, 1) := getB' kX5_comparison 0 rfl
theorem dX5_comparison_1 : decode cX5_comparison 1 = .ok (.bipush 60, 2) := getB' kX5_comparison 1 rfl
theorem dX5_comparison_3 : decode cX5_comparison 3 = .ok (.if_icmp .eq 24, 3) := getB' kX5_comparison 2 rfl
theorem dX5_comparison_6 : decode cX5_comparison 6 = .ok (.iload_n 1, 1) := getB' kX5_comparison 3 rfl
theorem dX5_comparison_7 : decode cX5_comparison 7 = .ok (.bipush 62, 2) := getB' kX5_comparison 4 rfl
theorem dX5_comparison_9 : decode cX5_comparison 9 = .ok (.if_icmp .eq 18, 3) := getB' kX5_comparison 5 rfl
theorem dX5_comparison_12 : decode cX5_comparison 12 = .ok (.iload_n 1, 1) := getB' kX5_comparison 6 rfl
theorem dX5_comparison_13 : decode cX5_comparison 13 = .ok (.bipush 61, 2) := getB' kX5_comparison 7 rfl
theorem dX5_comparison_15 : decode cX5_comparison 15 = .ok (.if_icmp .eq 12, 3) := getB' kX5_comparison 8 rfl
theorem dX5_comparison_18 : decode cX5_comparison 18 = .ok (.aload_n 0, 1) := getB' kX5_comparison 9 rfl
theorem dX5_comparison_19 : decode cX5_comparison 19 = .ok (.iconst 1, 1) := getB' kX5_comparison 10 rfl
theorem dX5_comparison_20 : decode cX5_comparison 20 = .ok (.aload_n 0, 1) := getB' kX5_comparison 11 rfl
theorem dX5_comparison_21 : decode cX5_comparison 21 = .ok (.getfield 9, 3) := getB' kX5_comparison 12 rfl
theorem dX5_comparison_24 : decode cX5_comparison 24 = .ok (.invokevirtual 57, 3) := getB' kX5_comparison 13 rfl
theorem dX5_comparison_27 : decode cX5_comparison 27 = .ok (.iload_n 1, 1) := getB' kX5_comparison 14 rfl
theorem dX5_comparison_28 : decode cX5_comparison 28 = .ok (.bipush 60, 2) := getB' kX5_comparison 15 rfl
theorem dX5_comparison_30 : decode cX5_comparison 30 = .ok (.if_icmp .ne 8, 3) := getB' kX5_comparison 16 rfl
theorem dX5_comparison_33 : decode cX5_comparison 33 = .ok (.bipush 10, 2) := getB' kX5_comparison 17 rfl
theorem dX5_comparison_35 : decode cX5_comparison 35 = .ok (.goto 16, 3) := getB' kX5_comparison 18 rfl
theorem dX5_comparison_38 : decode cX5_comparison 38 = .ok (.iload_n 1, 1) := getB' kX5_comparison 19 rfl
theorem dX5_comparison_39 : decode cX5_comparison 39 = .ok (.bipush 62, 2) := getB' kX5_comparison 20 rfl
theorem dX5_comparison_41 : decode cX5_comparison 41 = .ok (.if_icmp .ne 8, 3) := getB' kX5_comparison 21 rfl
theorem dX5_comparison_44 : decode cX5_comparison 44 = .ok (.bipush 11, 2) := getB' kX5_comparison 22 rfl
theorem dX5_comparison_46 : decode cX5_comparison 46 = .ok (.goto 5, 3) := getB' kX5_comparison 23 rfl
theorem dX5_comparison_49 : decode cX5_comparison 49 = .ok (.bipush 12, 2) := getB' kX5_comparison 24 rfl
theorem dX5_comparison_51 : decode cX5_comparison 51 = .ok (.ireturn, 1) := getB' kX5_comparison 25 rfl
def LX5_terms : List (Nat × Instr × Nat) := [(0, .aload_n 0, 1), (1, .invokevirtual 108, 3), (4, .iconst 0, 1), (5, .istore_n 1, 1), (6, .iload_n 1, 1), (7, .sipush 200, 3), (10, .if_icmp .ge 74, 3), (13, .aload_n 0, 1), (14, .getfield 18, 3), (17, .ifCond .ne 67, 3), (20, .aload_n 0, 1), (21, .invokevirtual 61, 3), (24, .bipush 43, 2), (26, .if_icmp .eq 12, 3), (29, .aload_n 0, 1), (30, .invokevirtual 61, 3), (33, .bipush 45, 2), (35, .if_icmp .ne 49, 3), (38, .aload_n 0, 1), (39, .invokevirtual 61, 3), (42, .bipush 43, 2), (44, .if_icmp .ne 7, 3), (47, .iconst 5, 1), (48, .goto 5, 3), (51, .bipush 6, 2), (53, .istore_n 2, 1), (54, .aload_n 0, 1), (55, .dup, 1), (56, .getfield 9, 3), (59, .iconst 1, 1), (60, .iadd, 1), (61, .putfield 9, 3), (64, .aload_n 0, 1), (65, .invokevirtual 108, 3), (68, .aload_n 0, 1), (69, .getfield 31, 3), (72, .iload_n 2, 1), (73, .iconst 0, 1), (74, .invokevirtual 92, 3), (77, .pop, 1), (78, .iinc 1 1, 3), (81, .goto (-75), 3), (84, .return_, 1)]
theorem kX5_terms : chkB cX5_terms LX5_terms = true := by decide +kernel
theorem dX5_terms_0 : decode cX5_terms 0 = .ok (.aload_n 0, 1) := getB' kX5_terms 0 rfl
theorem dX5_terms_1 : decode cX5_terms 1 = .ok (.invokevirtual 108, 3) := getB' kX5_terms 1 rfl
theorem dX5_terms_4 : decode cX5_terms 4 = .ok (.iconst 0, 1) := getB' kX5_terms 2 rfl
theorem dX5_terms_5 : decode cX5_terms 5 = .ok (.istore_n 1, 1) := getB' kX5_terms 3 rfl
theorem dX5_terms_6 : decode cX5_terms 6 = .ok (.iload_n 1, 1) := getB' kX5_terms 4 rfl
theorem dX5_terms_7 : decode cX5_terms 7 = .ok (.sipush 200, 3) := getB' kX5_terms 5 rfl
theorem dX5_terms_10 : decode cX5_terms 10 = .ok (.if_icmp .ge 74, 3) := getB' kX5_terms 6 rfl
theorem dX5_terms_13 : decode cX5_terms 13 = .ok (.aload_n 0, 1) := getB' kX5_terms 7 rfl
theorem dX5_terms_14 : decode cX5_terms 14 = .ok (.getfield 18, 3) := getB' kX5_terms 8 rfl
theorem dX5_terms_17 : decode cX5_terms 17 = .ok (.ifCond .ne 67, 3) := getB' kX5_terms 9 rfl
theorem dX5_terms_20 : decode cX5_terms 20 = .ok (.aload_n 0, 1) := getB' kX5_terms 10 rfl
theorem dX5_terms_21 : decode cX5_terms 21 = .ok (.invokevirtual 61, 3) := getB' kX5_terms 11 rfl
theorem dX5_terms_24 : decode cX5_terms 24 = .ok (.bipush 43, 2) := getB' kX5_terms 12 rfl
theorem dX5_terms_26 : decode cX5_terms 26 = .ok (.if_icmp .eq 12, 3) := getB' kX5_terms 13 rfl
theorem dX5_terms_29 : decode cX5_terms 29 = .ok (.aload_n 0, 1) := getB' kX5_terms 14 rfl
theorem dX5_terms_30 : decode cX5_terms 30 = .ok (.invokevirtual 61, 3) := getB' kX5_terms 15 rfl
theorem dX5_terms_33 : decode cX5_terms 33 = .ok (.bipush 45, 2) := getB' kX5_terms 16 rfl
theorem dX5_terms_35 : decode cX5_terms 35 = .ok (.if_icmp .ne 49, 3) := getB' kX5_terms 17 rfl
theorem dX5_terms_38 : decode cX5_terms 38 = .ok (.aload_n 0, 1) := getB' kX5_terms 18 rfl
theorem dX5_terms_39 : decode cX5_terms 39 = .ok (.invokevirtual 61, 3) := getB' kX5_terms 19 rfl
theorem dX5_terms_42 : decode cX5_terms 42 = .ok (.bipush 43, 2) := getB' kX5_terms 20 rfl
theorem dX5_terms_44 : decode cX5_terms 44 = .ok (.if_icmp .ne 7, 3) := getB' kX5_terms 21 rfl
theorem dX5_terms_47 : decode cX5_terms 47 = .ok (.iconst 5, 1) := getB' kX5_terms 22 rfl
theorem dX5_terms_48 : decode cX5_terms 48 = .ok (.goto 5, 3) := getB' kX5_terms 23 rfl
theorem dX5_terms_51 : decode cX5_terms 51 = .ok (.bipush 6, 2) := getB' kX5_terms 24 rfl
theorem dX5_terms_53 : decode cX5_terms 53 = .ok (.istore_n 2, 1) := getB' kX5_terms 25 rfl
theorem dX5_terms_54 : decode cX5_terms 54 = .ok (.aload_n 0, 1) := getB' kX5_terms 26 rfl
theorem dX5_terms_55 : decode cX5_terms 55 = .ok (.dup, 1) := getB' kX5_terms 27 rfl
theorem dX5_terms_56 : decode cX5_terms 56 = .ok (.getfield 9, 3) := getB' kX5_terms 28 rfl
theorem dX5_terms_59 : decode cX5_terms 59 = .ok (.iconst 1, 1) := getB' kX5_terms 29 rfl
theorem dX5_terms_60 : decode cX5_terms 60 = .ok (.iadd, 1) := getB' kX5_terms 30 rfl
theorem dX5_terms_61 : decode cX5_terms 61 = .ok (.putfield 9, 3) := getB' kX5_terms 31 rfl
theorem dX5_terms_64 : decode cX5_terms 64 = .ok (.aload_n 0, 1) := getB' kX5_terms 32 rfl
theorem dX5_terms_65 : decode cX5_terms 65 = .ok (.invokevirtual 108, 3) := getB' kX5_terms 33 rfl
theorem dX5_terms_68 : decode cX5_terms 68 = .ok (.aload_n 0, 1) := getB' kX5_terms 34 rfl
theorem dX5_terms_69 : decode cX5_terms 69 = .ok (.getfield 31, 3) := getB' kX5_terms 35 rfl
theorem dX5_terms_72 : decode cX5_terms 72 = .ok (.iload_n 2, 1) := getB' kX5_terms 36 rfl
theorem dX5_terms_73 : decode cX5_terms 73 = .ok (.iconst 0, 1) := getB' kX5_terms 37 rfl
theorem dX5_terms_74 : decode cX5_terms 74 = .ok (.invokevirtual 92, 3) := getB' kX5_terms 38 rfl
theorem dX5_terms_77 : decode cX5_terms 77 = .ok (.pop, 1) := getB' kX5_terms 39 rfl
theorem dX5_terms_78 : decode cX5_terms 78 = .ok (.iinc 1 1, 3) := getB' kX5_terms 40 rfl
theorem dX5_terms_81 : decode cX5_terms 81 = .ok (.goto (-75), 3) := getB' kX5_terms 41 rfl
theorem dX5_terms_84 : decode cX5_terms 84 = .ok (.return_, 1) := getB' kX5_terms 42 rfl
def LX5_factors : List (Nat × Instr × Nat) := [(0, .aload_n 0, 1), (1, .invokevirtual 111, 3), (4, .iconst 0, 1), (5, .istore_n 1, 1), (6, .iload_n 1, 1), (7, .sipush 200, 3), (10, .if_icmp .ge 81, 3), (13, .aload_n 0, 1), (14, .getfield 18, 3), (17, .ifCond .ne 74, 3), (20, .aload_n 0, 1), (21, .invokevirtual 61, 3), (24, .invokestatic 114, 3), (27, .ifCond .eq 64, 3), (30, .aload_n 0, 1), (31, .invokevirtual 61, 3), (34, .bipush 42, 2), (36, .if_icmp .ne 8, 3), (39, .bipush 7, 2), (41, .goto 19, 3), (44, .aload_n 0, 1), (45, .invokevirtual 61, 3), (48, .bipush 47, 2), (50, .if_icmp .ne 8, 3), (53, .bipush 8, 2), (55, .goto 5, 3), (58, .bipush 9, 2), (60, .istore_n 2, 1), (61, .aload_n 0, 1), (62, .dup, 1), (63, .getfield 9, 3), (66, .iconst 1, 1), (67, .iadd, 1), (68, .putfield 9, 3), (71, .aload_n 0, 1), (72, .invokevirtual 111, 3), (75, .aload_n 0, 1), (76, .getfield 31, 3), (79, .iload_n 2, 1), (80, .iconst 0, 1), (81, .invokevirtual 92, 3), (84, .pop, 1), (85, .iinc 1 1, 3), (88, .goto (-82), 3), (91, .return_, 1)]
theorem kX5_factors : chkB cX5_factors LX5_factors = true := by decide +kernel
theorem dX5_factors_0 : decode cX5_factors 0 = .ok (.aload_n 0, 1) := getB' kX5_factors 0 rfl
theorem dX5_factors_1 : decode cX5_factors 1 = .ok (.invokevirtual 111, 3) := getB' kX5_factors 1 rfl
theorem dX5_factors_4 : decode cX5_factors 4 = .ok (.iconst 0, 1) := getB' kX5_factors 2 rfl
theorem dX5_factors_5 : decode cX5_factors 5 = .ok (.istore_n 1, 1) := getB' kX5_factors 3 rfl
theorem dX5_factors_6 : decode cX5_factors 6 = .ok (.iload_n 1, 1) := getB' kX5_factors 4 rfl
theorem dX5_factors_7 : decode cX5_factors 7 = .ok (.sipush 200, 3) := getB' kX5_factors 5 rfl
theorem dX5_factors_10 : decode cX5_factors 10 = .ok (.if_icmp .ge 81, 3) := getB' kX5_factors 6 rfl
theorem dX5_factors_13 : decode cX5_factors 13 = .ok (.aload_n 0, 1) := getB' kX5_factors 7 rfl
theorem dX5_factors_14 : decode cX5_factors 14 = .ok (.getfield 18, 3) := getB' kX5_factors 8 rfl
theorem dX5_factors_17 : decode cX5_factors 17 = .ok (.ifCond .ne 74, 3) := getB' kX5_factors 9 rfl
theorem dX5_factors_20 : decode cX5_factors 20 = .ok (.aload_n 0, 1) := getB' kX5_factors 10 rfl
theorem dX5_factors_21 : decode cX5_factors 21 = .ok (.invokevirtual 61, 3) := getB' kX5_factors 11 rfl
theorem dX5_factors_24 : decode cX5_factors 24 = .ok (.invokestatic 114, 3) := getB' kX5_factors 12 rfl
theorem dX5_factors_27 : decode cX5_factors 27 = .ok (.ifCond .eq 64, 3) := getB' kX5_factors 13 rfl
theorem dX5_factors_30 : decode cX5_factors 30 = .ok (.aload_n 0, 1) := getB' kX5_factors 14 rfl
theorem dX5_factors_31 : decode cX5_factors 31 = .ok (.invokevirtual 61, 3) := getB' kX5_factors 15 rfl
theorem dX5_factors_34 : decode cX5_factors 34 = .ok (.bipush 42, 2) := getB' kX5_factors 16 rfl
theorem dX5_factors_36 : decode cX5_factors 36 = .ok (.if_icmp .ne 8, 3) := getB' kX5_factors 17 rfl
theorem dX5_factors_39 : decode cX5_factors 39 = .ok (.bipush 7, 2) := getB' kX5_factors 18 rfl
theorem dX5_factors_41 : decode cX5_factors 41 = .ok (.goto 19, 3) := getB' kX5_factors 19 rfl
theorem dX5_factors_44 : decode cX5_factors 44 = .ok (.aload_n 0, 1) := getB' kX5_factors 20 rfl
theorem dX5_factors_45 : decode cX5_factors 45 = .ok (.invokevirtual 61, 3) := getB' kX5_factors 21 rfl
theorem dX5_factors_48 : decode cX5_factors 48 = .ok (.bipush 47, 2) := getB' kX5_factors 22 rfl
theorem dX5_factors_50 : decode cX5_factors 50 = .ok (.if_icmp .ne 8, 3) := getB' kX5_factors 23 rfl
theorem dX5_factors_53 : decode cX5_factors 53 = .ok (.bipush 8, 2) := getB' kX5_factors 24 rfl
theorem dX5_factors_55 : decode cX5_factors 55 = .ok (.goto 5, 3) := getB' kX5_factors 25 rfl
theorem dX5_factors_58 : decode cX5_factors 58 = .ok (.bipush 9, 2) := getB' kX5_factors 26 rfl
theorem dX5_factors_60 : decode cX5_factors 60 = .ok (.istore_n 2, 1) := getB' kX5_factors 27 rfl
theorem dX5_factors_61 : decode cX5_factors 61 = .ok (.aload_n 0, 1) := getB' kX5_factors 28 rfl
theorem dX5_factors_62 : decode cX5_factors 62 = .ok (.dup, 1) := getB' kX5_factors 29 rfl
theorem dX5_factors_63 : decode cX5_factors 63 = .ok (.getfield 9, 3) := getB' kX5_factors 30 rfl
theorem dX5_factors_66 : decode cX5_factors 66 = .ok (.iconst 1, 1) := getB' kX5_factors 31 rfl
theorem dX5_factors_67 : decode cX5_factors 67 = .ok (.iadd, 1) := getB' kX5_factors 32 rfl
theorem dX5_factors_68 : decode cX5_factors 68 = .ok (.putfield 9, 3) := getB' kX5_factors 33 rfl
theorem dX5_factors_71 : decode cX5_factors 71 = .ok (.aload_n 0, 1) := getB' kX5_factors 34 rfl
theorem dX5_factors_72 : decode cX5_factors 72 = .ok (.invokevirtual 111, 3) := getB' kX5_factors 35 rfl
theorem dX5_factors_75 : decode cX5_factors 75 = .ok (.aload_n 0, 1) := getB' kX5_factors 36 rfl
theorem dX5_factors_76 : decode cX5_factors 76 = .ok (.getfield 31, 3) := getB' kX5_factors 37 rfl
theorem dX5_factors_79 : decode cX5_factors 79 = .ok (.iload_n 2, 1) := getB' kX5_factors 38 rfl
theorem dX5_factors_80 : decode cX5_factors 80 = .ok (.iconst 0, 1) := getB' kX5_factors 39 rfl
theorem dX5_factors_81 : decode cX5_factors 81 = .ok (.invokevirtual 92, 3) := getB' kX5_factors 40 rfl
theorem dX5_factors_84 : decode cX5_factors 84 = .ok (.pop, 1) := getB' kX5_factors 41 rfl
theorem dX5_factors_85 : decode cX5_factors 85 = .ok (.iinc 1 1, 3) := getB' kX5_factors 42 rfl
theorem dX5_factors_88 : decode cX5_factors 88 = .ok (.goto (-82), 3) := getB' kX5_factors 43 rfl
theorem dX5_factors_91 : decode cX5_factors 91 = .ok (.return_, 1) := getB' kX5_factors 44 rfl
def LX5_factor : List (Nat × Instr × Nat) := [(0, .aload_n 0, 1), (1, .getfield 18, 3), (4, .ifCond .eq 4, 3), (7, .return_, 1), (8, .aload_n 0, 1), (9, .invokevirtual 61, 3), (12, .istore_n 1, 1), (13, .iload_n 1, 1), (14, .ifCond .ge 7, 3), (17, .iconst (-1), 1), (18, .goto 10, 3), (21, .ldc 117, 2), (23, .iload_n 1, 1), (24, .i2c, 1), (25, .invokevirtual 119, 3), (28, .istore_n 2, 1), (29, .iload_n 1, 1), (30, .bipush 91, 2), (32, .if_icmp .ne 32, 3), (35, .aload_n 0, 1), (36, .bipush 91, 2), (38, .invokevirtual 80, 3), (41, .aload_n 0, 1), (42, .invokevirtual 102, 3), (45, .aload_n 0, 1), (46, .dup, 1), (47, .getfield 15, 3), (50, .iconst 1, 1), (51, .isub, 1), (52, .putfield 15, 3), (55, .aload_n 0, 1), (56, .bipush 93, 2), (58, .invokevirtual 38, 3), (61, .goto 45, 3), (64, .iload_n 2, 1), (65, .ifCond .lt 26, 3), (68, .aload_n 0, 1), (69, .dup, 1), (70, .getfield 9, 3), (73, .iconst 1, 1), (74, .iadd, 1), (75, .putfield 9, 3), (78, .aload_n 0, 1), (79, .getfield 31, 3), (82, .iconst 1, 1), (83, .iload_n 2, 1), (84, .invokevirtual 92, 3), (87, .pop, 1), (88, .goto 18, 3), (91, .aload_n 0, 1), (92, .getfield 31, 3), (95, .iconst 0, 1), (96, .aload_n 0, 1), (97, .ldc 76, 2), (99, .invokevirtual 69, 3), (102, .invokevirtual 92, 3), (105, .pop, 1), (106, .return_, 1)]
theorem kX5_factor : chkB cX5_factor LX5_factor = true := by decide +kernel
theorem dX5_factor_0 : decode cX5_factor 0 = .ok (.aload_n 0, 1) := getB' kX5_factor 0 rfl
theorem dX5_factor_1 : decode cX5_factor 1 = .ok (.getfield 18, 3) := getB' kX5_factor 1 rfl
theorem dX5_factor_4 : decode cX5_factor 4 = .ok (.ifCond .eq 4, 3) := getB' kX5_factor 2 rfl
theorem dX5_factor_7 : decode cX5_factor 7 = .ok (.return_, 1) := getB' kX5_factor 3 rfl
theorem dX5_factor_8 : decode cX5_factor 8 = .ok (.aload_n 0, 1) := getB' kX5_factor 4 rfl
theorem dX5_factor_9 : decode cX5_factor 9 = .ok (.invokevirtual 61, 3) := getB' kX5_factor 5 rfl
theorem dX5_factor_12 : decode cX5_factor 12 = .ok (.istore_n 1, 1) := getB' kX5_factor 6 rfl
theorem dX5_factor_13 : decode cX5_factor 13 = .ok (.iload_n 1, 1) := getB' kX5_factor 7 rfl
theorem dX5_factor_14 : decode cX5_factor 14 = .ok (.ifCond .ge 7, 3) := getB' kX5_factor 8 rfl
theorem dX5_factor_17 : decode cX5_factor 17 = .ok (.iconst (-1), 1) := getB' kX5_factor 9 rfl
theorem dX5_factor_18 : decode cX5_factor 18 = .ok (.goto 10, 3) := getB' kX5_factor 10 rfl
theorem dX5_factor_21 : decode cX5_factor 21 = .ok (.ldc 117, 2) := getB' kX5_factor 11 rfl
theorem dX5_factor_23 : decode cX5_factor 23 = .ok (.iload_n 1, 1) := getB' kX5_factor 12 rfl
theorem dX5_factor_24 : decode cX5_factor 24 = .ok (.i2c, 1) := getB' kX5_factor 13 rfl
theorem dX5_factor_25 : decode cX5_factor 25 = .ok (.invokevirtual 119, 3) := getB' kX5_factor 14 rfl
theorem dX5_factor_28 : decode cX5_factor 28 = .ok (.istore_n 2, 1) := getB' kX5_factor 15 rfl
theorem dX5_factor_29 : decode cX5_factor 29 = .ok (.iload_n 1, 1) := getB' kX5_factor 16 rfl
theorem dX5_factor_30 : decode cX5_factor 30 = .ok (.bipush 91, 2) := getB' kX5_factor 17 rfl
theorem dX5_factor_32 : decode cX5_factor 32 = .ok (.if_icmp .ne 32, 3) := getB' kX5_factor 18 rfl
theorem dX5_factor_35 : decode cX5_factor 35 = .ok (.aload_n 0, 1) := getB' kX5_factor 19 rfl
theorem dX5_factor_36 : decode cX5_factor 36 = .ok (.bipush 91, 2) := getB' kX5_factor 20 rfl
theorem dX5_factor_38 : decode cX5_factor 38 = .ok (.invokevirtual 80, 3) := getB' kX5_factor 21 rfl
theorem dX5_factor_41 : decode cX5_factor 41 = .ok (.aload_n 0, 1) := getB' kX5_factor 22 rfl
theorem dX5_factor_42 : decode cX5_factor 42 = .ok (.invokevirtual 102, 3) := getB' kX5_factor 23 rfl
theorem dX5_factor_45 : decode cX5_factor 45 = .ok (.aload_n 0, 1) := getB' kX5_factor 24 rfl
theorem dX5_factor_46 : decode cX5_factor 46 = .ok (.dup, 1) := getB' kX5_factor 25 rfl
theorem dX5_factor_47 : decode cX5_factor 47 = .ok (.getfield 15, 3) := getB' kX5_factor 26 rfl
theorem dX5_factor_50 : decode cX5_factor 50 = .ok (.iconst 1, 1) := getB' kX5_factor 27 rfl
theorem dX5_factor_51 : decode cX5_factor 51 = .ok (.isub, 1) := getB' kX5_factor 28 rfl
theorem dX5_factor_52 : decode cX5_factor 52 = .ok (.putfield 15, 3) := getB' kX5_factor 29 rfl
theorem dX5_factor_55 : decode cX5_factor 55 = .ok (.aload_n 0, 1) := getB' kX5_factor 30 rfl
theorem dX5_factor_56 : decode cX5_factor 56 = .ok (.bipush 93, 2) := getB' kX5_factor 31 rfl
theorem dX5_factor_58 : decode cX5_factor 58 = .ok (.invokevirtual 38, 3) := getB' kX5_factor 32 rfl
theorem dX5_factor_61 : decode cX5_factor 61 = .ok (.goto 45, 3) := getB' kX5_factor 33 rfl
theorem dX5_factor_64 : decode cX5_factor 64 = .ok (.iload_n 2, 1) := getB' kX5_factor 34 rfl
theorem dX5_factor_65 : decode cX5_factor 65 = .ok (.ifCond .lt 26, 3) := getB' kX5_factor 35 rfl
theorem dX5_factor_68 : decode cX5_factor 68 = .ok (.aload_n 0, 1) := getB' kX5_factor 36 rfl
theorem dX5_factor_69 : decode cX5_factor 69 = .ok (.dup, 1) := getB' kX5_factor 37 rfl
theorem dX5_factor_70 : decode cX5_factor 70 = .ok (.getfield 9, 3) := getB' kX5_factor 38 rfl
theorem dX5_factor_73 : decode cX5_factor 73 = .ok (.iconst 1, 1) := getB' kX5_factor 39 rfl
theorem dX5_factor_74 : decode cX5_factor 74 = .ok (.iadd, 1) := getB' kX5_factor 40 rfl
theorem dX5_factor_75 : decode cX5_factor 75 = .ok (.putfield 9, 3) := getB' kX5_factor 41 rfl
theorem dX5_factor_78 : decode cX5_factor 78 = .ok (.aload_n 0, 1) := getB' kX5_factor 42 rfl
theorem dX5_factor_79 : decode cX5_factor 79 = .ok (.getfield 31, 3) := getB' kX5_factor 43 rfl
theorem dX5_factor_82 : decode cX5_factor 82 = .ok (.iconst 1, 1) := getB' kX5_factor 44 rfl
theorem dX5_factor_83 : decode cX5_factor 83 = .ok (.iload_n 2, 1) := getB' kX5_factor 45 rfl
theorem dX5_factor_84 : decode cX5_factor 84 = .ok (.invokevirtual 92, 3) := getB' kX5_factor 46 rfl
theorem dX5_factor_87 : decode cX5_factor 87 = .ok (.pop, 1) := getB' kX5_factor 47 rfl
theorem dX5_factor_88 : decode cX5_factor 88 = .ok (.goto 18, 3) := getB' kX5_factor 48 rfl
theorem dX5_factor_91 : decode cX5_factor 91 = .ok (.aload_n 0, 1) := getB' kX5_factor 49 rfl
theorem dX5_factor_92 : decode cX5_factor 92 = .ok (.getfield 31, 3) := getB' kX5_factor 50 rfl
theorem dX5_factor_95 : decode cX5_factor 95 = .ok (.iconst 0, 1) := getB' kX5_factor 51 rfl
theorem dX5_factor_96 : decode cX5_factor 96 = .ok (.aload_n 0, 1) := getB' kX5_factor 52 rfl
theorem dX5_factor_97 : decode cX5_factor 97 = .ok (.ldc 76, 2) := getB' kX5_factor 53 rfl
theorem dX5_factor_99 : decode cX5_factor 99 = .ok (.invokevirtual 69, 3) := getB' kX5_factor 54 rfl
theorem dX5_factor_102 : decode cX5_factor 102 = .ok (.invokevirtual 92, 3) := getB' kX5_factor 55 rfl
theorem dX5_factor_105 : decode cX5_factor 105 = .ok (.pop, 1) := getB' kX5_factor 56 rfl
theorem dX5_factor_106 : decode cX5_factor 106 = .ok (.return_, 1) := getB' kX5_factor 57 rfl
def LX5_digits : List (Nat × Instr × Nat) := [(0, .aload_n 0, 1), (1, .getfield 9, 3), (4, .istore_n 2, 1), (5, .iconst 0, 1), (6, .istore_n 3, 1), (7, .iconst 0, 1), (8, .istore 4, 2), (10, .iload 4, 2), (12, .bipush 6, 2), (14, .if_icmp .gt 67, 3), (17, .aload_n 0, 1), (18, .getfield 18, 3), (21, .ifCond .ne 60, 3), (24, .aload_n 0, 1), (25, .invokevirtual 61, 3), (28, .invokestatic 124, 3), (31, .ifCond .eq 50, 3), (34, .iload 4, 2), (36, .bipush 6, 2), (38, .if_icmp .ne 14, 3), (41, .aload_n 0, 1), (42, .iconst 2, 1), (43, .aload_n 0, 1), (44, .getfield 9, 3), (47, .invokevirtual 57, 3), (50, .iconst 0, 1), (51, .ireturn, 1), (52, .bipush 10, 2), (54, .iload_n 3, 1), (55, .imul, 1), (56, .aload_n 0, 1), (57, .invokevirtual 61, 3), (60, .iadd, 1), (61, .bipush 48, 2), (63, .isub, 1), (64, .istore_n 3, 1), (65, .aload_n 0, 1), (66, .dup, 1), (67, .getfield 9, 3), (70, .iconst 1, 1), (71, .iadd, 1), (72, .putfield 9, 3), (75, .iinc 4 1, 3), (78, .goto (-68), 3), (81, .aload_n 0, 1), (82, .getfield 9, 3), (85, .iload_n 2, 1), (86, .if_icmp .ne 15, 3), (89, .aload_n 0, 1), (90, .iconst 1, 1), (91, .aload_n 0, 1), (92, .getfield 9, 3), (95, .invokevirtual 57, 3), (98, .goto 14, 3), (101, .iload_n 3, 1), (102, .iload_n 1, 1), (103, .if_icmp .le 9, 3), (106, .aload_n 0, 1), (107, .iconst 3, 1), (108, .iload_n 2, 1), (109, .invokevirtual 57, 3), (112, .iload_n 3, 1), (113, .ireturn, 1)]
theorem kX5_digits : chkB cX5_digits LX5_digits = true := by decide +kernel
theorem dX5_digits_0 : decode cX5_digits 0 = .ok (.aload_n 0, 1) := getB' kX5_digits 0 rfl
theorem dX5_digits_1 : decode cX5_digits 1 = .ok (.getfield 9, 3) := getB' kX5_digits 1 rfl
theorem dX5_digits_4 : decode cX5_digits 4 = .ok (.istore_n 2, 1) := getB' kX5_digits 2 rfl
theorem dX5_digits_5 : decode cX5_digits 5 = .ok (.iconst 0, 1) := getB' kX5_digits 3 rfl
theorem dX5_digits_6 : decode cX5_digits 6 = .ok (.istore_n 3, 1) := getB' kX5_digits 4 rfl
theorem dX5_digits_7 : decode cX5_digits 7 = .ok (.iconst 0, 1) := getB' kX5_digits 5 rfl
theorem dX5_digits_8 : decode cX5_digits 8 = .ok (.istore 4, 2) := getB' kX5_digits 6 rfl
theorem dX5_digits_10 : decode cX5_digits 10 = .ok (.iload 4, 2) := getB' kX5_digits 7 rfl
theorem dX5_digits_12 : decode cX5_digits 12 = .ok (.bipush 6, 2) := getB' kX5_digits 8 rfl
theorem dX5_digits_14 : decode cX5_digits 14 = .ok (.if_icmp .gt 67, 3) := getB' kX5_digits 9 rfl
theorem dX5_digits_17 : decode cX5_digits 17 = .ok (.aload_n 0, 1) := getB' kX5_digits 10 rfl
theorem dX5_digits_18 : decode cX5_digits 18 = .ok (.getfield 18, 3) := getB' kX5_digits 11 rfl
theorem dX5_digits_21 : decode cX5_digits 21 = .ok (.ifCond .ne 60, 3) := getB' kX5_digits 12 rfl
theorem dX5_digits_24 : decode cX5_digits 24 = .ok (.aload_n 0, 1) := getB' kX5_digits 13 rfl
theorem dX5_digits_25 : decode cX5_digits 25 = .ok (.invokevirtual 61, 3) := getB' kX5_digits 14 rfl
theorem dX5_digits_28 : decode cX5_digits 28 = .ok (.invokestatic 124, 3) := getB' kX5_digits 15 rfl
theorem dX5_digits_31 : decode cX5_digits 31 = .ok (.ifCond .eq 50, 3) := getB' kX5_digits 16 rfl
theorem dX5_digits_34 : decode cX5_digits 34 = .ok (.iload 4, 2) := getB' kX5_digits 17 rfl
theorem dX5_digits_36 : decode cX5_digits 36 = .ok (.bipush 6, 2) := getB' kX5_digits 18 rfl
theorem dX5_digits_38 : decode cX5_digits 38 = .ok (.if_icmp .ne 14, 3) := getB' kX5_digits 19 rfl
theorem dX5_digits_41 : decode cX5_digits 41 = .ok (.aload_n 0, 1) := getB' kX5_digits 20 rfl
theorem dX5_digits_42 : decode cX5_digits 42 = .ok (.iconst 2, 1) := getB' kX5_digits 21 rfl
theorem dX5_digits_43 : decode cX5_digits 43 = .ok (.aload_n 0, 1) := getB' kX5_digits 22 rfl
theorem dX5_digits_44 : decode cX5_digits 44 = .ok (.getfield 9, 3) := getB' kX5_digits 23 rfl
theorem dX5_digits_47 : decode cX5_digits 47 = .ok (.invokevirtual 57, 3) := getB' kX5_digits 24 rfl
theorem dX5_digits_50 : decode cX5_digits 50 = .ok (.iconst 0, 1) := getB' kX5_digits 25 rfl
theorem dX5_digits_51 : decode cX5_digits 51 = .ok (.ireturn, 1) := getB' kX5_digits 26 rfl
theorem dX5_digits_52 : decode cX5_digits 52 = .ok (.bipush 10, 2) := getB' kX5_digits 27 rfl
theorem dX5_digits_54 : decode cX5_digits 54 = .ok (.iload_n 3, 1) := getB' kX5_digits 28 rfl
theorem dX5_digits_55 : decode cX5_digits 55 = .ok (.imul, 1) := getB' kX5_digits 29 rfl
theorem dX5_digits_56 : decode cX5_digits 56 = .ok (.aload_n 0, 1) := getB' kX5_digits 30 rfl
theorem dX5_digits_57 : decode cX5_digits 57 = .ok (.invokevirtual 61, 3) := getB' kX5_digits 31 rfl
theorem dX5_digits_60 : decode cX5_digits 60 = .ok (.iadd, 1) := getB' kX5_digits 32 rfl
theorem dX5_digits_61 : decode cX5_digits 61 = .ok (.bipush 48, 2) := getB' kX5_digits 33 rfl
theorem dX5_digits_63 : decode cX5_digits 63 = .ok (.isub, 1) := getB' kX5_digits 34 rfl
theorem dX5_digits_64 : decode cX5_digits 64 = .ok (.istore_n 3, 1) := getB' kX5_digits 35 rfl
theorem dX5_digits_65 : decode cX5_digits 65 = .ok (.aload_n 0, 1) := getB' kX5_digits 36 rfl
theorem dX5_digits_66 : decode cX5_digits 66 = .ok (.dup, 1) := getB' kX5_digits 37 rfl
theorem dX5_digits_67 : decode cX5_digits 67 = .ok (.getfield 9, 3) := getB' kX5_digits 38 rfl
theorem dX5_digits_70 : decode cX5_digits 70 = .ok (.iconst 1, 1) := getB' kX5_digits 39 rfl
theorem dX5_digits_71 : decode cX5_digits 71 = .ok (.iadd, 1) := getB' kX5_digits 40 rfl
theorem dX5_digits_72 : decode cX5_digits 72 = .ok (.putfield 9, 3) := getB' kX5_digits 41 rfl
theorem dX5_digits_75 : decode cX5_digits 75 = .ok (.iinc 4 1, 3) := getB' kX5_digits 42 rfl
theorem dX5_digits_78 : decode cX5_digits 78 = .ok (.goto (-68), 3) := getB' kX5_digits 43 rfl
theorem dX5_digits_81 : decode cX5_digits 81 = .ok (.aload_n 0, 1) := getB' kX5_digits 44 rfl
theorem dX5_digits_82 : decode cX5_digits 82 = .ok (.getfield 9, 3) := getB' kX5_digits 45 rfl
theorem dX5_digits_85 : decode cX5_digits 85 = .ok (.iload_n 2, 1) := getB' kX5_digits 46 rfl
theorem dX5_digits_86 : decode cX5_digits 86 = .ok (.if_icmp .ne 15, 3) := getB' kX5_digits 47 rfl
theorem dX5_digits_89 : decode cX5_digits 89 = .ok (.aload_n 0, 1) := getB' kX5_digits 48 rfl
theorem dX5_digits_90 : decode cX5_digits 90 = .ok (.iconst 1, 1) := getB' kX5_digits 49 rfl
theorem dX5_digits_91 : decode cX5_digits 91 = .ok (.aload_n 0, 1) := getB' kX5_digits 50 rfl
theorem dX5_digits_92 : decode cX5_digits 92 = .ok (.getfield 9, 3) := getB' kX5_digits 51 rfl
theorem dX5_digits_95 : decode cX5_digits 95 = .ok (.invokevirtual 57, 3) := getB' kX5_digits 52 rfl
theorem dX5_digits_98 : decode cX5_digits 98 = .ok (.goto 14, 3) := getB' kX5_digits 53 rfl
theorem dX5_digits_101 : decode cX5_digits 101 = .ok (.iload_n 3, 1) := getB' kX5_digits 54 rfl
theorem dX5_digits_102 : decode cX5_digits 102 = .ok (.iload_n 1, 1) := getB' kX5_digits 55 rfl
theorem dX5_digits_103 : decode cX5_digits 103 = .ok (.if_icmp .le 9, 3) := getB' kX5_digits 56 rfl
theorem dX5_digits_106 : decode cX5_digits 106 = .ok (.aload_n 0, 1) := getB' kX5_digits 57 rfl
theorem dX5_digits_107 : decode cX5_digits 107 = .ok (.iconst 3, 1) := getB' kX5_digits 58 rfl
theorem dX5_digits_108 : decode cX5_digits 108 = .ok (.iload_n 2, 1) := getB' kX5_digits 59 rfl
theorem dX5_digits_109 : decode cX5_digits 109 = .ok (.invokevirtual 57, 3) := getB' kX5_digits 60 rfl
theorem dX5_digits_112 : decode cX5_digits 112 = .ok (.iload_n 3, 1) := getB' kX5_digits 61 rfl
theorem dX5_digits_113 : decode cX5_digits 113 = .ok (.ireturn, 1) := getB' kX5_digits 62 rfl
def LX5_isDigit : List (Nat × Instr × Nat) := [(0, .iload_n 0, 1), (1, .bipush 48, 2), (3, .if_icmp .lt 13, 3), (6, .iload_n 0, 1), (7, .bipush 57, 2), (9, .if_icmp .gt 7, 3), (12, .iconst 1, 1), (13, .goto 4, 3), (16, .iconst 0, 1), (17, .ireturn, 1)]
theorem kX5_isDigit : chkB cX5_isDigit LX5_isDigit = true := by decide +kernel
theorem dX5_isDigit_0 : decode cX5_isDigit 0 = .ok (.iload_n 0, 1) := getB' kX5_isDigit 0 rfl
theorem dX5_isDigit_1 : decode cX5_isDigit 1 = .ok (.bipush 48, 2) := getB' kX5_isDigit 1 rfl
theorem dX5_isDigit_3 : decode cX5_isDigit 3 = .ok (.if_icmp .lt 13, 3) := getB' kX5_isDigit 2 rfl
theorem dX5_isDigit_6 : decode cX5_isDigit 6 = .ok (.iload_n 0, 1) := getB' kX5_isDigit 3 rfl
theorem dX5_isDigit_7 : decode cX5_isDigit 7 = .ok (.bipush 57, 2) := getB' kX5_isDigit 4 rfl
theorem dX5_isDigit_9 : decode cX5_isDigit 9 = .ok (.if_icmp .gt 7, 3) := getB' kX5_isDigit 5 rfl
theorem dX5_isDigit_12 : decode cX5_isDigit 12 = .ok (.iconst 1, 1) := getB' kX5_isDigit 6 rfl
theorem dX5_isDigit_13 : decode cX5_isDigit 13 = .ok (.goto 4, 3) := getB' kX5_isDigit 7 rfl
theorem dX5_isDigit_16 : decode cX5_isDigit 16 = .ok (.iconst 0, 1) := getB' kX5_isDigit 8 rfl
theorem dX5_isDigit_17 : decode cX5_isDigit 17 = .ok (.ireturn, 1) := getB' kX5_isDigit 9 rfl
def LX5_isFactorSign : List (Nat × Instr × Nat) := [(0, .iload_n 0, 1), (1, .bipush 42, 2), (3, .if_icmp .eq 15, 3), (6, .iload_n 0, 1), (7, .bipush 47, 2), (9, .if_icmp .eq 9, 3), (12, .iload_n 0, 1), (13, .bipush 37, 2), (15, .if_icmp .ne 7, 3), (18, .iconst 1, 1), (19, .goto 4, 3), (22, .iconst 0, 1), (23, .ireturn, 1)]
theorem kX5_isFactorSign : chkB cX5_isFactorSign LX5_isFactorSign = true := by decide +kernel
theorem dX5_isFactorSign_0 : decode cX5_isFactorSign 0 = .ok (.iload_n 0, 1) := getB' kX5_isFactorSign 0 rfl
theorem dX5_isFactorSign_1 : decode cX5_isFactorSign 1 = .ok (.bipush 42, 2) := getB' kX5_isFactorSign 1 rfl
theorem dX5_isFactorSign_3 : decode cX5_isFactorSign 3 = .ok (.if_icmp .eq 15, 3) := getB' kX5_isFactorSign 2 rfl
theorem dX5_isFactorSign_6 : decode cX5_isFactorSign 6 = .ok (.iload_n 0, 1) := getB' kX5_isFactorSign 3 rfl
theorem dX5_isFactorSign_7 : decode cX5_isFactorSign 7 = .ok (.bipush 47, 2) := getB' kX5_isFactorSign 4 rfl
theorem dX5_isFactorSign_9 : decode cX5_isFactorSign 9 = .ok (.if_icmp .eq 9, 3) := getB' kX5_isFactorSign 5 rfl
theorem dX5_isFactorSign_12 : decode cX5_isFactorSign 12 = .ok (.iload_n 0, 1) := getB' kX5_isFactorSign 6 rfl
theorem dX5_isFactorSign_13 : decode cX5_isFactorSign 13 = .ok (.bipush 37, 2) := getB' kX5_isFactorSign 7 rfl
theorem dX5_isFactorSign_15 : decode cX5_isFactorSign 15 = .ok (.if_icmp .ne 7, 3) := getB' kX5_isFactorSign 8 rfl
theorem dX5_isFactorSign_18 : decode cX5_isFactorSign 18 = .ok (.iconst 1, 1) := getB' kX5_isFactorSign 9 rfl
theorem dX5_isFactorSign_19 : decode cX5_isFactorSign 19 = .ok (.goto 4, 3) := getB' kX5_isFactorSign 10 rfl
theorem dX5_isFactorSign_22 : decode cX5_isFactorSign 22 = .ok (.iconst 0, 1) := getB' kX5_isFactorSign 11 rfl
theorem dX5_isFactorSign_23 : decode cX5_isFactorSign 23 = .ok (.ireturn, 1) := getB' kX5_isFactorSign 12 rfl
def LX5_next : List (Nat × Instr × Nat) := [(0, .aload_n 0, 1), (1, .getfield 24, 3), (4, .ifnull 37, 3), (7, .aload_n 0, 1), (8, .getfield 9, 3), (11, .ifCond .lt 30, 3), (14, .aload_n 0, 1), (15, .getfield 9, 3), (18, .aload_n 0, 1), (19, .getfield 28, 3), (22, .if_icmp .ge 19, 3), (25, .aload_n 0, 1), (26, .getfield 9, 3), (29, .aload_n 0, 1), (30, .getfield 24, 3), (33, .arraylength, 1), (34, .if_icmp .ge 7, 3), (37, .iconst 1, 1), (38, .goto 4, 3), (41, .iconst 0, 1), (42, .istore_n 1, 1), (43, .iload_n 1, 1), (44, .ifCond .eq 15, 3), (47, .aload_n 0, 1), (48, .getfield 24, 3), (51, .aload_n 0, 1), (52, .getfield 9, 3), (55, .iaload, 1), (56, .goto 4, 3), (59, .iconst (-1), 1), (60, .ireturn, 1)]
theorem kX5_next : chkB cX5_next LX5_next = true := by decide +kernel
theorem dX5_next_0 : decode cX5_next 0 = .ok (.aload_n 0, 1) := getB' kX5_next 0 rfl
theorem dX5_next_1 : decode cX5_next 1 = .ok (.getfield 24, 3) := getB' kX5_next 1 rfl
theorem dX5_next_4 : decode cX5_next 4 = .ok (.ifnull 37, 3) := getB' kX5_next 2 rfl
theorem dX5_next_7 : decode cX5_next 7 = .ok (.aload_n 0, 1) := getB' kX5_next 3 rfl
theorem dX5_next_8 : decode cX5_next 8 = .ok (.getfield 9, 3) := getB' kX5_next 4 rfl
theorem dX5_next_11 : decode cX5_next 11 = .ok (.ifCond .lt 30, 3) := getB' kX5_next 5 rfl
theorem dX5_next_14 : decode cX5_next 14 = .ok (.aload_n 0, 1) := getB' kX5_next 6 rfl
theorem dX5_next_15 : decode cX5_next 15 = .ok (.getfield 9, 3) := getB' kX5_next 7 rfl
theorem dX5_next_18 : decode cX5_next 18 = .ok (.aload_n 0, 1) := getB' kX5_next 8 rfl
theorem dX5_next_19 : decode cX5_next 19 = .ok (.getfield 28, 3) := getB' kX5_next 9 rfl
theorem dX5_next_22 : decode cX5_next 22 = .ok (.if_icmp .ge 19, 3) := getB' kX5_next 10 rfl
theorem dX5_next_25 : decode cX5_next 25 = .ok (.aload_n 0, 1) := getB' kX5_next 11 rfl
theorem dX5_next_26 : decode cX5_next 26 = .ok (.getfield 9, 3) := getB' kX5_next 12 rfl
theorem dX5_next_29 : decode cX5_next 29 = .ok (.aload_n 0, 1) := getB' kX5_next 13 rfl
theorem dX5_next_30 : decode cX5_next 30 = .ok (.getfield 24, 3) := getB' kX5_next 14 rfl
theorem dX5_next_33 : decode cX5_next 33 = .ok (.arraylength, 1) := getB' kX5_next 15 rfl
theorem dX5_next_34 : decode cX5_next 34 = .ok (.if_icmp .ge 7, 3) := getB' kX5_next 16 rfl
theorem dX5_next_37 : decode cX5_next 37 = .ok (.iconst 1, 1) := getB' kX5_next 17 rfl
theorem dX5_next_38 : decode cX5_next 38 = .ok (.goto 4, 3) := getB' kX5_next 18 rfl
theorem dX5_next_41 : decode cX5_next 41 = .ok (.iconst 0, 1) := getB' kX5_next 19 rfl
theorem dX5_next_42 : decode cX5_next 42 = .ok (.istore_n 1, 1) := getB' kX5_next 20 rfl
theorem dX5_next_43 : decode cX5_next 43 = .ok (.iload_n 1, 1) := getB' kX5_next 21 rfl
theorem dX5_next_44 : decode cX5_next 44 = .ok (.ifCond .eq 15, 3) := getB' kX5_next 22 rfl
theorem dX5_next_47 : decode cX5_next 47 = .ok (.aload_n 0, 1) := getB' kX5_next 23 rfl
theorem dX5_next_48 : decode cX5_next 48 = .ok (.getfield 24, 3) := getB' kX5_next 24 rfl
theorem dX5_next_51 : decode cX5_next 51 = .ok (.aload_n 0, 1) := getB' kX5_next 25 rfl
theorem dX5_next_52 : decode cX5_next 52 = .ok (.getfield 9, 3) := getB' kX5_next 26 rfl
theorem dX5_next_55 : decode cX5_next 55 = .ok (.iaload, 1) := getB' kX5_next 27 rfl
theorem dX5_next_56 : decode cX5_next 56 = .ok (.goto 4, 3) := getB' kX5_next 28 rfl
theorem dX5_next_59 : decode cX5_next 59 = .ok (.iconst (-1), 1) := getB' kX5_next 29 rfl
theorem dX5_next_60 : decode cX5_next 60 = .ok (.ireturn, 1) := getB' kX5_next 30 rfl
def LX5_take : List (Nat × Instr × Nat) := [(0, .aload_n 0, 1), (1, .invokevirtual 61, 3), (4, .iload_n 1, 1), (5, .if_icmp .eq 15, 3), (8, .aload_n 0, 1), (9, .iconst 1, 1), (10, .aload_n 0, 1), (11, .getfield 9, 3), (14, .invokevirtual 57, 3), (17, .goto 20, 3), (20, .aload_n 0, 1), (21, .getfield 18, 3), (24, .ifCond .ne 13, 3), (27, .aload_n 0, 1), (28, .dup, 1), (29, .getfield 9, 3), (32, .iconst 1, 1), (33, .iadd, 1), (34, .putfield 9, 3), (37, .return_, 1)]
theorem kX5_take : chkB cX5_take LX5_take = true := by decide +kernel
theorem dX5_take_0 : decode cX5_take 0 = .ok (.aload_n 0, 1) := getB' kX5_take 0 rfl
theorem dX5_take_1 : decode cX5_take 1 = .ok (.invokevirtual 61, 3) := getB' kX5_take 1 rfl
theorem dX5_take_4 : decode cX5_take 4 = .ok (.iload_n 1, 1) := getB' kX5_take 2 rfl
theorem dX5_take_5 : decode cX5_take 5 = .ok (.if_icmp .eq 15, 3) := getB' kX5_take 3 rfl
theorem dX5_take_8 : decode cX5_take 8 = .ok (.aload_n 0, 1) := getB' kX5_take 4 rfl
theorem dX5_take_9 : decode cX5_take 9 = .ok (.iconst 1, 1) := getB' kX5_take 5 rfl
theorem dX5_take_10 : decode cX5_take 10 = .ok (.aload_n 0, 1) := getB' kX5_take 6 rfl
theorem dX5_take_11 : decode cX5_take 11 = .ok (.getfield 9, 3) := getB' kX5_take 7 rfl
theorem dX5_take_14 : decode cX5_take 14 = .ok (.invokevirtual 57, 3) := getB' kX5_take 8 rfl
theorem dX5_take_17 : decode cX5_take 17 = .ok (.goto 20, 3) := getB' kX5_take 9 rfl
theorem dX5_take_20 : decode cX5_take 20 = .ok (.aload_n 0, 1) := getB' kX5_take 10 rfl
theorem dX5_take_21 : decode cX5_take 21 = .ok (.getfield 18, 3) := getB' kX5_take 11 rfl
theorem dX5_take_24 : decode cX5_take 24 = .ok (.ifCond .ne 13, 3) := getB' kX5_take 12 rfl
theorem dX5_take_27 : decode cX5_take 27 = .ok (.aload_n 0, 1) := getB' kX5_take 13 rfl
theorem dX5_take_28 : decode cX5_take 28 = .ok (.dup, 1) := getB' kX5_take 14 rfl
theorem dX5_take_29 : decode cX5_take 29 = .ok (.getfield 9, 3) := getB' kX5_take 15 rfl
theorem dX5_take_32 : decode cX5_take 32 = .ok (.iconst 1, 1) := getB' kX5_take 16 rfl
theorem dX5_take_33 : decode cX5_take 33 = .ok (.iadd, 1) := getB' kX5_take 17 rfl
theorem dX5_take_34 : decode cX5_take 34 = .ok (.putfield 9, 3) := getB' kX5_take 18 rfl
theorem dX5_take_37 : decode cX5_take 37 = .ok (.return_, 1) := getB' kX5_take 19 rfl
def LX5_deepen : List (Nat × Instr × Nat) := [(0, .aload_n 0, 1), (1, .invokevirtual 61, 3), (4, .iload_n 1, 1), (5, .if_icmp .eq 15, 3), (8, .aload_n 0, 1), (9, .iconst 1, 1), (10, .aload_n 0, 1), (11, .getfield 9, 3), (14, .invokevirtual 57, 3), (17, .goto 34, 3), (20, .aload_n 0, 1), (21, .getfield 15, 3), (24, .bipush 8, 2), (26, .if_icmp .lt 15, 3), (29, .aload_n 0, 1), (30, .iconst 5, 1), (31, .aload_n 0, 1), (32, .getfield 9, 3), (35, .invokevirtual 57, 3), (38, .goto 13, 3), (41, .aload_n 0, 1), (42, .dup, 1), (43, .getfield 9, 3), (46, .iconst 1, 1), (47, .iadd, 1), (48, .putfield 9, 3), (51, .aload_n 0, 1), (52, .dup, 1), (53, .getfield 15, 3), (56, .iconst 1, 1), (57, .iadd, 1), (58, .putfield 15, 3), (61, .return_, 1)]
theorem kX5_deepen : chkB cX5_deepen LX5_deepen = true := by decide +kernel
theorem dX5_deepen_0 : decode cX5_deepen 0 = .ok (.aload_n 0, 1) := getB' kX5_deepen 0 rfl
theorem dX5_deepen_1 : decode cX5_deepen 1 = .ok (.invokevirtual 61, 3) := getB' kX5_deepen 1 rfl
theorem dX5_deepen_4 : decode cX5_deepen 4 = .ok (.iload_n 1, 1) := getB' kX5_deepen 2 rfl
theorem dX5_deepen_5 : decode cX5_deepen 5 = .ok (.if_icmp .eq 15, 3) := getB' kX5_deepen 3 rfl
theorem dX5_deepen_8 : decode cX5_deepen 8 = .ok (.aload_n 0, 1) := getB' kX5_deepen 4 rfl
theorem dX5_deepen_9 : decode cX5_deepen 9 = .ok (.iconst 1, 1) := getB' kX5_deepen 5 rfl
theorem dX5_deepen_10 : decode cX5_deepen 10 = .ok (.aload_n 0, 1) := getB' kX5_deepen 6 rfl
theorem dX5_deepen_11 : decode cX5_deepen 11 = .ok (.getfield 9, 3) := getB' kX5_deepen 7 rfl
theorem dX5_deepen_14 : decode cX5_deepen 14 = .ok (.invokevirtual 57, 3) := getB' kX5_deepen 8 rfl
theorem dX5_deepen_17 : decode cX5_deepen 17 = .ok (.goto 34, 3) := getB' kX5_deepen 9 rfl
theorem dX5_deepen_20 : decode cX5_deepen 20 = .ok (.aload_n 0, 1) := getB' kX5_deepen 10 rfl
theorem dX5_deepen_21 : decode cX5_deepen 21 = .ok (.getfield 15, 3) := getB' kX5_deepen 11 rfl
theorem dX5_deepen_24 : decode cX5_deepen 24 = .ok (.bipush 8, 2) := getB' kX5_deepen 12 rfl
theorem dX5_deepen_26 : decode cX5_deepen 26 = .ok (.if_icmp .lt 15, 3) := getB' kX5_deepen 13 rfl
theorem dX5_deepen_29 : decode cX5_deepen 29 = .ok (.aload_n 0, 1) := getB' kX5_deepen 14 rfl
theorem dX5_deepen_30 : decode cX5_deepen 30 = .ok (.iconst 5, 1) := getB' kX5_deepen 15 rfl
theorem dX5_deepen_31 : decode cX5_deepen 31 = .ok (.aload_n 0, 1) := getB' kX5_deepen 16 rfl
theorem dX5_deepen_32 : decode cX5_deepen 32 = .ok (.getfield 9, 3) := getB' kX5_deepen 17 rfl
theorem dX5_deepen_35 : decode cX5_deepen 35 = .ok (.invokevirtual 57, 3) := getB' kX5_deepen 18 rfl
theorem dX5_deepen_38 : decode cX5_deepen 38 = .ok (.goto 13, 3) := getB' kX5_deepen 19 rfl
theorem dX5_deepen_41 : decode cX5_deepen 41 = .ok (.aload_n 0, 1) := getB' kX5_deepen 20 rfl
theorem dX5_deepen_42 : decode cX5_deepen 42 = .ok (.dup, 1) := getB' kX5_deepen 21 rfl
theorem dX5_deepen_43 : decode cX5_deepen 43 = .ok (.getfield 9, 3) := getB' kX5_deepen 22 rfl
theorem dX5_deepen_46 : decode cX5_deepen 46 = .ok (.iconst 1, 1) := getB' kX5_deepen 23 rfl
theorem dX5_deepen_47 : decode cX5_deepen 47 = .ok (.iadd, 1) := getB' kX5_deepen 24 rfl
theorem dX5_deepen_48 : decode cX5_deepen 48 = .ok (.putfield 9, 3) := getB' kX5_deepen 25 rfl
theorem dX5_deepen_51 : decode cX5_deepen 51 = .ok (.aload_n 0, 1) := getB' kX5_deepen 26 rfl
theorem dX5_deepen_52 : decode cX5_deepen 52 = .ok (.dup, 1) := getB' kX5_deepen 27 rfl
theorem dX5_deepen_53 : decode cX5_deepen 53 = .ok (.getfield 15, 3) := getB' kX5_deepen 28 rfl
theorem dX5_deepen_56 : decode cX5_deepen 56 = .ok (.iconst 1, 1) := getB' kX5_deepen 29 rfl
theorem dX5_deepen_57 : decode cX5_deepen 57 = .ok (.iadd, 1) := getB' kX5_deepen 30 rfl
theorem dX5_deepen_58 : decode cX5_deepen 58 = .ok (.putfield 15, 3) := getB' kX5_deepen 31 rfl
theorem dX5_deepen_61 : decode cX5_deepen 61 = .ok (.return_, 1) := getB' kX5_deepen 32 rfl
def LX5_refuse : List (Nat × Instr × Nat) := [(0, .aload_n 0, 1), (1, .getfield 18, 3), (4, .ifCond .ne 13, 3), (7, .aload_n 0, 1), (8, .iload_n 1, 1), (9, .putfield 18, 3), (12, .aload_n 0, 1), (13, .iload_n 2, 1), (14, .putfield 21, 3), (17, .return_, 1)]
theorem kX5_refuse : chkB cX5_refuse LX5_refuse = true := by decide +kernel
theorem dX5_refuse_0 : decode cX5_refuse 0 = .ok (.aload_n 0, 1) := getB' kX5_refuse 0 rfl
theorem dX5_refuse_1 : decode cX5_refuse 1 = .ok (.getfield 18, 3) := getB' kX5_refuse 1 rfl
theorem dX5_refuse_4 : decode cX5_refuse 4 = .ok (.ifCond .ne 13, 3) := getB' kX5_refuse 2 rfl
theorem dX5_refuse_7 : decode cX5_refuse 7 = .ok (.aload_n 0, 1) := getB' kX5_refuse 3 rfl
theorem dX5_refuse_8 : decode cX5_refuse 8 = .ok (.iload_n 1, 1) := getB' kX5_refuse 4 rfl
theorem dX5_refuse_9 : decode cX5_refuse 9 = .ok (.putfield 18, 3) := getB' kX5_refuse 5 rfl
theorem dX5_refuse_12 : decode cX5_refuse 12 = .ok (.aload_n 0, 1) := getB' kX5_refuse 6 rfl
theorem dX5_refuse_13 : decode cX5_refuse 13 = .ok (.iload_n 2, 1) := getB' kX5_refuse 7 rfl
theorem dX5_refuse_14 : decode cX5_refuse 14 = .ok (.putfield 21, 3) := getB' kX5_refuse 8 rfl
theorem dX5_refuse_17 : decode cX5_refuse 17 = .ok (.return_, 1) := getB' kX5_refuse 9 rfl
def LX5_set : List (Nat × Instr × Nat) := [(0, .aload_n 0, 1), (1, .getfield 31, 3), (4, .getfield 42, 3), (7, .aload_n 0, 1), (8, .getfield 31, 3), (11, .getfield 42, 3), (14, .getfield 127, 3), (17, .iconst 1, 1), (18, .isub, 1), (19, .iload_n 1, 1), (20, .iload_n 2, 1), (21, .invokevirtual 130, 3), (24, .return_, 1)]
theorem kX5_set : chkB cX5_set LX5_set = true := by decide +kernel
theorem dX5_set_0 : decode cX5_set 0 = .ok (.aload_n 0, 1) := getB' kX5_set 0 rfl
theorem dX5_set_1 : decode cX5_set 1 = .ok (.getfield 31, 3) := getB' kX5_set 1 rfl
theorem dX5_set_4 : decode cX5_set 4 = .ok (.getfield 42, 3) := getB' kX5_set 2 rfl
theorem dX5_set_7 : decode cX5_set 7 = .ok (.aload_n 0, 1) := getB' kX5_set 3 rfl
theorem dX5_set_8 : decode cX5_set 8 = .ok (.getfield 31, 3) := getB' kX5_set 4 rfl
theorem dX5_set_11 : decode cX5_set 11 = .ok (.getfield 42, 3) := getB' kX5_set 5 rfl
theorem dX5_set_14 : decode cX5_set 14 = .ok (.getfield 127, 3) := getB' kX5_set 6 rfl
theorem dX5_set_17 : decode cX5_set 17 = .ok (.iconst 1, 1) := getB' kX5_set 7 rfl
theorem dX5_set_18 : decode cX5_set 18 = .ok (.isub, 1) := getB' kX5_set 8 rfl
theorem dX5_set_19 : decode cX5_set 19 = .ok (.iload_n 1, 1) := getB' kX5_set 9 rfl
theorem dX5_set_20 : decode cX5_set 20 = .ok (.iload_n 2, 1) := getB' kX5_set 10 rfl
theorem dX5_set_21 : decode cX5_set 21 = .ok (.invokevirtual 130, 3) := getB' kX5_set 11 rfl
theorem dX5_set_24 : decode cX5_set 24 = .ok (.return_, 1) := getB' kX5_set 12 rfl
def LX6_forget : List (Nat × Instr × Nat) := [(0, .aload_n 0, 1), (1, .iconst (-1), 1), (2, .putfield 42, 3), (5, .return_, 1)]
theorem kX6_forget : chkB cX6_forget LX6_forget = true := by decide +kernel
theorem dX6_forget_0 : decode cX6_forget 0 = .ok (.aload_n 0, 1) := getB' kX6_forget 0 rfl
theorem dX6_forget_1 : decode cX6_forget 1 = .ok (.iconst (-1), 1) := getB' kX6_forget 1 rfl
theorem dX6_forget_2 : decode cX6_forget 2 = .ok (.putfield 42, 3) := getB' kX6_forget 2 rfl
theorem dX6_forget_5 : decode cX6_forget 5 = .ok (.return_, 1) := getB' kX6_forget 3 rfl
def LX6_hasStation : List (Nat × Instr × Nat) := [(0, .iconst 0, 1), (1, .istore_n 2, 1), (2, .iload_n 2, 1), (3, .aload_n 0, 1), (4, .getfield 14, 3), (7, .getfield 55, 3), (10, .if_icmp .ge 24, 3), (13, .aload_n 0, 1), (14, .getfield 14, 3), (17, .iload_n 2, 1), (18, .iconst 0, 1), (19, .invokevirtual 58, 3), (22, .iload_n 1, 1), (23, .if_icmp .ne 5, 3), (26, .iconst 1, 1), (27, .ireturn, 1), (28, .iinc 2 1, 3), (31, .goto (-29), 3), (34, .iconst 0, 1), (35, .ireturn, 1)]
theorem kX6_hasStation : chkB cX6_hasStation LX6_hasStation = true := by decide +kernel
theorem dX6_hasStation_0 : decode cX6_hasStation 0 = .ok (.iconst 0, 1) := getB' kX6_hasStation 0 rfl
theorem dX6_hasStation_1 : decode cX6_hasStation 1 = .ok (.istore_n 2, 1) := getB' kX6_hasStation 1 rfl
theorem dX6_hasStation_2 : decode cX6_hasStation 2 = .ok (.iload_n 2, 1) := getB' kX6_hasStation 2 rfl
theorem dX6_hasStation_3 : decode cX6_hasStation 3 = .ok (.aload_n 0, 1) := getB' kX6_hasStation 3 rfl
theorem dX6_hasStation_4 : decode cX6_hasStation 4 = .ok (.getfield 14, 3) := getB' kX6_hasStation 4 rfl
theorem dX6_hasStation_7 : decode cX6_hasStation 7 = .ok (.getfield 55, 3) := getB' kX6_hasStation 5 rfl
theorem dX6_hasStation_10 : decode cX6_hasStation 10 = .ok (.if_icmp .ge 24, 3) := getB' kX6_hasStation 6 rfl
theorem dX6_hasStation_13 : decode cX6_hasStation 13 = .ok (.aload_n 0, 1) := getB' kX6_hasStation 7 rfl
theorem dX6_hasStation_14 : decode cX6_hasStation 14 = .ok (.getfield 14, 3) := getB' kX6_hasStation 8 rfl
theorem dX6_hasStation_17 : decode cX6_hasStation 17 = .ok (.iload_n 2, 1) := getB' kX6_hasStation 9 rfl
theorem dX6_hasStation_18 : decode cX6_hasStation 18 = .ok (.iconst 0, 1) := getB' kX6_hasStation 10 rfl
theorem dX6_hasStation_19 : decode cX6_hasStation 19 = .ok (.invokevirtual 58, 3) := getB' kX6_hasStation 11 rfl
theorem dX6_hasStation_22 : decode cX6_hasStation 22 = .ok (.iload_n 1, 1) := getB' kX6_hasStation 12 rfl
theorem dX6_hasStation_23 : decode cX6_hasStation 23 = .ok (.if_icmp .ne 5, 3) := getB' kX6_hasStation 13 rfl
theorem dX6_hasStation_26 : decode cX6_hasStation 26 = .ok (.iconst 1, 1) := getB' kX6_hasStation 14 rfl
theorem dX6_hasStation_27 : decode cX6_hasStation 27 = .ok (.ireturn, 1) := getB' kX6_hasStation 15 rfl
theorem dX6_hasStation_28 : decode cX6_hasStation 28 = .ok (.iinc 2 1, 3) := getB' kX6_hasStation 16 rfl
theorem dX6_hasStation_31 : decode cX6_hasStation 31 = .ok (.goto (-29), 3) := getB' kX6_hasStation 17 rfl
theorem dX6_hasStation_34 : decode cX6_hasStation 34 = .ok (.iconst 0, 1) := getB' kX6_hasStation 18 rfl
theorem dX6_hasStation_35 : decode cX6_hasStation 35 = .ok (.ireturn, 1) := getB' kX6_hasStation 19 rfl
def LX6_needs : List (Nat × Instr × Nat) := [(0, .iconst 0, 1), (1, .istore_n 1, 1), (2, .iconst 0, 1), (3, .istore_n 2, 1), (4, .iload_n 2, 1), (5, .aload_n 0, 1), (6, .getfield 14, 3), (9, .getfield 55, 3), (12, .if_icmp .ge 21, 3), (15, .iload_n 1, 1), (16, .aload_n 0, 1), (17, .getfield 14, 3), (20, .iload_n 2, 1), (21, .iconst 1, 1), (22, .invokevirtual 58, 3), (25, .iadd, 1), (26, .istore_n 1, 1), (27, .iinc 2 1, 3), (30, .goto (-26), 3), (33, .iload_n 1, 1), (34, .ireturn, 1)]
theorem kX6_needs : chkB cX6_needs LX6_needs = true := by decide +kernel
theorem dX6_needs_0 : decode cX6_needs 0 = .ok (.iconst 0, 1) := getB' kX6_needs 0 rfl
theorem dX6_needs_1 : decode cX6_needs 1 = .ok (.istore_n 1, 1) := getB' kX6_needs 1 rfl
theorem dX6_needs_2 : decode cX6_needs 2 = .ok (.iconst 0, 1) := getB' kX6_needs 2 rfl
theorem dX6_needs_3 : decode cX6_needs 3 = .ok (.istore_n 2, 1) := getB' kX6_needs 3 rfl
theorem dX6_needs_4 : decode cX6_needs 4 = .ok (.iload_n 2, 1) := getB' kX6_needs 4 rfl
theorem dX6_needs_5 : decode cX6_needs 5 = .ok (.aload_n 0, 1) := getB' kX6_needs 5 rfl
theorem dX6_needs_6 : decode cX6_needs 6 = .ok (.getfield 14, 3) := getB' kX6_needs 6 rfl
theorem dX6_needs_9 : decode cX6_needs 9 = .ok (.getfield 55, 3) := getB' kX6_needs 7 rfl
theorem dX6_needs_12 : decode cX6_needs 12 = .ok (.if_icmp .ge 21, 3) := getB' kX6_needs 8 rfl
theorem dX6_needs_15 : decode cX6_needs 15 = .ok (.iload_n 1, 1) := getB' kX6_needs 9 rfl
theorem dX6_needs_16 : decode cX6_needs 16 = .ok (.aload_n 0, 1) := getB' kX6_needs 10 rfl
theorem dX6_needs_17 : decode cX6_needs 17 = .ok (.getfield 14, 3) := getB' kX6_needs 11 rfl
theorem dX6_needs_20 : decode cX6_needs 20 = .ok (.iload_n 2, 1) := getB' kX6_needs 12 rfl
theorem dX6_needs_21 : decode cX6_needs 21 = .ok (.iconst 1, 1) := getB' kX6_needs 13 rfl
theorem dX6_needs_22 : decode cX6_needs 22 = .ok (.invokevirtual 58, 3) := getB' kX6_needs 14 rfl
theorem dX6_needs_25 : decode cX6_needs 25 = .ok (.iadd, 1) := getB' kX6_needs 15 rfl
theorem dX6_needs_26 : decode cX6_needs 26 = .ok (.istore_n 1, 1) := getB' kX6_needs 16 rfl
theorem dX6_needs_27 : decode cX6_needs 27 = .ok (.iinc 2 1, 3) := getB' kX6_needs 17 rfl
theorem dX6_needs_30 : decode cX6_needs 30 = .ok (.goto (-26), 3) := getB' kX6_needs 18 rfl
theorem dX6_needs_33 : decode cX6_needs 33 = .ok (.iload_n 1, 1) := getB' kX6_needs 19 rfl
theorem dX6_needs_34 : decode cX6_needs 34 = .ok (.ireturn, 1) := getB' kX6_needs 20 rfl
def LX6_seek : List (Nat × Instr × Nat) := [(0, .aload_n 0, 1), (1, .iload_n 1, 1), (2, .putfield 42, 3), (5, .aload_n 0, 1), (6, .iconst (-1), 1), (7, .putfield 46, 3), (10, .aload_n 0, 1), (11, .invokevirtual 62, 3), (14, .aload_n 0, 1), (15, .iconst 0, 1), (16, .iconst 0, 1), (17, .invokevirtual 65, 3), (20, .return_, 1)]
theorem kX6_seek : chkB cX6_seek LX6_seek = true := by decide +kernel
theorem dX6_seek_0 : decode cX6_seek 0 = .ok (.aload_n 0, 1) := getB' kX6_seek 0 rfl
theorem dX6_seek_1 : decode cX6_seek 1 = .ok (.iload_n 1, 1) := getB' kX6_seek 1 rfl
theorem dX6_seek_2 : decode cX6_seek 2 = .ok (.putfield 42, 3) := getB' kX6_seek 2 rfl
theorem dX6_seek_5 : decode cX6_seek 5 = .ok (.aload_n 0, 1) := getB' kX6_seek 3 rfl
theorem dX6_seek_6 : decode cX6_seek 6 = .ok (.iconst (-1), 1) := getB' kX6_seek 4 rfl
theorem dX6_seek_7 : decode cX6_seek 7 = .ok (.putfield 46, 3) := getB' kX6_seek 5 rfl
theorem dX6_seek_10 : decode cX6_seek 10 = .ok (.aload_n 0, 1) := getB' kX6_seek 6 rfl
theorem dX6_seek_11 : decode cX6_seek 11 = .ok (.invokevirtual 62, 3) := getB' kX6_seek 7 rfl
theorem dX6_seek_14 : decode cX6_seek 14 = .ok (.aload_n 0, 1) := getB' kX6_seek 8 rfl
theorem dX6_seek_15 : decode cX6_seek 15 = .ok (.iconst 0, 1) := getB' kX6_seek 9 rfl
theorem dX6_seek_16 : decode cX6_seek 16 = .ok (.iconst 0, 1) := getB' kX6_seek 10 rfl
theorem dX6_seek_17 : decode cX6_seek 17 = .ok (.invokevirtual 65, 3) := getB' kX6_seek 11 rfl
theorem dX6_seek_20 : decode cX6_seek 20 = .ok (.return_, 1) := getB' kX6_seek 12 rfl
def LX6_lookAhead : List (Nat × Instr × Nat) := [(0, .iconst 1, 1), (1, .istore_n 1, 1), (2, .iload_n 1, 1), (3, .iconst 1, 1), (4, .aload_n 0, 1), (5, .getfield 14, 3), (8, .getfield 55, 3), (11, .ishl, 1), (12, .if_icmp .ge 47, 3), (15, .iconst 0, 1), (16, .istore_n 2, 1), (17, .iload_n 2, 1), (18, .aload_n 0, 1), (19, .getfield 14, 3), (22, .getfield 55, 3), (25, .if_icmp .ge 28, 3), (28, .aload_n 0, 1), (29, .getfield 36, 3), (32, .iload_n 1, 1), (33, .bipush 8, 2), (35, .imul, 1), (36, .iload_n 2, 1), (37, .iadd, 1), (38, .aload_n 0, 1), (39, .iload_n 1, 1), (40, .iload_n 2, 1), (41, .invokevirtual 68, 3), (44, .invokestatic 71, 3), (47, .iinc 2 1, 3), (50, .goto (-33), 3), (53, .iinc 1 1, 3), (56, .goto (-54), 3), (59, .return_, 1)]
theorem kX6_lookAhead : chkB cX6_lookAhead LX6_lookAhead = true := by decide +kernel
theorem dX6_lookAhead_0 : decode cX6_lookAhead 0 = .ok (.iconst 1, 1) := getB' kX6_lookAhead 0 rfl
theorem dX6_lookAhead_1 : decode cX6_lookAhead 1 = .ok (.istore_n 1, 1) := getB' kX6_lookAhead 1 rfl
theorem dX6_lookAhead_2 : decode cX6_lookAhead 2 = .ok (.iload_n 1, 1) := getB' kX6_lookAhead 2 rfl
theorem dX6_lookAhead_3 : decode cX6_lookAhead 3 = .ok (.iconst 1, 1) := getB' kX6_lookAhead 3 rfl
theorem dX6_lookAhead_4 : decode cX6_lookAhead 4 = .ok (.aload_n 0, 1) := getB' kX6_lookAhead 4 rfl
theorem dX6_lookAhead_5 : decode cX6_lookAhead 5 = .ok (.getfield 14, 3) := getB' kX6_lookAhead 5 rfl
theorem dX6_lookAhead_8 : decode cX6_lookAhead 8 = .ok (.getfield 55, 3) := getB' kX6_lookAhead 6 rfl
theorem dX6_lookAhead_11 : decode cX6_lookAhead 11 = .ok (.ishl, 1) := getB' kX6_lookAhead 7 rfl
theorem dX6_lookAhead_12 : decode cX6_lookAhead 12 = .ok (.if_icmp .ge 47, 3) := getB' kX6_lookAhead 8 rfl
theorem dX6_lookAhead_15 : decode cX6_lookAhead 15 = .ok (.iconst 0, 1) := getB' kX6_lookAhead 9 rfl
theorem dX6_lookAhead_16 : decode cX6_lookAhead 16 = .ok (.istore_n 2, 1) := getB' kX6_lookAhead 10 rfl
theorem dX6_lookAhead_17 : decode cX6_lookAhead 17 = .ok (.iload_n 2, 1) := getB' kX6_lookAhead 11 rfl
theorem dX6_lookAhead_18 : decode cX6_lookAhead 18 = .ok (.aload_n 0, 1) := getB' kX6_lookAhead 12 rfl
theorem dX6_lookAhead_19 : decode cX6_lookAhead 19 = .ok (.getfield 14, 3) := getB' kX6_lookAhead 13 rfl
theorem dX6_lookAhead_22 : decode cX6_lookAhead 22 = .ok (.getfield 55, 3) := getB' kX6_lookAhead 14 rfl
theorem dX6_lookAhead_25 : decode cX6_lookAhead 25 = .ok (.if_icmp .ge 28, 3) := getB' kX6_lookAhead 15 rfl
theorem dX6_lookAhead_28 : decode cX6_lookAhead 28 = .ok (.aload_n 0, 1) := getB' kX6_lookAhead 16 rfl
theorem dX6_lookAhead_29 : decode cX6_lookAhead 29 = .ok (.getfield 36, 3) := getB' kX6_lookAhead 17 rfl
theorem dX6_lookAhead_32 : decode cX6_lookAhead 32 = .ok (.iload_n 1, 1) := getB' kX6_lookAhead 18 rfl
theorem dX6_lookAhead_33 : decode cX6_lookAhead 33 = .ok (.bipush 8, 2) := getB' kX6_lookAhead 19 rfl
theorem dX6_lookAhead_35 : decode cX6_lookAhead 35 = .ok (.imul, 1) := getB' kX6_lookAhead 20 rfl
theorem dX6_lookAhead_36 : decode cX6_lookAhead 36 = .ok (.iload_n 2, 1) := getB' kX6_lookAhead 21 rfl
theorem dX6_lookAhead_37 : decode cX6_lookAhead 37 = .ok (.iadd, 1) := getB' kX6_lookAhead 22 rfl
theorem dX6_lookAhead_38 : decode cX6_lookAhead 38 = .ok (.aload_n 0, 1) := getB' kX6_lookAhead 23 rfl
theorem dX6_lookAhead_39 : decode cX6_lookAhead 39 = .ok (.iload_n 1, 1) := getB' kX6_lookAhead 24 rfl
theorem dX6_lookAhead_40 : decode cX6_lookAhead 40 = .ok (.iload_n 2, 1) := getB' kX6_lookAhead 25 rfl
theorem dX6_lookAhead_41 : decode cX6_lookAhead 41 = .ok (.invokevirtual 68, 3) := getB' kX6_lookAhead 26 rfl
theorem dX6_lookAhead_44 : decode cX6_lookAhead 44 = .ok (.invokestatic 71, 3) := getB' kX6_lookAhead 27 rfl
theorem dX6_lookAhead_47 : decode cX6_lookAhead 47 = .ok (.iinc 2 1, 3) := getB' kX6_lookAhead 28 rfl
theorem dX6_lookAhead_50 : decode cX6_lookAhead 50 = .ok (.goto (-33), 3) := getB' kX6_lookAhead 29 rfl
theorem dX6_lookAhead_53 : decode cX6_lookAhead 53 = .ok (.iinc 1 1, 3) := getB' kX6_lookAhead 30 rfl
theorem dX6_lookAhead_56 : decode cX6_lookAhead 56 = .ok (.goto (-54), 3) := getB' kX6_lookAhead 31 rfl
theorem dX6_lookAhead_59 : decode cX6_lookAhead 59 = .ok (.return_, 1) := getB' kX6_lookAhead 32 rfl
def LX6_leastAhead : List (Nat × Instr × Nat) := [(0, .iconst (-1), 1), (1, .istore_n 3, 1), (2, .iconst 0, 1), (3, .istore 4, 2), (5, .iload 4, 2), (7, .aload_n 0, 1), (8, .getfield 14, 3), (11, .getfield 55, 3), (14, .if_icmp .ge 76, 3), (17, .iload_n 1, 1), (18, .iload 4, 2), (20, .ishr, 1), (21, .iconst 1, 1), (22, .iand, 1), (23, .ifCond .ne 6, 3), (26, .goto 58, 3), (29, .aload_n 0, 1), (30, .getfield 27, 3), (33, .iload_n 2, 1), (34, .bipush 8, 2), (36, .imul, 1), (37, .iload 4, 2), (39, .iadd, 1), (40, .invokestatic 75, 3), (43, .aload_n 0, 1), (44, .getfield 36, 3), (47, .iload_n 1, 1), (48, .iconst 1, 1), (49, .iload 4, 2), (51, .ishl, 1), (52, .iconst (-1), 1), (53, .ixor, 1), (54, .iand, 1), (55, .bipush 8, 2), (57, .imul, 1), (58, .iload 4, 2), (60, .iadd, 1), (61, .invokestatic 75, 3), (64, .iadd, 1), (65, .istore 5, 2), (67, .iload_n 3, 1), (68, .iconst (-1), 1), (69, .if_icmp .ne 8, 3), (72, .iload 5, 2), (74, .goto 9, 3), (77, .iload_n 3, 1), (78, .iload 5, 2), (80, .invokestatic 78, 3), (83, .istore_n 3, 1), (84, .iinc 4 1, 3), (87, .goto (-82), 3), (90, .iconst 0, 1), (91, .iload_n 3, 1), (92, .invokestatic 83, 3), (95, .ireturn, 1)]
theorem kX6_leastAhead : chkB cX6_leastAhead LX6_leastAhead = true := by decide +kernel
theorem dX6_leastAhead_0 : decode cX6_leastAhead 0 = .ok (.iconst (-1), 1) := getB' kX6_leastAhead 0 rfl
theorem dX6_leastAhead_1 : decode cX6_leastAhead 1 = .ok (.istore_n 3, 1) := getB' kX6_leastAhead 1 rfl
theorem dX6_leastAhead_2 : decode cX6_leastAhead 2 = .ok (.iconst 0, 1) := getB' kX6_leastAhead 2 rfl
theorem dX6_leastAhead_3 : decode cX6_leastAhead 3 = .ok (.istore 4, 2) := getB' kX6_leastAhead 3 rfl
theorem dX6_leastAhead_5 : decode cX6_leastAhead 5 = .ok (.iload 4, 2) := getB' kX6_leastAhead 4 rfl
theorem dX6_leastAhead_7 : decode cX6_leastAhead 7 = .ok (.aload_n 0, 1) := getB' kX6_leastAhead 5 rfl
theorem dX6_leastAhead_8 : decode cX6_leastAhead 8 = .ok (.getfield 14, 3) := getB' kX6_leastAhead 6 rfl
theorem dX6_leastAhead_11 : decode cX6_leastAhead 11 = .ok (.getfield 55, 3) := getB' kX6_leastAhead 7 rfl
theorem dX6_leastAhead_14 : decode cX6_leastAhead 14 = .ok (.if_icmp .ge 76, 3) := getB' kX6_leastAhead 8 rfl
theorem dX6_leastAhead_17 : decode cX6_leastAhead 17 = .ok (.iload_n 1, 1) := getB' kX6_leastAhead 9 rfl
theorem dX6_leastAhead_18 : decode cX6_leastAhead 18 = .ok (.iload 4, 2) := getB' kX6_leastAhead 10 rfl
theorem dX6_leastAhead_20 : decode cX6_leastAhead 20 = .ok (.ishr, 1) := getB' kX6_leastAhead 11 rfl
theorem dX6_leastAhead_21 : decode cX6_leastAhead 21 = .ok (.iconst 1, 1) := getB' kX6_leastAhead 12 rfl
theorem dX6_leastAhead_22 : decode cX6_leastAhead 22 = .ok (.iand, 1) := getB' kX6_leastAhead 13 rfl
theorem dX6_leastAhead_23 : decode cX6_leastAhead 23 = .ok (.ifCond .ne 6, 3) := getB' kX6_leastAhead 14 rfl
theorem dX6_leastAhead_26 : decode cX6_leastAhead 26 = .ok (.goto 58, 3) := getB' kX6_leastAhead 15 rfl
theorem dX6_leastAhead_29 : decode cX6_leastAhead 29 = .ok (.aload_n 0, 1) := getB' kX6_leastAhead 16 rfl
theorem dX6_leastAhead_30 : decode cX6_leastAhead 30 = .ok (.getfield 27, 3) := getB' kX6_leastAhead 17 rfl
theorem dX6_leastAhead_33 : decode cX6_leastAhead 33 = .ok (.iload_n 2, 1) := getB' kX6_leastAhead 18 rfl
theorem dX6_leastAhead_34 : decode cX6_leastAhead 34 = .ok (.bipush 8, 2) := getB' kX6_leastAhead 19 rfl
theorem dX6_leastAhead_36 : decode cX6_leastAhead 36 = .ok (.imul, 1) := getB' kX6_leastAhead 20 rfl
theorem dX6_leastAhead_37 : decode cX6_leastAhead 37 = .ok (.iload 4, 2) := getB' kX6_leastAhead 21 rfl
theorem dX6_leastAhead_39 : decode cX6_leastAhead 39 = .ok (.iadd, 1) := getB' kX6_leastAhead 22 rfl
theorem dX6_leastAhead_40 : decode cX6_leastAhead 40 = .ok (.invokestatic 75, 3) := getB' kX6_leastAhead 23 rfl
theorem dX6_leastAhead_43 : decode cX6_leastAhead 43 = .ok (.aload_n 0, 1) := getB' kX6_leastAhead 24 rfl
theorem dX6_leastAhead_44 : decode cX6_leastAhead 44 = .ok (.getfield 36, 3) := getB' kX6_leastAhead 25 rfl
theorem dX6_leastAhead_47 : decode cX6_leastAhead 47 = .ok (.iload_n 1, 1) := getB' kX6_leastAhead 26 rfl
theorem dX6_leastAhead_48 : decode cX6_leastAhead 48 = .ok (.iconst 1, 1) := getB' kX6_leastAhead 27 rfl
theorem dX6_leastAhead_49 : decode cX6_leastAhead 49 = .ok (.iload 4, 2) := getB' kX6_leastAhead 28 rfl
theorem dX6_leastAhead_51 : decode cX6_leastAhead 51 = .ok (.ishl, 1) := getB' kX6_leastAhead 29 rfl
theorem dX6_leastAhead_52 : decode cX6_leastAhead 52 = .ok (.iconst (-1), 1) := getB' kX6_leastAhead 30 rfl
theorem dX6_leastAhead_53 : decode cX6_leastAhead 53 = .ok (.ixor, 1) := getB' kX6_leastAhead 31 rfl
theorem dX6_leastAhead_54 : decode cX6_leastAhead 54 = .ok (.iand, 1) := getB' kX6_leastAhead 32 rfl
theorem dX6_leastAhead_55 : decode cX6_leastAhead 55 = .ok (.bipush 8, 2) := getB' kX6_leastAhead 33 rfl
theorem dX6_leastAhead_57 : decode cX6_leastAhead 57 = .ok (.imul, 1) := getB' kX6_leastAhead 34 rfl
theorem dX6_leastAhead_58 : decode cX6_leastAhead 58 = .ok (.iload 4, 2) := getB' kX6_leastAhead 35 rfl
theorem dX6_leastAhead_60 : decode cX6_leastAhead 60 = .ok (.iadd, 1) := getB' kX6_leastAhead 36 rfl
theorem dX6_leastAhead_61 : decode cX6_leastAhead 61 = .ok (.invokestatic 75, 3) := getB' kX6_leastAhead 37 rfl
theorem dX6_leastAhead_64 : decode cX6_leastAhead 64 = .ok (.iadd, 1) := getB' kX6_leastAhead 38 rfl
theorem dX6_leastAhead_65 : decode cX6_leastAhead 65 = .ok (.istore 5, 2) := getB' kX6_leastAhead 39 rfl
theorem dX6_leastAhead_67 : decode cX6_leastAhead 67 = .ok (.iload_n 3, 1) := getB' kX6_leastAhead 40 rfl
theorem dX6_leastAhead_68 : decode cX6_leastAhead 68 = .ok (.iconst (-1), 1) := getB' kX6_leastAhead 41 rfl
theorem dX6_leastAhead_69 : decode cX6_leastAhead 69 = .ok (.if_icmp .ne 8, 3) := getB' kX6_leastAhead 42 rfl
theorem dX6_leastAhead_72 : decode cX6_leastAhead 72 = .ok (.iload 5, 2) := getB' kX6_leastAhead 43 rfl
theorem dX6_leastAhead_74 : decode cX6_leastAhead 74 = .ok (.goto 9, 3) := getB' kX6_leastAhead 44 rfl
theorem dX6_leastAhead_77 : decode cX6_leastAhead 77 = .ok (.iload_n 3, 1) := getB' kX6_leastAhead 45 rfl
theorem dX6_leastAhead_78 : decode cX6_leastAhead 78 = .ok (.iload 5, 2) := getB' kX6_leastAhead 46 rfl
theorem dX6_leastAhead_80 : decode cX6_leastAhead 80 = .ok (.invokestatic 78, 3) := getB' kX6_leastAhead 47 rfl
theorem dX6_leastAhead_83 : decode cX6_leastAhead 83 = .ok (.istore_n 3, 1) := getB' kX6_leastAhead 48 rfl
theorem dX6_leastAhead_84 : decode cX6_leastAhead 84 = .ok (.iinc 4 1, 3) := getB' kX6_leastAhead 49 rfl
theorem dX6_leastAhead_87 : decode cX6_leastAhead 87 = .ok (.goto (-82), 3) := getB' kX6_leastAhead 50 rfl
theorem dX6_leastAhead_90 : decode cX6_leastAhead 90 = .ok (.iconst 0, 1) := getB' kX6_leastAhead 51 rfl
theorem dX6_leastAhead_91 : decode cX6_leastAhead 91 = .ok (.iload_n 3, 1) := getB' kX6_leastAhead 52 rfl
theorem dX6_leastAhead_92 : decode cX6_leastAhead 92 = .ok (.invokestatic 83, 3) := getB' kX6_leastAhead 53 rfl
theorem dX6_leastAhead_95 : decode cX6_leastAhead 95 = .ok (.ireturn, 1) := getB' kX6_leastAhead 54 rfl
def LX6_extend : List (Nat × Instr × Nat) := [(0, .iconst 0, 1), (1, .istore_n 3, 1), (2, .iload_n 3, 1), (3, .aload_n 0, 1), (4, .getfield 14, 3), (7, .getfield 55, 3), (10, .if_icmp .ge 52, 3), (13, .iload_n 2, 1), (14, .iload_n 3, 1), (15, .ishr, 1), (16, .iconst 1, 1), (17, .iand, 1), (18, .ifCond .ne 38, 3), (21, .aload_n 0, 1), (22, .iload_n 1, 1), (23, .iload_n 3, 1), (24, .iload_n 2, 1), (25, .iconst 1, 1), (26, .iload_n 3, 1), (27, .ishl, 1), (28, .ior, 1), (29, .invokevirtual 86, 3), (32, .ifCond .eq 24, 3), (35, .aload_n 0, 1), (36, .getfield 33, 3), (39, .iload_n 1, 1), (40, .iload_n 3, 1), (41, .invokestatic 71, 3), (44, .aload_n 0, 1), (45, .iload_n 1, 1), (46, .iconst 1, 1), (47, .iadd, 1), (48, .iload_n 2, 1), (49, .iconst 1, 1), (50, .iload_n 3, 1), (51, .ishl, 1), (52, .ior, 1), (53, .invokevirtual 90, 3), (56, .iinc 3 1, 3), (59, .goto (-57), 3), (62, .return_, 1)]
theorem kX6_extend : chkB cX6_extend LX6_extend = true := by decide +kernel
theorem dX6_extend_0 : decode cX6_extend 0 = .ok (.iconst 0, 1) := getB' kX6_extend 0 rfl
theorem dX6_extend_1 : decode cX6_extend 1 = .ok (.istore_n 3, 1) := getB' kX6_extend 1 rfl
theorem dX6_extend_2 : decode cX6_extend 2 = .ok (.iload_n 3, 1) := getB' kX6_extend 2 rfl
theorem dX6_extend_3 : decode cX6_extend 3 = .ok (.aload_n 0, 1) := getB' kX6_extend 3 rfl
theorem dX6_extend_4 : decode cX6_extend 4 = .ok (.getfield 14, 3) := getB' kX6_extend 4 rfl
theorem dX6_extend_7 : decode cX6_extend 7 = .ok (.getfield 55, 3) := getB' kX6_extend 5 rfl
theorem dX6_extend_10 : decode cX6_extend 10 = .ok (.if_icmp .ge 52, 3) := getB' kX6_extend 6 rfl
theorem dX6_extend_13 : decode cX6_extend 13 = .ok (.iload_n 2, 1) := getB' kX6_extend 7 rfl
theorem dX6_extend_14 : decode cX6_extend 14 = .ok (.iload_n 3, 1) := getB' kX6_extend 8 rfl
theorem dX6_extend_15 : decode cX6_extend 15 = .ok (.ishr, 1) := getB' kX6_extend 9 rfl
theorem dX6_extend_16 : decode cX6_extend 16 = .ok (.iconst 1, 1) := getB' kX6_extend 10 rfl
theorem dX6_extend_17 : decode cX6_extend 17 = .ok (.iand, 1) := getB' kX6_extend 11 rfl
theorem dX6_extend_18 : decode cX6_extend 18 = .ok (.ifCond .ne 38, 3) := getB' kX6_extend 12 rfl
theorem dX6_extend_21 : decode cX6_extend 21 = .ok (.aload_n 0, 1) := getB' kX6_extend 13 rfl
theorem dX6_extend_22 : decode cX6_extend 22 = .ok (.iload_n 1, 1) := getB' kX6_extend 14 rfl
theorem dX6_extend_23 : decode cX6_extend 23 = .ok (.iload_n 3, 1) := getB' kX6_extend 15 rfl
theorem dX6_extend_24 : decode cX6_extend 24 = .ok (.iload_n 2, 1) := getB' kX6_extend 16 rfl
theorem dX6_extend_25 : decode cX6_extend 25 = .ok (.iconst 1, 1) := getB' kX6_extend 17 rfl
theorem dX6_extend_26 : decode cX6_extend 26 = .ok (.iload_n 3, 1) := getB' kX6_extend 18 rfl
theorem dX6_extend_27 : decode cX6_extend 27 = .ok (.ishl, 1) := getB' kX6_extend 19 rfl
theorem dX6_extend_28 : decode cX6_extend 28 = .ok (.ior, 1) := getB' kX6_extend 20 rfl
theorem dX6_extend_29 : decode cX6_extend 29 = .ok (.invokevirtual 86, 3) := getB' kX6_extend 21 rfl
theorem dX6_extend_32 : decode cX6_extend 32 = .ok (.ifCond .eq 24, 3) := getB' kX6_extend 22 rfl
theorem dX6_extend_35 : decode cX6_extend 35 = .ok (.aload_n 0, 1) := getB' kX6_extend 23 rfl
theorem dX6_extend_36 : decode cX6_extend 36 = .ok (.getfield 33, 3) := getB' kX6_extend 24 rfl
theorem dX6_extend_39 : decode cX6_extend 39 = .ok (.iload_n 1, 1) := getB' kX6_extend 25 rfl
theorem dX6_extend_40 : decode cX6_extend 40 = .ok (.iload_n 3, 1) := getB' kX6_extend 26 rfl
theorem dX6_extend_41 : decode cX6_extend 41 = .ok (.invokestatic 71, 3) := getB' kX6_extend 27 rfl
theorem dX6_extend_44 : decode cX6_extend 44 = .ok (.aload_n 0, 1) := getB' kX6_extend 28 rfl
theorem dX6_extend_45 : decode cX6_extend 45 = .ok (.iload_n 1, 1) := getB' kX6_extend 29 rfl
theorem dX6_extend_46 : decode cX6_extend 46 = .ok (.iconst 1, 1) := getB' kX6_extend 30 rfl
theorem dX6_extend_47 : decode cX6_extend 47 = .ok (.iadd, 1) := getB' kX6_extend 31 rfl
theorem dX6_extend_48 : decode cX6_extend 48 = .ok (.iload_n 2, 1) := getB' kX6_extend 32 rfl
theorem dX6_extend_49 : decode cX6_extend 49 = .ok (.iconst 1, 1) := getB' kX6_extend 33 rfl
theorem dX6_extend_50 : decode cX6_extend 50 = .ok (.iload_n 3, 1) := getB' kX6_extend 34 rfl
theorem dX6_extend_51 : decode cX6_extend 51 = .ok (.ishl, 1) := getB' kX6_extend 35 rfl
theorem dX6_extend_52 : decode cX6_extend 52 = .ok (.ior, 1) := getB' kX6_extend 36 rfl
theorem dX6_extend_53 : decode cX6_extend 53 = .ok (.invokevirtual 90, 3) := getB' kX6_extend 37 rfl
theorem dX6_extend_56 : decode cX6_extend 56 = .ok (.iinc 3 1, 3) := getB' kX6_extend 38 rfl
theorem dX6_extend_59 : decode cX6_extend 59 = .ok (.goto (-57), 3) := getB' kX6_extend 39 rfl
theorem dX6_extend_62 : decode cX6_extend 62 = .ok (.return_, 1) := getB' kX6_extend 40 rfl
def LX6_goOn : List (Nat × Instr × Nat) := [(0, .iload_n 1, 1), (1, .aload_n 0, 1), (2, .getfield 14, 3), (5, .getfield 55, 3), (8, .if_icmp .ge 12, 3), (11, .aload_n 0, 1), (12, .iload_n 1, 1), (13, .iload_n 2, 1), (14, .invokevirtual 65, 3), (17, .goto 7, 3), (20, .aload_n 0, 1), (21, .invokevirtual 93, 3), (24, .return_, 1)]
theorem kX6_goOn : chkB cX6_goOn LX6_goOn = true := by decide +kernel
theorem dX6_goOn_0 : decode cX6_goOn 0 = .ok (.iload_n 1, 1) := getB' kX6_goOn 0 rfl
theorem dX6_goOn_1 : decode cX6_goOn 1 = .ok (.aload_n 0, 1) := getB' kX6_goOn 1 rfl
theorem dX6_goOn_2 : decode cX6_goOn 2 = .ok (.getfield 14, 3) := getB' kX6_goOn 2 rfl
theorem dX6_goOn_5 : decode cX6_goOn 5 = .ok (.getfield 55, 3) := getB' kX6_goOn 3 rfl
theorem dX6_goOn_8 : decode cX6_goOn 8 = .ok (.if_icmp .ge 12, 3) := getB' kX6_goOn 4 rfl
theorem dX6_goOn_11 : decode cX6_goOn 11 = .ok (.aload_n 0, 1) := getB' kX6_goOn 5 rfl
theorem dX6_goOn_12 : decode cX6_goOn 12 = .ok (.iload_n 1, 1) := getB' kX6_goOn 6 rfl
theorem dX6_goOn_13 : decode cX6_goOn 13 = .ok (.iload_n 2, 1) := getB' kX6_goOn 7 rfl
theorem dX6_goOn_14 : decode cX6_goOn 14 = .ok (.invokevirtual 65, 3) := getB' kX6_goOn 8 rfl
theorem dX6_goOn_17 : decode cX6_goOn 17 = .ok (.goto 7, 3) := getB' kX6_goOn 9 rfl
theorem dX6_goOn_20 : decode cX6_goOn 20 = .ok (.aload_n 0, 1) := getB' kX6_goOn 10 rfl
theorem dX6_goOn_21 : decode cX6_goOn 21 = .ok (.invokevirtual 93, 3) := getB' kX6_goOn 11 rfl
theorem dX6_goOn_24 : decode cX6_goOn 24 = .ok (.return_, 1) := getB' kX6_goOn 12 rfl
def LX6_comes : List (Nat × Instr × Nat) := [(0, .aload_n 0, 1), (1, .getfield 27, 3), (4, .aload_n 0, 1), (5, .getfield 33, 3), (8, .iload_n 1, 1), (9, .iconst 1, 1), (10, .isub, 1), (11, .invokestatic 75, 3), (14, .bipush 8, 2), (16, .imul, 1), (17, .iload_n 2, 1), (18, .iadd, 1), (19, .invokestatic 75, 3), (22, .istore 4, 2), (24, .iconst 1, 1), (25, .aload_n 0, 1), (26, .getfield 14, 3), (29, .getfield 55, 3), (32, .ishl, 1), (33, .iconst 1, 1), (34, .isub, 1), (35, .iload_n 3, 1), (36, .iconst (-1), 1), (37, .ixor, 1), (38, .iand, 1), (39, .istore 5, 2), (41, .aload_n 0, 1), (42, .getfield 36, 3), (45, .iload 5, 2), (47, .bipush 8, 2), (49, .imul, 1), (50, .iload_n 2, 1), (51, .iadd, 1), (52, .invokestatic 75, 3), (55, .istore 6, 2), (57, .iconst 0, 1), (58, .istore 7, 2), (60, .iload 7, 2), (62, .iconst 3, 1), (63, .if_icmp .ge 117, 3), (66, .iload_n 1, 1), (67, .ifCond .ne 10, 3), (70, .aload_n 0, 1), (71, .getfield 42, 3), (74, .goto 21, 3), (77, .aload_n 0, 1), (78, .getfield 30, 3), (81, .iload_n 1, 1), (82, .iconst 1, 1), (83, .isub, 1), (84, .iconst 3, 1), (85, .imul, 1), (86, .iload 7, 2), (88, .iadd, 1), (89, .invokestatic 75, 3), (92, .iload 4, 2), (94, .iadd, 1), (95, .istore 8, 2), (97, .iload 8, 2), (99, .aload_n 0, 1), (100, .getfield 20, 3), (103, .iload 7, 2), (105, .bipush 8, 2), (107, .imul, 1), (108, .iload_n 2, 1), (109, .iadd, 1), (110, .invokestatic 75, 3), (113, .invokestatic 83, 3), (116, .istore 9, 2), (118, .iload 8, 2), (120, .aload_n 0, 1), (121, .getfield 24, 3), (124, .iload 7, 2), (126, .bipush 8, 2), (128, .imul, 1), (129, .iload_n 2, 1), (130, .iadd, 1), (131, .invokestatic 75, 3), (134, .if_icmp .gt 23, 3), (137, .aload_n 0, 1), (138, .getfield 46, 3), (141, .iconst (-1), 1), (142, .if_icmp .eq 17, 3), (145, .iload 9, 2), (147, .iload 6, 2), (149, .iadd, 1), (150, .aload_n 0, 1), (151, .getfield 46, 3), (154, .if_icmp .lt 5, 3), (157, .iconst 0, 1), (158, .ireturn, 1), (159, .aload_n 0, 1), (160, .getfield 30, 3), (163, .iload_n 1, 1), (164, .iconst 3, 1), (165, .imul, 1), (166, .iload 7, 2), (168, .iadd, 1), (169, .iload 9, 2), (171, .invokestatic 71, 3), (174, .iinc 7 1, 3), (177, .goto (-117), 3), (180, .iconst 1, 1), (181, .ireturn, 1)]
theorem kX6_comes : chkB cX6_comes LX6_comes = true := by decide +kernel
theorem dX6_comes_0 : decode cX6_comes 0 = .ok (.aload_n 0, 1) := getB' kX6_comes 0 rfl
theorem dX6_comes_1 : decode cX6_comes 1 = .ok (.getfield 27, 3) := getB' kX6_comes 1 rfl
theorem dX6_comes_4 : decode cX6_comes 4 = .ok (.aload_n 0, 1) := getB' kX6_comes 2 rfl
theorem dX6_comes_5 : decode cX6_comes 5 = .ok (.getfield 33, 3) := getB' kX6_comes 3 rfl
theorem dX6_comes_8 : decode cX6_comes 8 = .ok (.iload_n 1, 1) := getB' kX6_comes 4 rfl
theorem dX6_comes_9 : decode cX6_comes 9 = .ok (.iconst 1, 1) := getB' kX6_comes 5 rfl
theorem dX6_comes_10 : decode cX6_comes 10 = .ok (.isub, 1) := getB' kX6_comes 6 rfl
theorem dX6_comes_11 : decode cX6_comes 11 = .ok (.invokestatic 75, 3) := getB' kX6_comes 7 rfl
theorem dX6_comes_14 : decode cX6_comes 14 = .ok (.bipush 8, 2) := getB' kX6_comes 8 rfl
theorem dX6_comes_16 : decode cX6_comes 16 = .ok (.imul, 1) := getB' kX6_comes 9 rfl
theorem dX6_comes_17 : decode cX6_comes 17 = .ok (.iload_n 2, 1) := getB' kX6_comes 10 rfl
theorem dX6_comes_18 : decode cX6_comes 18 = .ok (.iadd, 1) := getB' kX6_comes 11 rfl
theorem dX6_comes_19 : decode cX6_comes 19 = .ok (.invokestatic 75, 3) := getB' kX6_comes 12 rfl
theorem dX6_comes_22 : decode cX6_comes 22 = .ok (.istore 4, 2) := getB' kX6_comes 13 rfl
theorem dX6_comes_24 : decode cX6_comes 24 = .ok (.iconst 1, 1) := getB' kX6_comes 14 rfl
theorem dX6_comes_25 : decode cX6_comes 25 = .ok (.aload_n 0, 1) := getB' kX6_comes 15 rfl
theorem dX6_comes_26 : decode cX6_comes 26 = .ok (.getfield 14, 3) := getB' kX6_comes 16 rfl
theorem dX6_comes_29 : decode cX6_comes 29 = .ok (.getfield 55, 3) := getB' kX6_comes 17 rfl
theorem dX6_comes_32 : decode cX6_comes 32 = .ok (.ishl, 1) := getB' kX6_comes 18 rfl
theorem dX6_comes_33 : decode cX6_comes 33 = .ok (.iconst 1, 1) := getB' kX6_comes 19 rfl
theorem dX6_comes_34 : decode cX6_comes 34 = .ok (.isub, 1) := getB' kX6_comes 20 rfl
theorem dX6_comes_35 : decode cX6_comes 35 = .ok (.iload_n 3, 1) := getB' kX6_comes 21 rfl
theorem dX6_comes_36 : decode cX6_comes 36 = .ok (.iconst (-1), 1) := getB' kX6_comes 22 rfl
theorem dX6_comes_37 : decode cX6_comes 37 = .ok (.ixor, 1) := getB' kX6_comes 23 rfl
theorem dX6_comes_38 : decode cX6_comes 38 = .ok (.iand, 1) := getB' kX6_comes 24 rfl
theorem dX6_comes_39 : decode cX6_comes 39 = .ok (.istore 5, 2) := getB' kX6_comes 25 rfl
theorem dX6_comes_41 : decode cX6_comes 41 = .ok (.aload_n 0, 1) := getB' kX6_comes 26 rfl
theorem dX6_comes_42 : decode cX6_comes 42 = .ok (.getfield 36, 3) := getB' kX6_comes 27 rfl
theorem dX6_comes_45 : decode cX6_comes 45 = .ok (.iload 5, 2) := getB' kX6_comes 28 rfl
theorem dX6_comes_47 : decode cX6_comes 47 = .ok (.bipush 8, 2) := getB' kX6_comes 29 rfl
theorem dX6_comes_49 : decode cX6_comes 49 = .ok (.imul, 1) := getB' kX6_comes 30 rfl
theorem dX6_comes_50 : decode cX6_comes 50 = .ok (.iload_n 2, 1) := getB' kX6_comes 31 rfl
theorem dX6_comes_51 : decode cX6_comes 51 = .ok (.iadd, 1) := getB' kX6_comes 32 rfl
theorem dX6_comes_52 : decode cX6_comes 52 = .ok (.invokestatic 75, 3) := getB' kX6_comes 33 rfl
theorem dX6_comes_55 : decode cX6_comes 55 = .ok (.istore 6, 2) := getB' kX6_comes 34 rfl
theorem dX6_comes_57 : decode cX6_comes 57 = .ok (.iconst 0, 1) := getB' kX6_comes 35 rfl
theorem dX6_comes_58 : decode cX6_comes 58 = .ok (.istore 7, 2) := getB' kX6_comes 36 rfl
theorem dX6_comes_60 : decode cX6_comes 60 = .ok (.iload 7, 2) := getB' kX6_comes 37 rfl
theorem dX6_comes_62 : decode cX6_comes 62 = .ok (.iconst 3, 1) := getB' kX6_comes 38 rfl
theorem dX6_comes_63 : decode cX6_comes 63 = .ok (.if_icmp .ge 117, 3) := getB' kX6_comes 39 rfl
theorem dX6_comes_66 : decode cX6_comes 66 = .ok (.iload_n 1, 1) := getB' kX6_comes 40 rfl
theorem dX6_comes_67 : decode cX6_comes 67 = .ok (.ifCond .ne 10, 3) := getB' kX6_comes 41 rfl
theorem dX6_comes_70 : decode cX6_comes 70 = .ok (.aload_n 0, 1) := getB' kX6_comes 42 rfl
theorem dX6_comes_71 : decode cX6_comes 71 = .ok (.getfield 42, 3) := getB' kX6_comes 43 rfl
theorem dX6_comes_74 : decode cX6_comes 74 = .ok (.goto 21, 3) := getB' kX6_comes 44 rfl
theorem dX6_comes_77 : decode cX6_comes 77 = .ok (.aload_n 0, 1) := getB' kX6_comes 45 rfl
theorem dX6_comes_78 : decode cX6_comes 78 = .ok (.getfield 30, 3) := getB' kX6_comes 46 rfl
theorem dX6_comes_81 : decode cX6_comes 81 = .ok (.iload_n 1, 1) := getB' kX6_comes 47 rfl
theorem dX6_comes_82 : decode cX6_comes 82 = .ok (.iconst 1, 1) := getB' kX6_comes 48 rfl
theorem dX6_comes_83 : decode cX6_comes 83 = .ok (.isub, 1) := getB' kX6_comes 49 rfl
theorem dX6_comes_84 : decode cX6_comes 84 = .ok (.iconst 3, 1) := getB' kX6_comes 50 rfl
theorem dX6_comes_85 : decode cX6_comes 85 = .ok (.imul, 1) := getB' kX6_comes 51 rfl
theorem dX6_comes_86 : decode cX6_comes 86 = .ok (.iload 7, 2) := getB' kX6_comes 52 rfl
theorem dX6_comes_88 : decode cX6_comes 88 = .ok (.iadd, 1) := getB' kX6_comes 53 rfl
theorem dX6_comes_89 : decode cX6_comes 89 = .ok (.invokestatic 75, 3) := getB' kX6_comes 54 rfl
theorem dX6_comes_92 : decode cX6_comes 92 = .ok (.iload 4, 2) := getB' kX6_comes 55 rfl
theorem dX6_comes_94 : decode cX6_comes 94 = .ok (.iadd, 1) := getB' kX6_comes 56 rfl
theorem dX6_comes_95 : decode cX6_comes 95 = .ok (.istore 8, 2) := getB' kX6_comes 57 rfl
theorem dX6_comes_97 : decode cX6_comes 97 = .ok (.iload 8, 2) := getB' kX6_comes 58 rfl
theorem dX6_comes_99 : decode cX6_comes 99 = .ok (.aload_n 0, 1) := getB' kX6_comes 59 rfl
theorem dX6_comes_100 : decode cX6_comes 100 = .ok (.getfield 20, 3) := getB' kX6_comes 60 rfl
theorem dX6_comes_103 : decode cX6_comes 103 = .ok (.iload 7, 2) := getB' kX6_comes 61 rfl
theorem dX6_comes_105 : decode cX6_comes 105 = .ok (.bipush 8, 2) := getB' kX6_comes 62 rfl
theorem dX6_comes_107 : decode cX6_comes 107 = .ok (.imul, 1) := getB' kX6_comes 63 rfl
theorem dX6_comes_108 : decode cX6_comes 108 = .ok (.iload_n 2, 1) := getB' kX6_comes 64 rfl
theorem dX6_comes_109 : decode cX6_comes 109 = .ok (.iadd, 1) := getB' kX6_comes 65 rfl
theorem dX6_comes_110 : decode cX6_comes 110 = .ok (.invokestatic 75, 3) := getB' kX6_comes 66 rfl
theorem dX6_comes_113 : decode cX6_comes 113 = .ok (.invokestatic 83, 3) := getB' kX6_comes 67 rfl
theorem dX6_comes_116 : decode cX6_comes 116 = .ok (.istore 9, 2) := getB' kX6_comes 68 rfl
theorem dX6_comes_118 : decode cX6_comes 118 = .ok (.iload 8, 2) := getB' kX6_comes 69 rfl
theorem dX6_comes_120 : decode cX6_comes 120 = .ok (.aload_n 0, 1) := getB' kX6_comes 70 rfl
theorem dX6_comes_121 : decode cX6_comes 121 = .ok (.getfield 24, 3) := getB' kX6_comes 71 rfl
theorem dX6_comes_124 : decode cX6_comes 124 = .ok (.iload 7, 2) := getB' kX6_comes 72 rfl
theorem dX6_comes_126 : decode cX6_comes 126 = .ok (.bipush 8, 2) := getB' kX6_comes 73 rfl
theorem dX6_comes_128 : decode cX6_comes 128 = .ok (.imul, 1) := getB' kX6_comes 74 rfl
theorem dX6_comes_129 : decode cX6_comes 129 = .ok (.iload_n 2, 1) := getB' kX6_comes 75 rfl
theorem dX6_comes_130 : decode cX6_comes 130 = .ok (.iadd, 1) := getB' kX6_comes 76 rfl
theorem dX6_comes_131 : decode cX6_comes 131 = .ok (.invokestatic 75, 3) := getB' kX6_comes 77 rfl
theorem dX6_comes_134 : decode cX6_comes 134 = .ok (.if_icmp .gt 23, 3) := getB' kX6_comes 78 rfl
theorem dX6_comes_137 : decode cX6_comes 137 = .ok (.aload_n 0, 1) := getB' kX6_comes 79 rfl
theorem dX6_comes_138 : decode cX6_comes 138 = .ok (.getfield 46, 3) := getB' kX6_comes 80 rfl
theorem dX6_comes_141 : decode cX6_comes 141 = .ok (.iconst (-1), 1) := getB' kX6_comes 81 rfl
theorem dX6_comes_142 : decode cX6_comes 142 = .ok (.if_icmp .eq 17, 3) := getB' kX6_comes 82 rfl
theorem dX6_comes_145 : decode cX6_comes 145 = .ok (.iload 9, 2) := getB' kX6_comes 83 rfl
theorem dX6_comes_147 : decode cX6_comes 147 = .ok (.iload 6, 2) := getB' kX6_comes 84 rfl
theorem dX6_comes_149 : decode cX6_comes 149 = .ok (.iadd, 1) := getB' kX6_comes 85 rfl
theorem dX6_comes_150 : decode cX6_comes 150 = .ok (.aload_n 0, 1) := getB' kX6_comes 86 rfl
theorem dX6_comes_151 : decode cX6_comes 151 = .ok (.getfield 46, 3) := getB' kX6_comes 87 rfl
theorem dX6_comes_154 : decode cX6_comes 154 = .ok (.if_icmp .lt 5, 3) := getB' kX6_comes 88 rfl
theorem dX6_comes_157 : decode cX6_comes 157 = .ok (.iconst 0, 1) := getB' kX6_comes 89 rfl
theorem dX6_comes_158 : decode cX6_comes 158 = .ok (.ireturn, 1) := getB' kX6_comes 90 rfl
theorem dX6_comes_159 : decode cX6_comes 159 = .ok (.aload_n 0, 1) := getB' kX6_comes 91 rfl
theorem dX6_comes_160 : decode cX6_comes 160 = .ok (.getfield 30, 3) := getB' kX6_comes 92 rfl
theorem dX6_comes_163 : decode cX6_comes 163 = .ok (.iload_n 1, 1) := getB' kX6_comes 93 rfl
theorem dX6_comes_164 : decode cX6_comes 164 = .ok (.iconst 3, 1) := getB' kX6_comes 94 rfl
theorem dX6_comes_165 : decode cX6_comes 165 = .ok (.imul, 1) := getB' kX6_comes 95 rfl
theorem dX6_comes_166 : decode cX6_comes 166 = .ok (.iload 7, 2) := getB' kX6_comes 96 rfl
theorem dX6_comes_168 : decode cX6_comes 168 = .ok (.iadd, 1) := getB' kX6_comes 97 rfl
theorem dX6_comes_169 : decode cX6_comes 169 = .ok (.iload 9, 2) := getB' kX6_comes 98 rfl
theorem dX6_comes_171 : decode cX6_comes 171 = .ok (.invokestatic 71, 3) := getB' kX6_comes 99 rfl
theorem dX6_comes_174 : decode cX6_comes 174 = .ok (.iinc 7 1, 3) := getB' kX6_comes 100 rfl
theorem dX6_comes_177 : decode cX6_comes 177 = .ok (.goto (-117), 3) := getB' kX6_comes 101 rfl
theorem dX6_comes_180 : decode cX6_comes 180 = .ok (.iconst 1, 1) := getB' kX6_comes 102 rfl
theorem dX6_comes_181 : decode cX6_comes 181 = .ok (.ireturn, 1) := getB' kX6_comes 103 rfl
def LX6_keep : List (Nat × Instr × Nat) := [(0, .aload_n 0, 1), (1, .getfield 14, 3), (4, .getfield 55, 3), (7, .iconst 1, 1), (8, .isub, 1), (9, .istore_n 1, 1), (10, .aload_n 0, 1), (11, .iconst (-1), 1), (12, .putfield 46, 3), (15, .iconst 0, 1), (16, .istore_n 2, 1), (17, .iload_n 2, 1), (18, .iconst 3, 1), (19, .if_icmp .ge 32, 3), (22, .aload_n 0, 1), (23, .aload_n 0, 1), (24, .getfield 46, 3), (27, .aload_n 0, 1), (28, .getfield 30, 3), (31, .iload_n 1, 1), (32, .iconst 3, 1), (33, .imul, 1), (34, .iload_n 2, 1), (35, .iadd, 1), (36, .invokestatic 75, 3), (39, .invokestatic 83, 3), (42, .putfield 46, 3), (45, .iinc 2 1, 3), (48, .goto (-31), 3), (51, .iconst 0, 1), (52, .istore_n 2, 1), (53, .iload_n 2, 1), (54, .aload_n 0, 1), (55, .getfield 14, 3), (58, .getfield 55, 3), (61, .if_icmp .ge 25, 3), (64, .aload_n 0, 1), (65, .getfield 39, 3), (68, .iload_n 2, 1), (69, .aload_n 0, 1), (70, .getfield 33, 3), (73, .iload_n 2, 1), (74, .invokestatic 75, 3), (77, .invokestatic 71, 3), (80, .iinc 2 1, 3), (83, .goto (-30), 3), (86, .return_, 1)]
theorem kX6_keep : chkB cX6_keep LX6_keep = true := by decide +kernel
theorem dX6_keep_0 : decode cX6_keep 0 = .ok (.aload_n 0, 1) := getB' kX6_keep 0 rfl
theorem dX6_keep_1 : decode cX6_keep 1 = .ok (.getfield 14, 3) := getB' kX6_keep 1 rfl
theorem dX6_keep_4 : decode cX6_keep 4 = .ok (.getfield 55, 3) := getB' kX6_keep 2 rfl
theorem dX6_keep_7 : decode cX6_keep 7 = .ok (.iconst 1, 1) := getB' kX6_keep 3 rfl
theorem dX6_keep_8 : decode cX6_keep 8 = .ok (.isub, 1) := getB' kX6_keep 4 rfl
theorem dX6_keep_9 : decode cX6_keep 9 = .ok (.istore_n 1, 1) := getB' kX6_keep 5 rfl
theorem dX6_keep_10 : decode cX6_keep 10 = .ok (.aload_n 0, 1) := getB' kX6_keep 6 rfl
theorem dX6_keep_11 : decode cX6_keep 11 = .ok (.iconst (-1), 1) := getB' kX6_keep 7 rfl
theorem dX6_keep_12 : decode cX6_keep 12 = .ok (.putfield 46, 3) := getB' kX6_keep 8 rfl
theorem dX6_keep_15 : decode cX6_keep 15 = .ok (.iconst 0, 1) := getB' kX6_keep 9 rfl
theorem dX6_keep_16 : decode cX6_keep 16 = .ok (.istore_n 2, 1) := getB' kX6_keep 10 rfl
theorem dX6_keep_17 : decode cX6_keep 17 = .ok (.iload_n 2, 1) := getB' kX6_keep 11 rfl
theorem dX6_keep_18 : decode cX6_keep 18 = .ok (.iconst 3, 1) := getB' kX6_keep 12 rfl
theorem dX6_keep_19 : decode cX6_keep 19 = .ok (.if_icmp .ge 32, 3) := getB' kX6_keep 13 rfl
theorem dX6_keep_22 : decode cX6_keep 22 = .ok (.aload_n 0, 1) := getB' kX6_keep 14 rfl
theorem dX6_keep_23 : decode cX6_keep 23 = .ok (.aload_n 0, 1) := getB' kX6_keep 15 rfl
theorem dX6_keep_24 : decode cX6_keep 24 = .ok (.getfield 46, 3) := getB' kX6_keep 16 rfl
theorem dX6_keep_27 : decode cX6_keep 27 = .ok (.aload_n 0, 1) := getB' kX6_keep 17 rfl
theorem dX6_keep_28 : decode cX6_keep 28 = .ok (.getfield 30, 3) := getB' kX6_keep 18 rfl
theorem dX6_keep_31 : decode cX6_keep 31 = .ok (.iload_n 1, 1) := getB' kX6_keep 19 rfl
theorem dX6_keep_32 : decode cX6_keep 32 = .ok (.iconst 3, 1) := getB' kX6_keep 20 rfl
theorem dX6_keep_33 : decode cX6_keep 33 = .ok (.imul, 1) := getB' kX6_keep 21 rfl
theorem dX6_keep_34 : decode cX6_keep 34 = .ok (.iload_n 2, 1) := getB' kX6_keep 22 rfl
theorem dX6_keep_35 : decode cX6_keep 35 = .ok (.iadd, 1) := getB' kX6_keep 23 rfl
theorem dX6_keep_36 : decode cX6_keep 36 = .ok (.invokestatic 75, 3) := getB' kX6_keep 24 rfl
theorem dX6_keep_39 : decode cX6_keep 39 = .ok (.invokestatic 83, 3) := getB' kX6_keep 25 rfl
theorem dX6_keep_42 : decode cX6_keep 42 = .ok (.putfield 46, 3) := getB' kX6_keep 26 rfl
theorem dX6_keep_45 : decode cX6_keep 45 = .ok (.iinc 2 1, 3) := getB' kX6_keep 27 rfl
theorem dX6_keep_48 : decode cX6_keep 48 = .ok (.goto (-31), 3) := getB' kX6_keep 28 rfl
theorem dX6_keep_51 : decode cX6_keep 51 = .ok (.iconst 0, 1) := getB' kX6_keep 29 rfl
theorem dX6_keep_52 : decode cX6_keep 52 = .ok (.istore_n 2, 1) := getB' kX6_keep 30 rfl
theorem dX6_keep_53 : decode cX6_keep 53 = .ok (.iload_n 2, 1) := getB' kX6_keep 31 rfl
theorem dX6_keep_54 : decode cX6_keep 54 = .ok (.aload_n 0, 1) := getB' kX6_keep 32 rfl
theorem dX6_keep_55 : decode cX6_keep 55 = .ok (.getfield 14, 3) := getB' kX6_keep 33 rfl
theorem dX6_keep_58 : decode cX6_keep 58 = .ok (.getfield 55, 3) := getB' kX6_keep 34 rfl
theorem dX6_keep_61 : decode cX6_keep 61 = .ok (.if_icmp .ge 25, 3) := getB' kX6_keep 35 rfl
theorem dX6_keep_64 : decode cX6_keep 64 = .ok (.aload_n 0, 1) := getB' kX6_keep 36 rfl
theorem dX6_keep_65 : decode cX6_keep 65 = .ok (.getfield 39, 3) := getB' kX6_keep 37 rfl
theorem dX6_keep_68 : decode cX6_keep 68 = .ok (.iload_n 2, 1) := getB' kX6_keep 38 rfl
theorem dX6_keep_69 : decode cX6_keep 69 = .ok (.aload_n 0, 1) := getB' kX6_keep 39 rfl
theorem dX6_keep_70 : decode cX6_keep 70 = .ok (.getfield 33, 3) := getB' kX6_keep 40 rfl
theorem dX6_keep_73 : decode cX6_keep 73 = .ok (.iload_n 2, 1) := getB' kX6_keep 41 rfl
theorem dX6_keep_74 : decode cX6_keep 74 = .ok (.invokestatic 75, 3) := getB' kX6_keep 42 rfl
theorem dX6_keep_77 : decode cX6_keep 77 = .ok (.invokestatic 71, 3) := getB' kX6_keep 43 rfl
theorem dX6_keep_80 : decode cX6_keep 80 = .ok (.iinc 2 1, 3) := getB' kX6_keep 44 rfl
theorem dX6_keep_83 : decode cX6_keep 83 = .ok (.goto (-30), 3) := getB' kX6_keep 45 rfl
theorem dX6_keep_86 : decode cX6_keep 86 = .ok (.return_, 1) := getB' kX6_keep 46 rfl
def LX7_init : List (Nat × Instr × Nat) := [(0, .aload_n 0, 1), (1, .invokespecial 3, 3), (4, .aload_n 0, 1), (5, .iconst 0, 1), (6, .putfield 9, 3), (9, .aload_n 0, 1), (10, .iconst 0, 1), (11, .putfield 15, 3), (14, .aload_n 0, 1), (15, .iconst (-1), 1), (16, .putfield 18, 3), (19, .aload_n 0, 1), (20, .iconst 0, 1), (21, .putfield 21, 3), (24, .aload_n 0, 1), (25, .iconst 0, 1), (26, .putfield 24, 3), (29, .aload_n 0, 1), (30, .iconst (-1), 1), (31, .putfield 27, 3), (34, .aload_n 0, 1), (35, .iconst 0, 1), (36, .putfield 30, 3), (39, .aload_n 0, 1), (40, .iconst 0, 1), (41, .putfield 33, 3), (44, .aload_n 0, 1), (45, .iload_n 1, 1), (46, .putfield 36, 3), (49, .aload_n 0, 1), (50, .iload_n 2, 1), (51, .putfield 39, 3), (54, .aload_n 0, 1), (55, .iload_n 3, 1), (56, .putfield 42, 3), (59, .return_, 1)]
theorem kX7_init : chkB cX7_init LX7_init = true := by decide +kernel
theorem dX7_init_0 : decode cX7_init 0 = .ok (.aload_n 0, 1) := getB' kX7_init 0 rfl
theorem dX7_init_1 : decode cX7_init 1 = .ok (.invokespecial 3, 3) := getB' kX7_init 1 rfl
theorem dX7_init_4 : decode cX7_init 4 = .ok (.aload_n 0, 1) := getB' kX7_init 2 rfl
theorem dX7_init_5 : decode cX7_init 5 = .ok (.iconst 0, 1) := getB' kX7_init 3 rfl
theorem dX7_init_6 : decode cX7_init 6 = .ok (.putfield 9, 3) := getB' kX7_init 4 rfl
theorem dX7_init_9 : decode cX7_init 9 = .ok (.aload_n 0, 1) := getB' kX7_init 5 rfl
theorem dX7_init_10 : decode cX7_init 10 = .ok (.iconst 0, 1) := getB' kX7_init 6 rfl
theorem dX7_init_11 : decode cX7_init 11 = .ok (.putfield 15, 3) := getB' kX7_init 7 rfl
theorem dX7_init_14 : decode cX7_init 14 = .ok (.aload_n 0, 1) := getB' kX7_init 8 rfl
theorem dX7_init_15 : decode cX7_init 15 = .ok (.iconst (-1), 1) := getB' kX7_init 9 rfl
theorem dX7_init_16 : decode cX7_init 16 = .ok (.putfield 18, 3) := getB' kX7_init 10 rfl
theorem dX7_init_19 : decode cX7_init 19 = .ok (.aload_n 0, 1) := getB' kX7_init 11 rfl
theorem dX7_init_20 : decode cX7_init 20 = .ok (.iconst 0, 1) := getB' kX7_init 12 rfl
theorem dX7_init_21 : decode cX7_init 21 = .ok (.putfield 21, 3) := getB' kX7_init 13 rfl
theorem dX7_init_24 : decode cX7_init 24 = .ok (.aload_n 0, 1) := getB' kX7_init 14 rfl
theorem dX7_init_25 : decode cX7_init 25 = .ok (.iconst 0, 1) := getB' kX7_init 15 rfl
theorem dX7_init_26 : decode cX7_init 26 = .ok (.putfield 24, 3) := getB' kX7_init 16 rfl
theorem dX7_init_29 : decode cX7_init 29 = .ok (.aload_n 0, 1) := getB' kX7_init 17 rfl
theorem dX7_init_30 : decode cX7_init 30 = .ok (.iconst (-1), 1) := getB' kX7_init 18 rfl
theorem dX7_init_31 : decode cX7_init 31 = .ok (.putfield 27, 3) := getB' kX7_init 19 rfl
theorem dX7_init_34 : decode cX7_init 34 = .ok (.aload_n 0, 1) := getB' kX7_init 20 rfl
theorem dX7_init_35 : decode cX7_init 35 = .ok (.iconst 0, 1) := getB' kX7_init 21 rfl
theorem dX7_init_36 : decode cX7_init 36 = .ok (.putfield 30, 3) := getB' kX7_init 22 rfl
theorem dX7_init_39 : decode cX7_init 39 = .ok (.aload_n 0, 1) := getB' kX7_init 23 rfl
theorem dX7_init_40 : decode cX7_init 40 = .ok (.iconst 0, 1) := getB' kX7_init 24 rfl
theorem dX7_init_41 : decode cX7_init 41 = .ok (.putfield 33, 3) := getB' kX7_init 25 rfl
theorem dX7_init_44 : decode cX7_init 44 = .ok (.aload_n 0, 1) := getB' kX7_init 26 rfl
theorem dX7_init_45 : decode cX7_init 45 = .ok (.iload_n 1, 1) := getB' kX7_init 27 rfl
theorem dX7_init_46 : decode cX7_init 46 = .ok (.putfield 36, 3) := getB' kX7_init 28 rfl
theorem dX7_init_49 : decode cX7_init 49 = .ok (.aload_n 0, 1) := getB' kX7_init 29 rfl
theorem dX7_init_50 : decode cX7_init 50 = .ok (.iload_n 2, 1) := getB' kX7_init 30 rfl
theorem dX7_init_51 : decode cX7_init 51 = .ok (.putfield 39, 3) := getB' kX7_init 31 rfl
theorem dX7_init_54 : decode cX7_init 54 = .ok (.aload_n 0, 1) := getB' kX7_init 32 rfl
theorem dX7_init_55 : decode cX7_init 55 = .ok (.iload_n 3, 1) := getB' kX7_init 33 rfl
theorem dX7_init_56 : decode cX7_init 56 = .ok (.putfield 42, 3) := getB' kX7_init 34 rfl
theorem dX7_init_59 : decode cX7_init 59 = .ok (.return_, 1) := getB' kX7_init 35 rfl
def LX7_leave : List (Nat × Instr × Nat) := [(0, .aload_n 0, 1), (1, .iconst 1, 1), (2, .putfield 9, 3), (5, .aload_n 0, 1), (6, .iload_n 1, 1), (7, .putfield 15, 3), (10, .aload_n 0, 1), (11, .iload_n 2, 1), (12, .putfield 18, 3), (15, .aload_n 0, 1), (16, .iload_n 3, 1), (17, .putfield 21, 3), (20, .aload_n 0, 1), (21, .iload 5, 2), (23, .putfield 33, 3), (26, .aload_n 0, 1), (27, .iload 4, 2), (29, .iload 5, 2), (31, .iadd, 1), (32, .putfield 27, 3), (35, .aload_n 0, 1), (36, .iconst 0, 1), (37, .putfield 30, 3), (40, .return_, 1)]
theorem kX7_leave : chkB cX7_leave LX7_leave = true := by decide +kernel
theorem dX7_leave_0 : decode cX7_leave 0 = .ok (.aload_n 0, 1) := getB' kX7_leave 0 rfl
theorem dX7_leave_1 : decode cX7_leave 1 = .ok (.iconst 1, 1) := getB' kX7_leave 1 rfl
theorem dX7_leave_2 : decode cX7_leave 2 = .ok (.putfield 9, 3) := getB' kX7_leave 2 rfl
theorem dX7_leave_5 : decode cX7_leave 5 = .ok (.aload_n 0, 1) := getB' kX7_leave 3 rfl
theorem dX7_leave_6 : decode cX7_leave 6 = .ok (.iload_n 1, 1) := getB' kX7_leave 4 rfl
theorem dX7_leave_7 : decode cX7_leave 7 = .ok (.putfield 15, 3) := getB' kX7_leave 5 rfl
theorem dX7_leave_10 : decode cX7_leave 10 = .ok (.aload_n 0, 1) := getB' kX7_leave 6 rfl
theorem dX7_leave_11 : decode cX7_leave 11 = .ok (.iload_n 2, 1) := getB' kX7_leave 7 rfl
theorem dX7_leave_12 : decode cX7_leave 12 = .ok (.putfield 18, 3) := getB' kX7_leave 8 rfl
theorem dX7_leave_15 : decode cX7_leave 15 = .ok (.aload_n 0, 1) := getB' kX7_leave 9 rfl
theorem dX7_leave_16 : decode cX7_leave 16 = .ok (.iload_n 3, 1) := getB' kX7_leave 10 rfl
theorem dX7_leave_17 : decode cX7_leave 17 = .ok (.putfield 21, 3) := getB' kX7_leave 11 rfl
theorem dX7_leave_20 : decode cX7_leave 20 = .ok (.aload_n 0, 1) := getB' kX7_leave 12 rfl
theorem dX7_leave_21 : decode cX7_leave 21 = .ok (.iload 5, 2) := getB' kX7_leave 13 rfl
theorem dX7_leave_23 : decode cX7_leave 23 = .ok (.putfield 33, 3) := getB' kX7_leave 14 rfl
theorem dX7_leave_26 : decode cX7_leave 26 = .ok (.aload_n 0, 1) := getB' kX7_leave 15 rfl
theorem dX7_leave_27 : decode cX7_leave 27 = .ok (.iload 4, 2) := getB' kX7_leave 16 rfl
theorem dX7_leave_29 : decode cX7_leave 29 = .ok (.iload 5, 2) := getB' kX7_leave 17 rfl
theorem dX7_leave_31 : decode cX7_leave 31 = .ok (.iadd, 1) := getB' kX7_leave 18 rfl
theorem dX7_leave_32 : decode cX7_leave 32 = .ok (.putfield 27, 3) := getB' kX7_leave 19 rfl
theorem dX7_leave_35 : decode cX7_leave 35 = .ok (.aload_n 0, 1) := getB' kX7_leave 20 rfl
theorem dX7_leave_36 : decode cX7_leave 36 = .ok (.iconst 0, 1) := getB' kX7_leave 21 rfl
theorem dX7_leave_37 : decode cX7_leave 37 = .ok (.putfield 30, 3) := getB' kX7_leave 22 rfl
theorem dX7_leave_40 : decode cX7_leave 40 = .ok (.return_, 1) := getB' kX7_leave 23 rfl
def LX7_turnBack : List (Nat × Instr × Nat) := [(0, .aload_n 0, 1), (1, .iconst 3, 1), (2, .putfield 9, 3), (5, .aload_n 0, 1), (6, .iload_n 1, 1), (7, .aload_n 0, 1), (8, .getfield 33, 3), (11, .iadd, 1), (12, .putfield 27, 3), (15, .return_, 1)]
theorem kX7_turnBack : chkB cX7_turnBack LX7_turnBack = true := by decide +kernel
theorem dX7_turnBack_0 : decode cX7_turnBack 0 = .ok (.aload_n 0, 1) := getB' kX7_turnBack 0 rfl
theorem dX7_turnBack_1 : decode cX7_turnBack 1 = .ok (.iconst 3, 1) := getB' kX7_turnBack 1 rfl
theorem dX7_turnBack_2 : decode cX7_turnBack 2 = .ok (.putfield 9, 3) := getB' kX7_turnBack 2 rfl
theorem dX7_turnBack_5 : decode cX7_turnBack 5 = .ok (.aload_n 0, 1) := getB' kX7_turnBack 3 rfl
theorem dX7_turnBack_6 : decode cX7_turnBack 6 = .ok (.iload_n 1, 1) := getB' kX7_turnBack 4 rfl
theorem dX7_turnBack_7 : decode cX7_turnBack 7 = .ok (.aload_n 0, 1) := getB' kX7_turnBack 5 rfl
theorem dX7_turnBack_8 : decode cX7_turnBack 8 = .ok (.getfield 33, 3) := getB' kX7_turnBack 6 rfl
theorem dX7_turnBack_11 : decode cX7_turnBack 11 = .ok (.iadd, 1) := getB' kX7_turnBack 7 rfl
theorem dX7_turnBack_12 : decode cX7_turnBack 12 = .ok (.putfield 27, 3) := getB' kX7_turnBack 8 rfl
theorem dX7_turnBack_15 : decode cX7_turnBack 15 = .ok (.return_, 1) := getB' kX7_turnBack 9 rfl
def LX8_init : List (Nat × Instr × Nat) := [(0, .aload_n 0, 1), (1, .invokespecial 3, 3), (4, .aload_n 0, 1), (5, .iconst 0, 1), (6, .putfield 9, 3), (9, .aload_n 0, 1), (10, .iload_n 1, 1), (11, .putfield 15, 3), (14, .aload_n 0, 1), (15, .iload_n 2, 1), (16, .putfield 18, 3), (19, .aload_n 0, 1), (20, .iconst 0, 1), (21, .iload_n 1, 1), (22, .iload_n 2, 1), (23, .imul, 1), (24, .invokestatic 21, 3), (27, .newarray .int, 2), (29, .putfield 27, 3), (32, .return_, 1)]
theorem kX8_init : chkB cX8_init LX8_init = true := by decide +kernel
theorem dX8_init_0 : decode cX8_init 0 = .ok (.aload_n 0, 1) := getB' kX8_init 0 rfl
theorem dX8_init_1 : decode cX8_init 1 = .ok (.invokespecial 3, 3) := getB' kX8_init 1 rfl
theorem dX8_init_4 : decode cX8_init 4 = .ok (.aload_n 0, 1) := getB' kX8_init 2 rfl
theorem dX8_init_5 : decode cX8_init 5 = .ok (.iconst 0, 1) := getB' kX8_init 3 rfl
theorem dX8_init_6 : decode cX8_init 6 = .ok (.putfield 9, 3) := getB' kX8_init 4 rfl
theorem dX8_init_9 : decode cX8_init 9 = .ok (.aload_n 0, 1) := getB' kX8_init 5 rfl
theorem dX8_init_10 : decode cX8_init 10 = .ok (.iload_n 1, 1) := getB' kX8_init 6 rfl
theorem dX8_init_11 : decode cX8_init 11 = .ok (.putfield 15, 3) := getB' kX8_init 7 rfl
theorem dX8_init_14 : decode cX8_init 14 = .ok (.aload_n 0, 1) := getB' kX8_init 8 rfl
theorem dX8_init_15 : decode cX8_init 15 = .ok (.iload_n 2, 1) := getB' kX8_init 9 rfl
theorem dX8_init_16 : decode cX8_init 16 = .ok (.putfield 18, 3) := getB' kX8_init 10 rfl
theorem dX8_init_19 : decode cX8_init 19 = .ok (.aload_n 0, 1) := getB' kX8_init 11 rfl
theorem dX8_init_20 : decode cX8_init 20 = .ok (.iconst 0, 1) := getB' kX8_init 12 rfl
theorem dX8_init_21 : decode cX8_init 21 = .ok (.iload_n 1, 1) := getB' kX8_init 13 rfl
theorem dX8_init_22 : decode cX8_init 22 = .ok (.iload_n 2, 1) := getB' kX8_init 14 rfl
theorem dX8_init_23 : decode cX8_init 23 = .ok (.imul, 1) := getB' kX8_init 15 rfl
theorem dX8_init_24 : decode cX8_init 24 = .ok (.invokestatic 21, 3) := getB' kX8_init 16 rfl
theorem dX8_init_27 : decode cX8_init 27 = .ok (.newarray .int, 2) := getB' kX8_init 17 rfl
theorem dX8_init_29 : decode cX8_init 29 = .ok (.putfield 27, 3) := getB' kX8_init 18 rfl
theorem dX8_init_32 : decode cX8_init 32 = .ok (.return_, 1) := getB' kX8_init 19 rfl
def LX8_isFull : List (Nat × Instr × Nat) := [(0, .aload_n 0, 1), (1, .getfield 9, 3), (4, .aload_n 0, 1), (5, .getfield 18, 3), (8, .if_icmp .lt 7, 3), (11, .iconst 1, 1), (12, .goto 4, 3), (15, .iconst 0, 1), (16, .ireturn, 1)]
theorem kX8_isFull : chkB cX8_isFull LX8_isFull = true := by decide +kernel
theorem dX8_isFull_0 : decode cX8_isFull 0 = .ok (.aload_n 0, 1) := getB' kX8_isFull 0 rfl
theorem dX8_isFull_1 : decode cX8_isFull 1 = .ok (.getfield 9, 3) := getB' kX8_isFull 1 rfl
theorem dX8_isFull_4 : decode cX8_isFull 4 = .ok (.aload_n 0, 1) := getB' kX8_isFull 2 rfl
theorem dX8_isFull_5 : decode cX8_isFull 5 = .ok (.getfield 18, 3) := getB' kX8_isFull 3 rfl
theorem dX8_isFull_8 : decode cX8_isFull 8 = .ok (.if_icmp .lt 7, 3) := getB' kX8_isFull 4 rfl
theorem dX8_isFull_11 : decode cX8_isFull 11 = .ok (.iconst 1, 1) := getB' kX8_isFull 5 rfl
theorem dX8_isFull_12 : decode cX8_isFull 12 = .ok (.goto 4, 3) := getB' kX8_isFull 6 rfl
theorem dX8_isFull_15 : decode cX8_isFull 15 = .ok (.iconst 0, 1) := getB' kX8_isFull 7 rfl
theorem dX8_isFull_16 : decode cX8_isFull 16 = .ok (.ireturn, 1) := getB' kX8_isFull 8 rfl
def LX8_has : List (Nat × Instr × Nat) := [(0, .iload_n 1, 1), (1, .ifCond .lt 15, 3), (4, .iload_n 1, 1), (5, .aload_n 0, 1), (6, .getfield 9, 3), (9, .if_icmp .ge 7, 3), (12, .iconst 1, 1), (13, .goto 4, 3), (16, .iconst 0, 1), (17, .ireturn, 1)]
theorem kX8_has : chkB cX8_has LX8_has = true := by decide +kernel
theorem dX8_has_0 : decode cX8_has 0 = .ok (.iload_n 1, 1) := getB' kX8_has 0 rfl
theorem dX8_has_1 : decode cX8_has 1 = .ok (.ifCond .lt 15, 3) := getB' kX8_has 1 rfl
theorem dX8_has_4 : decode cX8_has 4 = .ok (.iload_n 1, 1) := getB' kX8_has 2 rfl
theorem dX8_has_5 : decode cX8_has 5 = .ok (.aload_n 0, 1) := getB' kX8_has 3 rfl
theorem dX8_has_6 : decode cX8_has 6 = .ok (.getfield 9, 3) := getB' kX8_has 4 rfl
theorem dX8_has_9 : decode cX8_has 9 = .ok (.if_icmp .ge 7, 3) := getB' kX8_has 5 rfl
theorem dX8_has_12 : decode cX8_has 12 = .ok (.iconst 1, 1) := getB' kX8_has 6 rfl
theorem dX8_has_13 : decode cX8_has 13 = .ok (.goto 4, 3) := getB' kX8_has 7 rfl
theorem dX8_has_16 : decode cX8_has 16 = .ok (.iconst 0, 1) := getB' kX8_has 8 rfl
theorem dX8_has_17 : decode cX8_has 17 = .ok (.ireturn, 1) := getB' kX8_has 9 rfl
def LX8_get : List (Nat × Instr × Nat) := [(0, .iload_n 1, 1), (1, .aload_n 0, 1), (2, .getfield 15, 3), (5, .imul, 1), (6, .iload_n 2, 1), (7, .iadd, 1), (8, .istore_n 3, 1), (9, .iload_n 1, 1), (10, .ifCond .lt 27, 3), (13, .iload_n 1, 1), (14, .aload_n 0, 1), (15, .getfield 9, 3), (18, .if_icmp .ge 19, 3), (21, .iload_n 2, 1), (22, .ifCond .lt 15, 3), (25, .iload_n 2, 1), (26, .aload_n 0, 1), (27, .getfield 15, 3), (30, .if_icmp .ge 7, 3), (33, .iconst 1, 1), (34, .goto 4, 3), (37, .iconst 0, 1), (38, .istore 4, 2), (40, .iload 4, 2), (42, .ifCond .eq 25, 3), (45, .iload_n 3, 1), (46, .ifCond .lt 21, 3), (49, .iload_n 3, 1), (50, .aload_n 0, 1), (51, .getfield 27, 3), (54, .arraylength, 1), (55, .if_icmp .ge 12, 3), (58, .aload_n 0, 1), (59, .getfield 27, 3), (62, .iload_n 3, 1), (63, .iaload, 1), (64, .goto 4, 3), (67, .iconst 0, 1), (68, .ireturn, 1)]
theorem kX8_get : chkB cX8_get LX8_get = true := by decide +kernel
theorem dX8_get_0 : decode cX8_get 0 = .ok (.iload_n 1, 1) := getB' kX8_get 0 rfl
theorem dX8_get_1 : decode cX8_get 1 = .ok (.aload_n 0, 1) := getB' kX8_get 1 rfl
theorem dX8_get_2 : decode cX8_get 2 = .ok (.getfield 15, 3) := getB' kX8_get 2 rfl
theorem dX8_get_5 : decode cX8_get 5 = .ok (.imul, 1) := getB' kX8_get 3 rfl
theorem dX8_get_6 : decode cX8_get 6 = .ok (.iload_n 2, 1) := getB' kX8_get 4 rfl
theorem dX8_get_7 : decode cX8_get 7 = .ok (.iadd, 1) := getB' kX8_get 5 rfl
theorem dX8_get_8 : decode cX8_get 8 = .ok (.istore_n 3, 1) := getB' kX8_get 6 rfl
theorem dX8_get_9 : decode cX8_get 9 = .ok (.iload_n 1, 1) := getB' kX8_get 7 rfl
theorem dX8_get_10 : decode cX8_get 10 = .ok (.ifCond .lt 27, 3) := getB' kX8_get 8 rfl
theorem dX8_get_13 : decode cX8_get 13 = .ok (.iload_n 1, 1) := getB' kX8_get 9 rfl
theorem dX8_get_14 : decode cX8_get 14 = .ok (.aload_n 0, 1) := getB' kX8_get 10 rfl
theorem dX8_get_15 : decode cX8_get 15 = .ok (.getfield 9, 3) := getB' kX8_get 11 rfl
theorem dX8_get_18 : decode cX8_get 18 = .ok (.if_icmp .ge 19, 3) := getB' kX8_get 12 rfl
theorem dX8_get_21 : decode cX8_get 21 = .ok (.iload_n 2, 1) := getB' kX8_get 13 rfl
theorem dX8_get_22 : decode cX8_get 22 = .ok (.ifCond .lt 15, 3) := getB' kX8_get 14 rfl
theorem dX8_get_25 : decode cX8_get 25 = .ok (.iload_n 2, 1) := getB' kX8_get 15 rfl
theorem dX8_get_26 : decode cX8_get 26 = .ok (.aload_n 0, 1) := getB' kX8_get 16 rfl
theorem dX8_get_27 : decode cX8_get 27 = .ok (.getfield 15, 3) := getB' kX8_get 17 rfl
theorem dX8_get_30 : decode cX8_get 30 = .ok (.if_icmp .ge 7, 3) := getB' kX8_get 18 rfl
theorem dX8_get_33 : decode cX8_get 33 = .ok (.iconst 1, 1) := getB' kX8_get 19 rfl
theorem dX8_get_34 : decode cX8_get 34 = .ok (.goto 4, 3) := getB' kX8_get 20 rfl
theorem dX8_get_37 : decode cX8_get 37 = .ok (.iconst 0, 1) := getB' kX8_get 21 rfl
theorem dX8_get_38 : decode cX8_get 38 = .ok (.istore 4, 2) := getB' kX8_get 22 rfl
theorem dX8_get_40 : decode cX8_get 40 = .ok (.iload 4, 2) := getB' kX8_get 23 rfl
theorem dX8_get_42 : decode cX8_get 42 = .ok (.ifCond .eq 25, 3) := getB' kX8_get 24 rfl
theorem dX8_get_45 : decode cX8_get 45 = .ok (.iload_n 3, 1) := getB' kX8_get 25 rfl
theorem dX8_get_46 : decode cX8_get 46 = .ok (.ifCond .lt 21, 3) := getB' kX8_get 26 rfl
theorem dX8_get_49 : decode cX8_get 49 = .ok (.iload_n 3, 1) := getB' kX8_get 27 rfl
theorem dX8_get_50 : decode cX8_get 50 = .ok (.aload_n 0, 1) := getB' kX8_get 28 rfl
theorem dX8_get_51 : decode cX8_get 51 = .ok (.getfield 27, 3) := getB' kX8_get 29 rfl
theorem dX8_get_54 : decode cX8_get 54 = .ok (.arraylength, 1) := getB' kX8_get 30 rfl
theorem dX8_get_55 : decode cX8_get 55 = .ok (.if_icmp .ge 12, 3) := getB' kX8_get 31 rfl
theorem dX8_get_58 : decode cX8_get 58 = .ok (.aload_n 0, 1) := getB' kX8_get 32 rfl
theorem dX8_get_59 : decode cX8_get 59 = .ok (.getfield 27, 3) := getB' kX8_get 33 rfl
theorem dX8_get_62 : decode cX8_get 62 = .ok (.iload_n 3, 1) := getB' kX8_get 34 rfl
theorem dX8_get_63 : decode cX8_get 63 = .ok (.iaload, 1) := getB' kX8_get 35 rfl
theorem dX8_get_64 : decode cX8_get 64 = .ok (.goto 4, 3) := getB' kX8_get 36 rfl
theorem dX8_get_67 : decode cX8_get 67 = .ok (.iconst 0, 1) := getB' kX8_get 37 rfl
theorem dX8_get_68 : decode cX8_get 68 = .ok (.ireturn, 1) := getB' kX8_get 38 rfl
def LX8_put : List (Nat × Instr × Nat) := [(0, .iload_n 1, 1), (1, .aload_n 0, 1), (2, .getfield 15, 3), (5, .imul, 1), (6, .iload_n 2, 1), (7, .iadd, 1), (8, .istore 4, 2), (10, .iload_n 1, 1), (11, .ifCond .lt 27, 3), (14, .iload_n 1, 1), (15, .aload_n 0, 1), (16, .getfield 9, 3), (19, .if_icmp .ge 19, 3), (22, .iload_n 2, 1), (23, .ifCond .lt 15, 3), (26, .iload_n 2, 1), (27, .aload_n 0, 1), (28, .getfield 15, 3), (31, .if_icmp .ge 7, 3), (34, .iconst 1, 1), (35, .goto 4, 3), (38, .iconst 0, 1), (39, .istore 5, 2), (41, .iload 5, 2), (43, .ifCond .eq 26, 3), (46, .iload 4, 2), (48, .ifCond .lt 21, 3), (51, .iload 4, 2), (53, .aload_n 0, 1), (54, .getfield 27, 3), (57, .arraylength, 1), (58, .if_icmp .ge 11, 3), (61, .aload_n 0, 1), (62, .getfield 27, 3), (65, .iload 4, 2), (67, .iload_n 3, 1), (68, .iastore, 1), (69, .return_, 1)]
theorem kX8_put : chkB cX8_put LX8_put = true := by decide +kernel
theorem dX8_put_0 : decode cX8_put 0 = .ok (.iload_n 1, 1) := getB' kX8_put 0 rfl
theorem dX8_put_1 : decode cX8_put 1 = .ok (.aload_n 0, 1) := getB' kX8_put 1 rfl
theorem dX8_put_2 : decode cX8_put 2 = .ok (.getfield 15, 3) := getB' kX8_put 2 rfl
theorem dX8_put_5 : decode cX8_put 5 = .ok (.imul, 1) := getB' kX8_put 3 rfl
theorem dX8_put_6 : decode cX8_put 6 = .ok (.iload_n 2, 1) := getB' kX8_put 4 rfl
theorem dX8_put_7 : decode cX8_put 7 = .ok (.iadd, 1) := getB' kX8_put 5 rfl
theorem dX8_put_8 : decode cX8_put 8 = .ok (.istore 4, 2) := getB' kX8_put 6 rfl
theorem dX8_put_10 : decode cX8_put 10 = .ok (.iload_n 1, 1) := getB' kX8_put 7 rfl
theorem dX8_put_11 : decode cX8_put 11 = .ok (.ifCond .lt 27, 3) := getB' kX8_put 8 rfl
theorem dX8_put_14 : decode cX8_put 14 = .ok (.iload_n 1, 1) := getB' kX8_put 9 rfl
theorem dX8_put_15 : decode cX8_put 15 = .ok (.aload_n 0, 1) := getB' kX8_put 10 rfl
theorem dX8_put_16 : decode cX8_put 16 = .ok (.getfield 9, 3) := getB' kX8_put 11 rfl
theorem dX8_put_19 : decode cX8_put 19 = .ok (.if_icmp .ge 19, 3) := getB' kX8_put 12 rfl
theorem dX8_put_22 : decode cX8_put 22 = .ok (.iload_n 2, 1) := getB' kX8_put 13 rfl
theorem dX8_put_23 : decode cX8_put 23 = .ok (.ifCond .lt 15, 3) := getB' kX8_put 14 rfl
theorem dX8_put_26 : decode cX8_put 26 = .ok (.iload_n 2, 1) := getB' kX8_put 15 rfl
theorem dX8_put_27 : decode cX8_put 27 = .ok (.aload_n 0, 1) := getB' kX8_put 16 rfl
theorem dX8_put_28 : decode cX8_put 28 = .ok (.getfield 15, 3) := getB' kX8_put 17 rfl
theorem dX8_put_31 : decode cX8_put 31 = .ok (.if_icmp .ge 7, 3) := getB' kX8_put 18 rfl
theorem dX8_put_34 : decode cX8_put 34 = .ok (.iconst 1, 1) := getB' kX8_put 19 rfl
theorem dX8_put_35 : decode cX8_put 35 = .ok (.goto 4, 3) := getB' kX8_put 20 rfl
theorem dX8_put_38 : decode cX8_put 38 = .ok (.iconst 0, 1) := getB' kX8_put 21 rfl
theorem dX8_put_39 : decode cX8_put 39 = .ok (.istore 5, 2) := getB' kX8_put 22 rfl
theorem dX8_put_41 : decode cX8_put 41 = .ok (.iload 5, 2) := getB' kX8_put 23 rfl
theorem dX8_put_43 : decode cX8_put 43 = .ok (.ifCond .eq 26, 3) := getB' kX8_put 24 rfl
theorem dX8_put_46 : decode cX8_put 46 = .ok (.iload 4, 2) := getB' kX8_put 25 rfl
theorem dX8_put_48 : decode cX8_put 48 = .ok (.ifCond .lt 21, 3) := getB' kX8_put 26 rfl
theorem dX8_put_51 : decode cX8_put 51 = .ok (.iload 4, 2) := getB' kX8_put 27 rfl
theorem dX8_put_53 : decode cX8_put 53 = .ok (.aload_n 0, 1) := getB' kX8_put 28 rfl
theorem dX8_put_54 : decode cX8_put 54 = .ok (.getfield 27, 3) := getB' kX8_put 29 rfl
theorem dX8_put_57 : decode cX8_put 57 = .ok (.arraylength, 1) := getB' kX8_put 30 rfl
theorem dX8_put_58 : decode cX8_put 58 = .ok (.if_icmp .ge 11, 3) := getB' kX8_put 31 rfl
theorem dX8_put_61 : decode cX8_put 61 = .ok (.aload_n 0, 1) := getB' kX8_put 32 rfl
theorem dX8_put_62 : decode cX8_put 62 = .ok (.getfield 27, 3) := getB' kX8_put 33 rfl
theorem dX8_put_65 : decode cX8_put 65 = .ok (.iload 4, 2) := getB' kX8_put 34 rfl
theorem dX8_put_67 : decode cX8_put 67 = .ok (.iload_n 3, 1) := getB' kX8_put 35 rfl
theorem dX8_put_68 : decode cX8_put 68 = .ok (.iastore, 1) := getB' kX8_put 36 rfl
theorem dX8_put_69 : decode cX8_put 69 = .ok (.return_, 1) := getB' kX8_put 37 rfl
def LX8_append : List (Nat × Instr × Nat) := [(0, .aload_n 0, 1), (1, .invokevirtual 31, 3), (4, .ifCond .eq 5, 3), (7, .iconst (-1), 1), (8, .ireturn, 1), (9, .aload_n 0, 1), (10, .getfield 9, 3), (13, .istore 6, 2), (15, .aload_n 0, 1), (16, .dup, 1), (17, .getfield 9, 3), (20, .iconst 1, 1), (21, .iadd, 1), (22, .putfield 9, 3), (25, .aload_n 0, 1), (26, .iload 6, 2), (28, .iconst 0, 1), (29, .iload_n 1, 1), (30, .invokevirtual 35, 3), (33, .aload_n 0, 1), (34, .iload 6, 2), (36, .iconst 1, 1), (37, .iload_n 2, 1), (38, .invokevirtual 35, 3), (41, .aload_n 0, 1), (42, .iload 6, 2), (44, .iconst 2, 1), (45, .iload_n 3, 1), (46, .invokevirtual 35, 3), (49, .aload_n 0, 1), (50, .iload 6, 2), (52, .iconst 3, 1), (53, .iload 4, 2), (55, .invokevirtual 35, 3), (58, .aload_n 0, 1), (59, .iload 6, 2), (61, .iconst 4, 1), (62, .iload 5, 2), (64, .invokevirtual 35, 3), (67, .iload 6, 2), (69, .ireturn, 1)]
theorem kX8_append : chkB cX8_append LX8_append = true := by decide +kernel
theorem dX8_append_0 : decode cX8_append 0 = .ok (.aload_n 0, 1) := getB' kX8_append 0 rfl
theorem dX8_append_1 : decode cX8_append 1 = .ok (.invokevirtual 31, 3) := getB' kX8_append 1 rfl
theorem dX8_append_4 : decode cX8_append 4 = .ok (.ifCond .eq 5, 3) := getB' kX8_append 2 rfl
theorem dX8_append_7 : decode cX8_append 7 = .ok (.iconst (-1), 1) := getB' kX8_append 3 rfl
theorem dX8_append_8 : decode cX8_append 8 = .ok (.ireturn, 1) := getB' kX8_append 4 rfl
theorem dX8_append_9 : decode cX8_append 9 = .ok (.aload_n 0, 1) := getB' kX8_append 5 rfl
theorem dX8_append_10 : decode cX8_append 10 = .ok (.getfield 9, 3) := getB' kX8_append 6 rfl
theorem dX8_append_13 : decode cX8_append 13 = .ok (.istore 6, 2) := getB' kX8_append 7 rfl
theorem dX8_append_15 : decode cX8_append 15 = .ok (.aload_n 0, 1) := getB' kX8_append 8 rfl
theorem dX8_append_16 : decode cX8_append 16 = .ok (.dup, 1) := getB' kX8_append 9 rfl
theorem dX8_append_17 : decode cX8_append 17 = .ok (.getfield 9, 3) := getB' kX8_append 10 rfl
theorem dX8_append_20 : decode cX8_append 20 = .ok (.iconst 1, 1) := getB' kX8_append 11 rfl
theorem dX8_append_21 : decode cX8_append 21 = .ok (.iadd, 1) := getB' kX8_append 12 rfl
theorem dX8_append_22 : decode cX8_append 22 = .ok (.putfield 9, 3) := getB' kX8_append 13 rfl
theorem dX8_append_25 : decode cX8_append 25 = .ok (.aload_n 0, 1) := getB' kX8_append 14 rfl
theorem dX8_append_26 : decode cX8_append 26 = .ok (.iload 6, 2) := getB' kX8_append 15 rfl
theorem dX8_append_28 : decode cX8_append 28 = .ok (.iconst 0, 1) := getB' kX8_append 16 rfl
theorem dX8_append_29 : decode cX8_append 29 = .ok (.iload_n 1, 1) := getB' kX8_append 17 rfl
theorem dX8_append_30 : decode cX8_append 30 = .ok (.invokevirtual 35, 3) := getB' kX8_append 18 rfl
theorem dX8_append_33 : decode cX8_append 33 = .ok (.aload_n 0, 1) := getB' kX8_append 19 rfl
theorem dX8_append_34 : decode cX8_append 34 = .ok (.iload 6, 2) := getB' kX8_append 20 rfl
theorem dX8_append_36 : decode cX8_append 36 = .ok (.iconst 1, 1) := getB' kX8_append 21 rfl
theorem dX8_append_37 : decode cX8_append 37 = .ok (.iload_n 2, 1) := getB' kX8_append 22 rfl
theorem dX8_append_38 : decode cX8_append 38 = .ok (.invokevirtual 35, 3) := getB' kX8_append 23 rfl
theorem dX8_append_41 : decode cX8_append 41 = .ok (.aload_n 0, 1) := getB' kX8_append 24 rfl
theorem dX8_append_42 : decode cX8_append 42 = .ok (.iload 6, 2) := getB' kX8_append 25 rfl
theorem dX8_append_44 : decode cX8_append 44 = .ok (.iconst 2, 1) := getB' kX8_append 26 rfl
theorem dX8_append_45 : decode cX8_append 45 = .ok (.iload_n 3, 1) := getB' kX8_append 27 rfl
theorem dX8_append_46 : decode cX8_append 46 = .ok (.invokevirtual 35, 3) := getB' kX8_append 28 rfl
theorem dX8_append_49 : decode cX8_append 49 = .ok (.aload_n 0, 1) := getB' kX8_append 29 rfl
theorem dX8_append_50 : decode cX8_append 50 = .ok (.iload 6, 2) := getB' kX8_append 30 rfl
theorem dX8_append_52 : decode cX8_append 52 = .ok (.iconst 3, 1) := getB' kX8_append 31 rfl
theorem dX8_append_53 : decode cX8_append 53 = .ok (.iload 4, 2) := getB' kX8_append 32 rfl
theorem dX8_append_55 : decode cX8_append 55 = .ok (.invokevirtual 35, 3) := getB' kX8_append 33 rfl
theorem dX8_append_58 : decode cX8_append 58 = .ok (.aload_n 0, 1) := getB' kX8_append 34 rfl
theorem dX8_append_59 : decode cX8_append 59 = .ok (.iload 6, 2) := getB' kX8_append 35 rfl
theorem dX8_append_61 : decode cX8_append 61 = .ok (.iconst 4, 1) := getB' kX8_append 36 rfl
theorem dX8_append_62 : decode cX8_append 62 = .ok (.iload 5, 2) := getB' kX8_append 37 rfl
theorem dX8_append_64 : decode cX8_append 64 = .ok (.invokevirtual 35, 3) := getB' kX8_append 38 rfl
theorem dX8_append_67 : decode cX8_append 67 = .ok (.iload 6, 2) := getB' kX8_append 39 rfl
theorem dX8_append_69 : decode cX8_append 69 = .ok (.ireturn, 1) := getB' kX8_append 40 rfl
def LX9_init : List (Nat × Instr × Nat) := [(0, .aload_n 0, 1), (1, .invokespecial 3, 3), (4, .aload_n 0, 1), (5, .iconst 0, 1), (6, .putfield 9, 3), (9, .aload_n 0, 1), (10, .iload_n 1, 1), (11, .putfield 15, 3), (14, .aload_n 0, 1), (15, .iload_n 2, 1), (16, .putfield 18, 3), (19, .aload_n 0, 1), (20, .new 21, 3), (23, .dup, 1), (24, .bipush 6, 2), (26, .iload 4, 2), (28, .invokespecial 23, 3), (31, .putfield 26, 3), (34, .aload_n 0, 1), (35, .iconst 0, 1), (36, .iload_n 3, 1), (37, .invokestatic 30, 3), (40, .newarray .int, 2), (42, .putfield 36, 3), (45, .return_, 1)]
theorem kX9_init : chkB cX9_init LX9_init = true := by decide +kernel
theorem dX9_init_0 : decode cX9_init 0 = .ok (.aload_n 0, 1) := getB' kX9_init 0 rfl
theorem dX9_init_1 : decode cX9_init 1 = .ok (.invokespecial 3, 3) := getB' kX9_init 1 rfl
theorem dX9_init_4 : decode cX9_init 4 = .ok (.aload_n 0, 1) := getB' kX9_init 2 rfl
theorem dX9_init_5 : decode cX9_init 5 = .ok (.iconst 0, 1) := getB' kX9_init 3 rfl
theorem dX9_init_6 : decode cX9_init 6 = .ok (.putfield 9, 3) := getB' kX9_init 4 rfl
theorem dX9_init_9 : decode cX9_init 9 = .ok (.aload_n 0, 1) := getB' kX9_init 5 rfl
theorem dX9_init_10 : decode cX9_init 10 = .ok (.iload_n 1, 1) := getB' kX9_init 6 rfl
theorem dX9_init_11 : decode cX9_init 11 = .ok (.putfield 15, 3) := getB' kX9_init 7 rfl
theorem dX9_init_14 : decode cX9_init 14 = .ok (.aload_n 0, 1) := getB' kX9_init 8 rfl
theorem dX9_init_15 : decode cX9_init 15 = .ok (.iload_n 2, 1) := getB' kX9_init 9 rfl
theorem dX9_init_16 : decode cX9_init 16 = .ok (.putfield 18, 3) := getB' kX9_init 10 rfl
theorem dX9_init_19 : decode cX9_init 19 = .ok (.aload_n 0, 1) := getB' kX9_init 11 rfl
theorem dX9_init_20 : decode cX9_init 20 = .ok (.new 21, 3) := getB' kX9_init 12 rfl
theorem dX9_init_23 : decode cX9_init 23 = .ok (.dup, 1) := getB' kX9_init 13 rfl
theorem dX9_init_24 : decode cX9_init 24 = .ok (.bipush 6, 2) := getB' kX9_init 14 rfl
theorem dX9_init_26 : decode cX9_init 26 = .ok (.iload 4, 2) := getB' kX9_init 15 rfl
theorem dX9_init_28 : decode cX9_init 28 = .ok (.invokespecial 23, 3) := getB' kX9_init 16 rfl
theorem dX9_init_31 : decode cX9_init 31 = .ok (.putfield 26, 3) := getB' kX9_init 17 rfl
theorem dX9_init_34 : decode cX9_init 34 = .ok (.aload_n 0, 1) := getB' kX9_init 18 rfl
theorem dX9_init_35 : decode cX9_init 35 = .ok (.iconst 0, 1) := getB' kX9_init 19 rfl
theorem dX9_init_36 : decode cX9_init 36 = .ok (.iload_n 3, 1) := getB' kX9_init 20 rfl
theorem dX9_init_37 : decode cX9_init 37 = .ok (.invokestatic 30, 3) := getB' kX9_init 21 rfl
theorem dX9_init_40 : decode cX9_init 40 = .ok (.newarray .int, 2) := getB' kX9_init 22 rfl
theorem dX9_init_42 : decode cX9_init 42 = .ok (.putfield 36, 3) := getB' kX9_init 23 rfl
theorem dX9_init_45 : decode cX9_init 45 = .ok (.return_, 1) := getB' kX9_init 24 rfl
def LX9_isInForce : List (Nat × Instr × Nat) := [(0, .iload_n 1, 1), (1, .aload_n 0, 1), (2, .getfield 15, 3), (5, .if_icmp .lt 15, 3), (8, .iload_n 1, 1), (9, .aload_n 0, 1), (10, .getfield 18, 3), (13, .if_icmp .gt 7, 3), (16, .iconst 1, 1), (17, .goto 4, 3), (20, .iconst 0, 1), (21, .ireturn, 1)]
theorem kX9_isInForce : chkB cX9_isInForce LX9_isInForce = true := by decide +kernel
theorem dX9_isInForce_0 : decode cX9_isInForce 0 = .ok (.iload_n 1, 1) := getB' kX9_isInForce 0 rfl
theorem dX9_isInForce_1 : decode cX9_isInForce 1 = .ok (.aload_n 0, 1) := getB' kX9_isInForce 1 rfl
theorem dX9_isInForce_2 : decode cX9_isInForce 2 = .ok (.getfield 15, 3) := getB' kX9_isInForce 2 rfl
theorem dX9_isInForce_5 : decode cX9_isInForce 5 = .ok (.if_icmp .lt 15, 3) := getB' kX9_isInForce 3 rfl
theorem dX9_isInForce_8 : decode cX9_isInForce 8 = .ok (.iload_n 1, 1) := getB' kX9_isInForce 4 rfl
theorem dX9_isInForce_9 : decode cX9_isInForce 9 = .ok (.aload_n 0, 1) := getB' kX9_isInForce 5 rfl
theorem dX9_isInForce_10 : decode cX9_isInForce 10 = .ok (.getfield 18, 3) := getB' kX9_isInForce 6 rfl
theorem dX9_isInForce_13 : decode cX9_isInForce 13 = .ok (.if_icmp .gt 7, 3) := getB' kX9_isInForce 7 rfl
theorem dX9_isInForce_16 : decode cX9_isInForce 16 = .ok (.iconst 1, 1) := getB' kX9_isInForce 8 rfl
theorem dX9_isInForce_17 : decode cX9_isInForce 17 = .ok (.goto 4, 3) := getB' kX9_isInForce 9 rfl
theorem dX9_isInForce_20 : decode cX9_isInForce 20 = .ok (.iconst 0, 1) := getB' kX9_isInForce 10 rfl
theorem dX9_isInForce_21 : decode cX9_isInForce 21 = .ok (.ireturn, 1) := getB' kX9_isInForce 11 rfl
def LX9_letterOf : List (Nat × Instr × Nat) := [(0, .aload_n 0, 1), (1, .getfield 26, 3), (4, .iload_n 1, 1), (5, .iconst 0, 1), (6, .invokevirtual 40, 3), (9, .ireturn, 1)]
theorem kX9_letterOf : chkB cX9_letterOf LX9_letterOf = true := by decide +kernel
theorem dX9_letterOf_0 : decode cX9_letterOf 0 = .ok (.aload_n 0, 1) := getB' kX9_letterOf 0 rfl
theorem dX9_letterOf_1 : decode cX9_letterOf 1 = .ok (.getfield 26, 3) := getB' kX9_letterOf 1 rfl
theorem dX9_letterOf_4 : decode cX9_letterOf 4 = .ok (.iload_n 1, 1) := getB' kX9_letterOf 2 rfl
theorem dX9_letterOf_5 : decode cX9_letterOf 5 = .ok (.iconst 0, 1) := getB' kX9_letterOf 3 rfl
theorem dX9_letterOf_6 : decode cX9_letterOf 6 = .ok (.invokevirtual 40, 3) := getB' kX9_letterOf 4 rfl
theorem dX9_letterOf_9 : decode cX9_letterOf 9 = .ok (.ireturn, 1) := getB' kX9_letterOf 5 rfl
def LX9_hasCondition : List (Nat × Instr × Nat) := [(0, .aload_n 0, 1), (1, .getfield 26, 3), (4, .iload_n 1, 1), (5, .invokevirtual 43, 3), (8, .ifCond .eq 28, 3), (11, .aload_n 0, 1), (12, .getfield 26, 3), (15, .iload_n 1, 1), (16, .iconst 5, 1), (17, .invokevirtual 40, 3), (20, .aload_n 0, 1), (21, .getfield 26, 3), (24, .iload_n 1, 1), (25, .iconst 4, 1), (26, .invokevirtual 40, 3), (29, .if_icmp .le 7, 3), (32, .iconst 1, 1), (33, .goto 4, 3), (36, .iconst 0, 1), (37, .ireturn, 1)]
theorem kX9_hasCondition : chkB cX9_hasCondition LX9_hasCondition = true := by decide +kernel
theorem dX9_hasCondition_0 : decode cX9_hasCondition 0 = .ok (.aload_n 0, 1) := getB' kX9_hasCondition 0 rfl
theorem dX9_hasCondition_1 : decode cX9_hasCondition 1 = .ok (.getfield 26, 3) := getB' kX9_hasCondition 1 rfl
theorem dX9_hasCondition_4 : decode cX9_hasCondition 4 = .ok (.iload_n 1, 1) := getB' kX9_hasCondition 2 rfl
theorem dX9_hasCondition_5 : decode cX9_hasCondition 5 = .ok (.invokevirtual 43, 3) := getB' kX9_hasCondition 3 rfl
theorem dX9_hasCondition_8 : decode cX9_hasCondition 8 = .ok (.ifCond .eq 28, 3) := getB' kX9_hasCondition 4 rfl
theorem dX9_hasCondition_11 : decode cX9_hasCondition 11 = .ok (.aload_n 0, 1) := getB' kX9_hasCondition 5 rfl
theorem dX9_hasCondition_12 : decode cX9_hasCondition 12 = .ok (.getfield 26, 3) := getB' kX9_hasCondition 6 rfl
theorem dX9_hasCondition_15 : decode cX9_hasCondition 15 = .ok (.iload_n 1, 1) := getB' kX9_hasCondition 7 rfl
theorem dX9_hasCondition_16 : decode cX9_hasCondition 16 = .ok (.iconst 5, 1) := getB' kX9_hasCondition 8 rfl
theorem dX9_hasCondition_17 : decode cX9_hasCondition 17 = .ok (.invokevirtual 40, 3) := getB' kX9_hasCondition 9 rfl
theorem dX9_hasCondition_20 : decode cX9_hasCondition 20 = .ok (.aload_n 0, 1) := getB' kX9_hasCondition 10 rfl
theorem dX9_hasCondition_21 : decode cX9_hasCondition 21 = .ok (.getfield 26, 3) := getB' kX9_hasCondition 11 rfl
theorem dX9_hasCondition_24 : decode cX9_hasCondition 24 = .ok (.iload_n 1, 1) := getB' kX9_hasCondition 12 rfl
theorem dX9_hasCondition_25 : decode cX9_hasCondition 25 = .ok (.iconst 4, 1) := getB' kX9_hasCondition 13 rfl
theorem dX9_hasCondition_26 : decode cX9_hasCondition 26 = .ok (.invokevirtual 40, 3) := getB' kX9_hasCondition 14 rfl
theorem dX9_hasCondition_29 : decode cX9_hasCondition 29 = .ok (.if_icmp .le 7, 3) := getB' kX9_hasCondition 15 rfl
theorem dX9_hasCondition_32 : decode cX9_hasCondition 32 = .ok (.iconst 1, 1) := getB' kX9_hasCondition 16 rfl
theorem dX9_hasCondition_33 : decode cX9_hasCondition 33 = .ok (.goto 4, 3) := getB' kX9_hasCondition 17 rfl
theorem dX9_hasCondition_36 : decode cX9_hasCondition 36 = .ok (.iconst 0, 1) := getB' kX9_hasCondition 18 rfl
theorem dX9_hasCondition_37 : decode cX9_hasCondition 37 = .ok (.ireturn, 1) := getB' kX9_hasCondition 19 rfl
def LX9_addStep : List (Nat × Instr × Nat) := [(0, .aload_n 0, 1), (1, .getfield 9, 3), (4, .istore_n 3, 1), (5, .aload_n 0, 1), (6, .getfield 36, 3), (9, .iload_n 3, 1), (10, .iload_n 2, 1), (11, .iconst 5, 1), (12, .ishl, 1), (13, .iload_n 1, 1), (14, .ior, 1), (15, .invokestatic 47, 3), (18, .aload_n 0, 1), (19, .dup, 1), (20, .getfield 9, 3), (23, .iconst 1, 1), (24, .iadd, 1), (25, .putfield 9, 3), (28, .iload_n 3, 1), (29, .ireturn, 1)]
theorem kX9_addStep : chkB cX9_addStep LX9_addStep = true := by decide +kernel
theorem dX9_addStep_0 : decode cX9_addStep 0 = .ok (.aload_n 0, 1) := getB' kX9_addStep 0 rfl
theorem dX9_addStep_1 : decode cX9_addStep 1 = .ok (.getfield 9, 3) := getB' kX9_addStep 1 rfl
theorem dX9_addStep_4 : decode cX9_addStep 4 = .ok (.istore_n 3, 1) := getB' kX9_addStep 2 rfl
theorem dX9_addStep_5 : decode cX9_addStep 5 = .ok (.aload_n 0, 1) := getB' kX9_addStep 3 rfl
theorem dX9_addStep_6 : decode cX9_addStep 6 = .ok (.getfield 36, 3) := getB' kX9_addStep 4 rfl
theorem dX9_addStep_9 : decode cX9_addStep 9 = .ok (.iload_n 3, 1) := getB' kX9_addStep 5 rfl
theorem dX9_addStep_10 : decode cX9_addStep 10 = .ok (.iload_n 2, 1) := getB' kX9_addStep 6 rfl
theorem dX9_addStep_11 : decode cX9_addStep 11 = .ok (.iconst 5, 1) := getB' kX9_addStep 7 rfl
theorem dX9_addStep_12 : decode cX9_addStep 12 = .ok (.ishl, 1) := getB' kX9_addStep 8 rfl
theorem dX9_addStep_13 : decode cX9_addStep 13 = .ok (.iload_n 1, 1) := getB' kX9_addStep 9 rfl
theorem dX9_addStep_14 : decode cX9_addStep 14 = .ok (.ior, 1) := getB' kX9_addStep 10 rfl
theorem dX9_addStep_15 : decode cX9_addStep 15 = .ok (.invokestatic 47, 3) := getB' kX9_addStep 11 rfl
theorem dX9_addStep_18 : decode cX9_addStep 18 = .ok (.aload_n 0, 1) := getB' kX9_addStep 12 rfl
theorem dX9_addStep_19 : decode cX9_addStep 19 = .ok (.dup, 1) := getB' kX9_addStep 13 rfl
theorem dX9_addStep_20 : decode cX9_addStep 20 = .ok (.getfield 9, 3) := getB' kX9_addStep 14 rfl
theorem dX9_addStep_23 : decode cX9_addStep 23 = .ok (.iconst 1, 1) := getB' kX9_addStep 15 rfl
theorem dX9_addStep_24 : decode cX9_addStep 24 = .ok (.iadd, 1) := getB' kX9_addStep 16 rfl
theorem dX9_addStep_25 : decode cX9_addStep 25 = .ok (.putfield 9, 3) := getB' kX9_addStep 17 rfl
theorem dX9_addStep_28 : decode cX9_addStep 28 = .ok (.iload_n 3, 1) := getB' kX9_addStep 18 rfl
theorem dX9_addStep_29 : decode cX9_addStep 29 = .ok (.ireturn, 1) := getB' kX9_addStep 19 rfl
def LX9_lead : List (Nat × Instr × Nat) := [(0, .iload_n 1, 1), (1, .iconst (-1), 1), (2, .if_icmp .eq 29, 3), (5, .aload_n 0, 1), (6, .getfield 36, 3), (9, .iload_n 1, 1), (10, .aload_n 0, 1), (11, .getfield 9, 3), (14, .iconst 5, 1), (15, .ishl, 1), (16, .aload_n 0, 1), (17, .getfield 36, 3), (20, .iload_n 1, 1), (21, .invokestatic 53, 3), (24, .bipush 31, 2), (26, .iand, 1), (27, .ior, 1), (28, .invokestatic 47, 3), (31, .return_, 1)]
theorem kX9_lead : chkB cX9_lead LX9_lead = true := by decide +kernel
theorem dX9_lead_0 : decode cX9_lead 0 = .ok (.iload_n 1, 1) := getB' kX9_lead 0 rfl
theorem dX9_lead_1 : decode cX9_lead 1 = .ok (.iconst (-1), 1) := getB' kX9_lead 1 rfl
theorem dX9_lead_2 : decode cX9_lead 2 = .ok (.if_icmp .eq 29, 3) := getB' kX9_lead 2 rfl
theorem dX9_lead_5 : decode cX9_lead 5 = .ok (.aload_n 0, 1) := getB' kX9_lead 3 rfl
theorem dX9_lead_6 : decode cX9_lead 6 = .ok (.getfield 36, 3) := getB' kX9_lead 4 rfl
theorem dX9_lead_9 : decode cX9_lead 9 = .ok (.iload_n 1, 1) := getB' kX9_lead 5 rfl
theorem dX9_lead_10 : decode cX9_lead 10 = .ok (.aload_n 0, 1) := getB' kX9_lead 6 rfl
theorem dX9_lead_11 : decode cX9_lead 11 = .ok (.getfield 9, 3) := getB' kX9_lead 7 rfl
theorem dX9_lead_14 : decode cX9_lead 14 = .ok (.iconst 5, 1) := getB' kX9_lead 8 rfl
theorem dX9_lead_15 : decode cX9_lead 15 = .ok (.ishl, 1) := getB' kX9_lead 9 rfl
theorem dX9_lead_16 : decode cX9_lead 16 = .ok (.aload_n 0, 1) := getB' kX9_lead 10 rfl
theorem dX9_lead_17 : decode cX9_lead 17 = .ok (.getfield 36, 3) := getB' kX9_lead 11 rfl
theorem dX9_lead_20 : decode cX9_lead 20 = .ok (.iload_n 1, 1) := getB' kX9_lead 12 rfl
theorem dX9_lead_21 : decode cX9_lead 21 = .ok (.invokestatic 53, 3) := getB' kX9_lead 13 rfl
theorem dX9_lead_24 : decode cX9_lead 24 = .ok (.bipush 31, 2) := getB' kX9_lead 14 rfl
theorem dX9_lead_26 : decode cX9_lead 26 = .ok (.iand, 1) := getB' kX9_lead 15 rfl
theorem dX9_lead_27 : decode cX9_lead 27 = .ok (.ior, 1) := getB' kX9_lead 16 rfl
theorem dX9_lead_28 : decode cX9_lead 28 = .ok (.invokestatic 47, 3) := getB' kX9_lead 17 rfl
theorem dX9_lead_31 : decode cX9_lead 31 = .ok (.return_, 1) := getB' kX9_lead 18 rfl
def LX10_init : List (Nat × Instr × Nat) := [(0, .aload_n 0, 1), (1, .invokespecial 3, 3), (4, .aload_n 0, 1), (5, .iconst 0, 1), (6, .putfield 9, 3), (9, .aload_n 0, 1), (10, .iconst 0, 1), (11, .putfield 15, 3), (14, .aload_n 0, 1), (15, .iconst 0, 1), (16, .putfield 18, 3), (19, .aload_n 0, 1), (20, .iconst 0, 1), (21, .putfield 21, 3), (24, .aload_n 0, 1), (25, .iconst (-1), 1), (26, .putfield 24, 3), (29, .aload_n 0, 1), (30, .iconst (-1), 1), (31, .putfield 27, 3), (34, .aload_n 0, 1), (35, .iconst (-1), 1), (36, .putfield 30, 3), (39, .aload_n 0, 1), (40, .iconst (-1), 1), (41, .putfield 33, 3), (44, .aload_n 0, 1), (45, .iconst 0, 1), (46, .putfield 36, 3), (49, .aload_n 0, 1), (50, .iconst 0, 1), (51, .putfield 39, 3), (54, .aload_n 0, 1), (55, .iload_n 1, 1), (56, .putfield 42, 3), (59, .aload_n 0, 1), (60, .iload_n 2, 1), (61, .putfield 45, 3), (64, .aload_n 0, 1), (65, .iload_n 3, 1), (66, .putfield 48, 3), (69, .aload_n 0, 1), (70, .iload 4, 2), (72, .putfield 51, 3), (75, .aload_n 0, 1), (76, .iload 5, 2), (78, .putfield 54, 3), (81, .return_, 1)]
theorem kX10_init : chkB cX10_init LX10_init = true := by decide +kernel
theorem dX10_init_0 : decode cX10_init 0 = .ok (.aload_n 0, 1) := getB' kX10_init 0 rfl
theorem dX10_init_1 : decode cX10_init 1 = .ok (.invokespecial 3, 3) := getB' kX10_init 1 rfl
theorem dX10_init_4 : decode cX10_init 4 = .ok (.aload_n 0, 1) := getB' kX10_init 2 rfl
theorem dX10_init_5 : decode cX10_init 5 = .ok (.iconst 0, 1) := getB' kX10_init 3 rfl
theorem dX10_init_6 : decode cX10_init 6 = .ok (.putfield 9, 3) := getB' kX10_init 4 rfl
theorem dX10_init_9 : decode cX10_init 9 = .ok (.aload_n 0, 1) := getB' kX10_init 5 rfl
theorem dX10_init_10 : decode cX10_init 10 = .ok (.iconst 0, 1) := getB' kX10_init 6 rfl
theorem dX10_init_11 : decode cX10_init 11 = .ok (.putfield 15, 3) := getB' kX10_init 7 rfl
theorem dX10_init_14 : decode cX10_init 14 = .ok (.aload_n 0, 1) := getB' kX10_init 8 rfl
theorem dX10_init_15 : decode cX10_init 15 = .ok (.iconst 0, 1) := getB' kX10_init 9 rfl
theorem dX10_init_16 : decode cX10_init 16 = .ok (.putfield 18, 3) := getB' kX10_init 10 rfl
theorem dX10_init_19 : decode cX10_init 19 = .ok (.aload_n 0, 1) := getB' kX10_init 11 rfl
theorem dX10_init_20 : decode cX10_init 20 = .ok (.iconst 0, 1) := getB' kX10_init 12 rfl
theorem dX10_init_21 : decode cX10_init 21 = .ok (.putfield 21, 3) := getB' kX10_init 13 rfl
theorem dX10_init_24 : decode cX10_init 24 = .ok (.aload_n 0, 1) := getB' kX10_init 14 rfl
theorem dX10_init_25 : decode cX10_init 25 = .ok (.iconst (-1), 1) := getB' kX10_init 15 rfl
theorem dX10_init_26 : decode cX10_init 26 = .ok (.putfield 24, 3) := getB' kX10_init 16 rfl
theorem dX10_init_29 : decode cX10_init 29 = .ok (.aload_n 0, 1) := getB' kX10_init 17 rfl
theorem dX10_init_30 : decode cX10_init 30 = .ok (.iconst (-1), 1) := getB' kX10_init 18 rfl
theorem dX10_init_31 : decode cX10_init 31 = .ok (.putfield 27, 3) := getB' kX10_init 19 rfl
theorem dX10_init_34 : decode cX10_init 34 = .ok (.aload_n 0, 1) := getB' kX10_init 20 rfl
theorem dX10_init_35 : decode cX10_init 35 = .ok (.iconst (-1), 1) := getB' kX10_init 21 rfl
theorem dX10_init_36 : decode cX10_init 36 = .ok (.putfield 30, 3) := getB' kX10_init 22 rfl
theorem dX10_init_39 : decode cX10_init 39 = .ok (.aload_n 0, 1) := getB' kX10_init 23 rfl
theorem dX10_init_40 : decode cX10_init 40 = .ok (.iconst (-1), 1) := getB' kX10_init 24 rfl
theorem dX10_init_41 : decode cX10_init 41 = .ok (.putfield 33, 3) := getB' kX10_init 25 rfl
theorem dX10_init_44 : decode cX10_init 44 = .ok (.aload_n 0, 1) := getB' kX10_init 26 rfl
theorem dX10_init_45 : decode cX10_init 45 = .ok (.iconst 0, 1) := getB' kX10_init 27 rfl
theorem dX10_init_46 : decode cX10_init 46 = .ok (.putfield 36, 3) := getB' kX10_init 28 rfl
theorem dX10_init_49 : decode cX10_init 49 = .ok (.aload_n 0, 1) := getB' kX10_init 29 rfl
theorem dX10_init_50 : decode cX10_init 50 = .ok (.iconst 0, 1) := getB' kX10_init 30 rfl
theorem dX10_init_51 : decode cX10_init 51 = .ok (.putfield 39, 3) := getB' kX10_init 31 rfl
theorem dX10_init_54 : decode cX10_init 54 = .ok (.aload_n 0, 1) := getB' kX10_init 32 rfl
theorem dX10_init_55 : decode cX10_init 55 = .ok (.iload_n 1, 1) := getB' kX10_init 33 rfl
theorem dX10_init_56 : decode cX10_init 56 = .ok (.putfield 42, 3) := getB' kX10_init 34 rfl
theorem dX10_init_59 : decode cX10_init 59 = .ok (.aload_n 0, 1) := getB' kX10_init 35 rfl
theorem dX10_init_60 : decode cX10_init 60 = .ok (.iload_n 2, 1) := getB' kX10_init 36 rfl
theorem dX10_init_61 : decode cX10_init 61 = .ok (.putfield 45, 3) := getB' kX10_init 37 rfl
theorem dX10_init_64 : decode cX10_init 64 = .ok (.aload_n 0, 1) := getB' kX10_init 38 rfl
theorem dX10_init_65 : decode cX10_init 65 = .ok (.iload_n 3, 1) := getB' kX10_init 39 rfl
theorem dX10_init_66 : decode cX10_init 66 = .ok (.putfield 48, 3) := getB' kX10_init 40 rfl
theorem dX10_init_69 : decode cX10_init 69 = .ok (.aload_n 0, 1) := getB' kX10_init 41 rfl
theorem dX10_init_70 : decode cX10_init 70 = .ok (.iload 4, 2) := getB' kX10_init 42 rfl
theorem dX10_init_72 : decode cX10_init 72 = .ok (.putfield 51, 3) := getB' kX10_init 43 rfl
theorem dX10_init_75 : decode cX10_init 75 = .ok (.aload_n 0, 1) := getB' kX10_init 44 rfl
theorem dX10_init_76 : decode cX10_init 76 = .ok (.iload 5, 2) := getB' kX10_init 45 rfl
theorem dX10_init_78 : decode cX10_init 78 = .ok (.putfield 54, 3) := getB' kX10_init 46 rfl
theorem dX10_init_81 : decode cX10_init 81 = .ok (.return_, 1) := getB' kX10_init 47 rfl
def LX11_ice : List (Nat × Instr × Nat) := [(0, .iload_n 1, 1), (1, .iconst 4, 1), (2, .bipush 12, 2), (4, .invokestatic 112, 3), (7, .ifCond .eq 27, 3), (10, .iload_n 2, 1), (11, .iconst 4, 1), (12, .bipush 12, 2), (14, .invokestatic 112, 3), (17, .ifCond .eq 17, 3), (20, .aload_n 0, 1), (21, .getfield 46, 3), (24, .ifCond .gt 10, 3), (27, .aload_n 0, 1), (28, .getfield 55, 3), (31, .ifCond .le 5, 3), (34, .iconst 0, 1), (35, .ireturn, 1), (36, .aload_n 0, 1), (37, .getfield 12, 3), (40, .iload_n 1, 1), (41, .iload_n 2, 1), (42, .invokevirtual 116, 3), (45, .iconst 1, 1), (46, .ireturn, 1)]
theorem kX11_ice : chkB cX11_ice LX11_ice = true := by decide +kernel
theorem dX11_ice_0 : decode cX11_ice 0 = .ok (.iload_n 1, 1) := getB' kX11_ice 0 rfl
theorem dX11_ice_1 : decode cX11_ice 1 = .ok (.iconst 4, 1) := getB' kX11_ice 1 rfl
theorem dX11_ice_2 : decode cX11_ice 2 = .ok (.bipush 12, 2) := getB' kX11_ice 2 rfl
theorem dX11_ice_4 : decode cX11_ice 4 = .ok (.invokestatic 112, 3) := getB' kX11_ice 3 rfl
theorem dX11_ice_7 : decode cX11_ice 7 = .ok (.ifCond .eq 27, 3) := getB' kX11_ice 4 rfl
theorem dX11_ice_10 : decode cX11_ice 10 = .ok (.iload_n 2, 1) := getB' kX11_ice 5 rfl
theorem dX11_ice_11 : decode cX11_ice 11 = .ok (.iconst 4, 1) := getB' kX11_ice 6 rfl
theorem dX11_ice_12 : decode cX11_ice 12 = .ok (.bipush 12, 2) := getB' kX11_ice 7 rfl
theorem dX11_ice_14 : decode cX11_ice 14 = .ok (.invokestatic 112, 3) := getB' kX11_ice 8 rfl
theorem dX11_ice_17 : decode cX11_ice 17 = .ok (.ifCond .eq 17, 3) := getB' kX11_ice 9 rfl
theorem dX11_ice_20 : decode cX11_ice 20 = .ok (.aload_n 0, 1) := getB' kX11_ice 10 rfl
theorem dX11_ice_21 : decode cX11_ice 21 = .ok (.getfield 46, 3) := getB' kX11_ice 11 rfl
theorem dX11_ice_24 : decode cX11_ice 24 = .ok (.ifCond .gt 10, 3) := getB' kX11_ice 12 rfl
theorem dX11_ice_27 : decode cX11_ice 27 = .ok (.aload_n 0, 1) := getB' kX11_ice 13 rfl
theorem dX11_ice_28 : decode cX11_ice 28 = .ok (.getfield 55, 3) := getB' kX11_ice 14 rfl
theorem dX11_ice_31 : decode cX11_ice 31 = .ok (.ifCond .le 5, 3) := getB' kX11_ice 15 rfl
theorem dX11_ice_34 : decode cX11_ice 34 = .ok (.iconst 0, 1) := getB' kX11_ice 16 rfl
theorem dX11_ice_35 : decode cX11_ice 35 = .ok (.ireturn, 1) := getB' kX11_ice 17 rfl
theorem dX11_ice_36 : decode cX11_ice 36 = .ok (.aload_n 0, 1) := getB' kX11_ice 18 rfl
theorem dX11_ice_37 : decode cX11_ice 37 = .ok (.getfield 12, 3) := getB' kX11_ice 19 rfl
theorem dX11_ice_40 : decode cX11_ice 40 = .ok (.iload_n 1, 1) := getB' kX11_ice 20 rfl
theorem dX11_ice_41 : decode cX11_ice 41 = .ok (.iload_n 2, 1) := getB' kX11_ice 21 rfl
theorem dX11_ice_42 : decode cX11_ice 42 = .ok (.invokevirtual 116, 3) := getB' kX11_ice 22 rfl
theorem dX11_ice_45 : decode cX11_ice 45 = .ok (.iconst 1, 1) := getB' kX11_ice 23 rfl
theorem dX11_ice_46 : decode cX11_ice 46 = .ok (.ireturn, 1) := getB' kX11_ice 24 rfl
def LX11_cell : List (Nat × Instr × Nat) := [(0, .iload 4, 2), (2, .iconst (-1), 1), (3, .if_icmp .ne 12, 3), (6, .iload 5, 2), (8, .ifCond .ne 7, 3), (11, .iconst 1, 1), (12, .goto 4, 3), (15, .iconst 0, 1), (16, .istore 6, 2), (18, .iload 4, 2), (20, .iconst 0, 1), (21, .bipush 7, 2), (23, .invokestatic 112, 3), (26, .ifCond .eq 20, 3), (29, .iload 5, 2), (31, .bipush 10, 2), (33, .sipush 3600, 3), (36, .invokestatic 112, 3), (39, .ifCond .eq 7, 3), (42, .iconst 1, 1), (43, .goto 4, 3), (46, .iconst 0, 1), (47, .istore 7, 2), (49, .aload_n 0, 1), (50, .getfield 12, 3), (53, .iload_n 1, 1), (54, .invokevirtual 119, 3), (57, .ifCond .eq 32, 3), (60, .iload_n 2, 1), (61, .iconst 0, 1), (62, .bipush 40, 2), (64, .invokestatic 112, 3), (67, .ifCond .eq 22, 3), (70, .iload_n 3, 1), (71, .iconst 0, 1), (72, .iconst 3, 1), (73, .invokestatic 112, 3), (76, .ifCond .eq 13, 3), (79, .iload 6, 2), (81, .ifCond .ne 10, 3), (84, .iload 7, 2), (86, .ifCond .ne 5, 3), (89, .iconst 0, 1), (90, .ireturn, 1), (91, .aload_n 0, 1), (92, .getfield 12, 3), (95, .getfield 123, 3), (98, .iload_n 1, 1), (99, .iload_n 2, 1), (100, .invokestatic 108, 3), (103, .aload_n 0, 1), (104, .getfield 12, 3), (107, .getfield 126, 3), (110, .iload_n 1, 1), (111, .iload_n 3, 1), (112, .invokestatic 108, 3), (115, .aload_n 0, 1), (116, .getfield 12, 3), (119, .getfield 129, 3), (122, .iload_n 1, 1), (123, .iload 4, 2), (125, .invokestatic 108, 3), (128, .aload_n 0, 1), (129, .getfield 12, 3), (132, .getfield 132, 3), (135, .iload_n 1, 1), (136, .iload 5, 2), (138, .invokestatic 108, 3), (141, .iconst 1, 1), (142, .ireturn, 1)]
theorem kX11_cell : chkB cX11_cell LX11_cell = true := by decide +kernel
theorem dX11_cell_0 : decode cX11_cell 0 = .ok (.iload 4, 2) := getB' kX11_cell 0 rfl
theorem dX11_cell_2 : decode cX11_cell 2 = .ok (.iconst (-1), 1) := getB' kX11_cell 1 rfl
theorem dX11_cell_3 : decode cX11_cell 3 = .ok (.if_icmp .ne 12, 3) := getB' kX11_cell 2 rfl
theorem dX11_cell_6 : decode cX11_cell 6 = .ok (.iload 5, 2) := getB' kX11_cell 3 rfl
theorem dX11_cell_8 : decode cX11_cell 8 = .ok (.ifCond .ne 7, 3) := getB' kX11_cell 4 rfl
theorem dX11_cell_11 : decode cX11_cell 11 = .ok (.iconst 1, 1) := getB' kX11_cell 5 rfl
theorem dX11_cell_12 : decode cX11_cell 12 = .ok (.goto 4, 3) := getB' kX11_cell 6 rfl
theorem dX11_cell_15 : decode cX11_cell 15 = .ok (.iconst 0, 1) := getB' kX11_cell 7 rfl
theorem dX11_cell_16 : decode cX11_cell 16 = .ok (.istore 6, 2) := getB' kX11_cell 8 rfl
theorem dX11_cell_18 : decode cX11_cell 18 = .ok (.iload 4, 2) := getB' kX11_cell 9 rfl
theorem dX11_cell_20 : decode cX11_cell 20 = .ok (.iconst 0, 1) := getB' kX11_cell 10 rfl
theorem dX11_cell_21 : decode cX11_cell 21 = .ok (.bipush 7, 2) := getB' kX11_cell 11 rfl
theorem dX11_cell_23 : decode cX11_cell 23 = .ok (.invokestatic 112, 3) := getB' kX11_cell 12 rfl
theorem dX11_cell_26 : decode cX11_cell 26 = .ok (.ifCond .eq 20, 3) := getB' kX11_cell 13 rfl
theorem dX11_cell_29 : decode cX11_cell 29 = .ok (.iload 5, 2) := getB' kX11_cell 14 rfl
theorem dX11_cell_31 : decode cX11_cell 31 = .ok (.bipush 10, 2) := getB' kX11_cell 15 rfl
theorem dX11_cell_33 : decode cX11_cell 33 = .ok (.sipush 3600, 3) := getB' kX11_cell 16 rfl
theorem dX11_cell_36 : decode cX11_cell 36 = .ok (.invokestatic 112, 3) := getB' kX11_cell 17 rfl
theorem dX11_cell_39 : decode cX11_cell 39 = .ok (.ifCond .eq 7, 3) := getB' kX11_cell 18 rfl
theorem dX11_cell_42 : decode cX11_cell 42 = .ok (.iconst 1, 1) := getB' kX11_cell 19 rfl
theorem dX11_cell_43 : decode cX11_cell 43 = .ok (.goto 4, 3) := getB' kX11_cell 20 rfl
theorem dX11_cell_46 : decode cX11_cell 46 = .ok (.iconst 0, 1) := getB' kX11_cell 21 rfl
theorem dX11_cell_47 : decode cX11_cell 47 = .ok (.istore 7, 2) := getB' kX11_cell 22 rfl
theorem dX11_cell_49 : decode cX11_cell 49 = .ok (.aload_n 0, 1) := getB' kX11_cell 23 rfl
theorem dX11_cell_50 : decode cX11_cell 50 = .ok (.getfield 12, 3) := getB' kX11_cell 24 rfl
theorem dX11_cell_53 : decode cX11_cell 53 = .ok (.iload_n 1, 1) := getB' kX11_cell 25 rfl
theorem dX11_cell_54 : decode cX11_cell 54 = .ok (.invokevirtual 119, 3) := getB' kX11_cell 26 rfl
theorem dX11_cell_57 : decode cX11_cell 57 = .ok (.ifCond .eq 32, 3) := getB' kX11_cell 27 rfl
theorem dX11_cell_60 : decode cX11_cell 60 = .ok (.iload_n 2, 1) := getB' kX11_cell 28 rfl
theorem dX11_cell_61 : decode cX11_cell 61 = .ok (.iconst 0, 1) := getB' kX11_cell 29 rfl
theorem dX11_cell_62 : decode cX11_cell 62 = .ok (.bipush 40, 2) := getB' kX11_cell 30 rfl
theorem dX11_cell_64 : decode cX11_cell 64 = .ok (.invokestatic 112, 3) := getB' kX11_cell 31 rfl
theorem dX11_cell_67 : decode cX11_cell 67 = .ok (.ifCond .eq 22, 3) := getB' kX11_cell 32 rfl
theorem dX11_cell_70 : decode cX11_cell 70 = .ok (.iload_n 3, 1) := getB' kX11_cell 33 rfl
theorem dX11_cell_71 : decode cX11_cell 71 = .ok (.iconst 0, 1) := getB' kX11_cell 34 rfl
theorem dX11_cell_72 : decode cX11_cell 72 = .ok (.iconst 3, 1) := getB' kX11_cell 35 rfl
theorem dX11_cell_73 : decode cX11_cell 73 = .ok (.invokestatic 112, 3) := getB' kX11_cell 36 rfl
theorem dX11_cell_76 : decode cX11_cell 76 = .ok (.ifCond .eq 13, 3) := getB' kX11_cell 37 rfl
theorem dX11_cell_79 : decode cX11_cell 79 = .ok (.iload 6, 2) := getB' kX11_cell 38 rfl
theorem dX11_cell_81 : decode cX11_cell 81 = .ok (.ifCond .ne 10, 3) := getB' kX11_cell 39 rfl
theorem dX11_cell_84 : decode cX11_cell 84 = .ok (.iload 7, 2) := getB' kX11_cell 40 rfl
theorem dX11_cell_86 : decode cX11_cell 86 = .ok (.ifCond .ne 5, 3) := getB' kX11_cell 41 rfl
theorem dX11_cell_89 : decode cX11_cell 89 = .ok (.iconst 0, 1) := getB' kX11_cell 42 rfl
theorem dX11_cell_90 : decode cX11_cell 90 = .ok (.ireturn, 1) := getB' kX11_cell 43 rfl
theorem dX11_cell_91 : decode cX11_cell 91 = .ok (.aload_n 0, 1) := getB' kX11_cell 44 rfl
theorem dX11_cell_92 : decode cX11_cell 92 = .ok (.getfield 12, 3) := getB' kX11_cell 45 rfl
theorem dX11_cell_95 : decode cX11_cell 95 = .ok (.getfield 123, 3) := getB' kX11_cell 46 rfl
theorem dX11_cell_98 : decode cX11_cell 98 = .ok (.iload_n 1, 1) := getB' kX11_cell 47 rfl
theorem dX11_cell_99 : decode cX11_cell 99 = .ok (.iload_n 2, 1) := getB' kX11_cell 48 rfl
theorem dX11_cell_100 : decode cX11_cell 100 = .ok (.invokestatic 108, 3) := getB' kX11_cell 49 rfl
theorem dX11_cell_103 : decode cX11_cell 103 = .ok (.aload_n 0, 1) := getB' kX11_cell 50 rfl
theorem dX11_cell_104 : decode cX11_cell 104 = .ok (.getfield 12, 3) := getB' kX11_cell 51 rfl
theorem dX11_cell_107 : decode cX11_cell 107 = .ok (.getfield 126, 3) := getB' kX11_cell 52 rfl
theorem dX11_cell_110 : decode cX11_cell 110 = .ok (.iload_n 1, 1) := getB' kX11_cell 53 rfl
theorem dX11_cell_111 : decode cX11_cell 111 = .ok (.iload_n 3, 1) := getB' kX11_cell 54 rfl
theorem dX11_cell_112 : decode cX11_cell 112 = .ok (.invokestatic 108, 3) := getB' kX11_cell 55 rfl
theorem dX11_cell_115 : decode cX11_cell 115 = .ok (.aload_n 0, 1) := getB' kX11_cell 56 rfl
theorem dX11_cell_116 : decode cX11_cell 116 = .ok (.getfield 12, 3) := getB' kX11_cell 57 rfl
theorem dX11_cell_119 : decode cX11_cell 119 = .ok (.getfield 129, 3) := getB' kX11_cell 58 rfl
theorem dX11_cell_122 : decode cX11_cell 122 = .ok (.iload_n 1, 1) := getB' kX11_cell 59 rfl
theorem dX11_cell_123 : decode cX11_cell 123 = .ok (.iload 4, 2) := getB' kX11_cell 60 rfl
theorem dX11_cell_125 : decode cX11_cell 125 = .ok (.invokestatic 108, 3) := getB' kX11_cell 61 rfl
theorem dX11_cell_128 : decode cX11_cell 128 = .ok (.aload_n 0, 1) := getB' kX11_cell 62 rfl
theorem dX11_cell_129 : decode cX11_cell 129 = .ok (.getfield 12, 3) := getB' kX11_cell 63 rfl
theorem dX11_cell_132 : decode cX11_cell 132 = .ok (.getfield 132, 3) := getB' kX11_cell 64 rfl
theorem dX11_cell_135 : decode cX11_cell 135 = .ok (.iload_n 1, 1) := getB' kX11_cell 65 rfl
theorem dX11_cell_136 : decode cX11_cell 136 = .ok (.iload 5, 2) := getB' kX11_cell 66 rfl
theorem dX11_cell_138 : decode cX11_cell 138 = .ok (.invokestatic 108, 3) := getB' kX11_cell 67 rfl
theorem dX11_cell_141 : decode cX11_cell 141 = .ok (.iconst 1, 1) := getB' kX11_cell 68 rfl
theorem dX11_cell_142 : decode cX11_cell 142 = .ok (.ireturn, 1) := getB' kX11_cell 69 rfl
def LX11_dark : List (Nat × Instr × Nat) := [(0, .iload_n 1, 1), (1, .iload_n 2, 1), (2, .invokestatic 135, 3), (5, .ifCond .ne 5, 3), (8, .iconst 0, 1), (9, .ireturn, 1), (10, .aload_n 0, 1), (11, .getfield 12, 3), (14, .iload_n 1, 1), (15, .putfield 139, 3), (18, .aload_n 0, 1), (19, .getfield 12, 3), (22, .iload_n 2, 1), (23, .putfield 142, 3), (26, .iconst 1, 1), (27, .ireturn, 1)]
theorem kX11_dark : chkB cX11_dark LX11_dark = true := by decide +kernel
theorem dX11_dark_0 : decode cX11_dark 0 = .ok (.iload_n 1, 1) := getB' kX11_dark 0 rfl
theorem dX11_dark_1 : decode cX11_dark 1 = .ok (.iload_n 2, 1) := getB' kX11_dark 1 rfl
theorem dX11_dark_2 : decode cX11_dark 2 = .ok (.invokestatic 135, 3) := getB' kX11_dark 2 rfl
theorem dX11_dark_5 : decode cX11_dark 5 = .ok (.ifCond .ne 5, 3) := getB' kX11_dark 3 rfl
theorem dX11_dark_8 : decode cX11_dark 8 = .ok (.iconst 0, 1) := getB' kX11_dark 4 rfl
theorem dX11_dark_9 : decode cX11_dark 9 = .ok (.ireturn, 1) := getB' kX11_dark 5 rfl
theorem dX11_dark_10 : decode cX11_dark 10 = .ok (.aload_n 0, 1) := getB' kX11_dark 6 rfl
theorem dX11_dark_11 : decode cX11_dark 11 = .ok (.getfield 12, 3) := getB' kX11_dark 7 rfl
theorem dX11_dark_14 : decode cX11_dark 14 = .ok (.iload_n 1, 1) := getB' kX11_dark 8 rfl
theorem dX11_dark_15 : decode cX11_dark 15 = .ok (.putfield 139, 3) := getB' kX11_dark 9 rfl
theorem dX11_dark_18 : decode cX11_dark 18 = .ok (.aload_n 0, 1) := getB' kX11_dark 10 rfl
theorem dX11_dark_19 : decode cX11_dark 19 = .ok (.getfield 12, 3) := getB' kX11_dark 11 rfl
theorem dX11_dark_22 : decode cX11_dark 22 = .ok (.iload_n 2, 1) := getB' kX11_dark 12 rfl
theorem dX11_dark_23 : decode cX11_dark 23 = .ok (.putfield 142, 3) := getB' kX11_dark 13 rfl
theorem dX11_dark_26 : decode cX11_dark 26 = .ok (.iconst 1, 1) := getB' kX11_dark 14 rfl
theorem dX11_dark_27 : decode cX11_dark 27 = .ok (.ireturn, 1) := getB' kX11_dark 15 rfl
def LX11_party : List (Nat × Instr × Nat) := [(0, .aload_n 0, 1), (1, .getfield 36, 3), (4, .aload_n 0, 1), (5, .getfield 32, 3), (8, .arraylength, 1), (9, .if_icmp .lt 5, 3), (12, .iconst (-1), 1), (13, .ireturn, 1), (14, .aload_n 0, 1), (15, .getfield 32, 3), (18, .aload_n 0, 1), (19, .getfield 36, 3), (22, .new 30, 3), (25, .dup, 1), (26, .iload_n 1, 1), (27, .ifCond .eq 13, 3), (30, .aload_n 0, 1), (31, .getfield 12, 3), (34, .getfield 145, 3), (37, .goto 4, 3), (40, .iconst (-1), 1), (41, .invokespecial 148, 3), (44, .aastore, 1), (45, .aload_n 0, 1), (46, .dup, 1), (47, .getfield 36, 3), (50, .dup_x1, 1), (51, .iconst 1, 1), (52, .iadd, 1), (53, .putfield 36, 3), (56, .ireturn, 1)]
theorem kX11_party : chkB cX11_party LX11_party = true := by decide +kernel
theorem dX11_party_0 : decode cX11_party 0 = .ok (.aload_n 0, 1) := getB' kX11_party 0 rfl
theorem dX11_party_1 : decode cX11_party 1 = .ok (.getfield 36, 3) := getB' kX11_party 1 rfl
theorem dX11_party_4 : decode cX11_party 4 = .ok (.aload_n 0, 1) := getB' kX11_party 2 rfl
theorem dX11_party_5 : decode cX11_party 5 = .ok (.getfield 32, 3) := getB' kX11_party 3 rfl
theorem dX11_party_8 : decode cX11_party 8 = .ok (.arraylength, 1) := getB' kX11_party 4 rfl
theorem dX11_party_9 : decode cX11_party 9 = .ok (.if_icmp .lt 5, 3) := getB' kX11_party 5 rfl
theorem dX11_party_12 : decode cX11_party 12 = .ok (.iconst (-1), 1) := getB' kX11_party 6 rfl
theorem dX11_party_13 : decode cX11_party 13 = .ok (.ireturn, 1) := getB' kX11_party 7 rfl
theorem dX11_party_14 : decode cX11_party 14 = .ok (.aload_n 0, 1) := getB' kX11_party 8 rfl
theorem dX11_party_15 : decode cX11_party 15 = .ok (.getfield 32, 3) := getB' kX11_party 9 rfl
theorem dX11_party_18 : decode cX11_party 18 = .ok (.aload_n 0, 1) := getB' kX11_party 10 rfl
theorem dX11_party_19 : decode cX11_party 19 = .ok (.getfield 36, 3) := getB' kX11_party 11 rfl
theorem dX11_party_22 : decode cX11_party 22 = .ok (.new 30, 3) := getB' kX11_party 12 rfl
theorem dX11_party_25 : decode cX11_party 25 = .ok (.dup, 1) := getB' kX11_party 13 rfl
theorem dX11_party_26 : decode cX11_party 26 = .ok (.iload_n 1, 1) := getB' kX11_party 14 rfl
theorem dX11_party_27 : decode cX11_party 27 = .ok (.ifCond .eq 13, 3) := getB' kX11_party 15 rfl
theorem dX11_party_30 : decode cX11_party 30 = .ok (.aload_n 0, 1) := getB' kX11_party 16 rfl
theorem dX11_party_31 : decode cX11_party 31 = .ok (.getfield 12, 3) := getB' kX11_party 17 rfl
theorem dX11_party_34 : decode cX11_party 34 = .ok (.getfield 145, 3) := getB' kX11_party 18 rfl
theorem dX11_party_37 : decode cX11_party 37 = .ok (.goto 4, 3) := getB' kX11_party 19 rfl
theorem dX11_party_40 : decode cX11_party 40 = .ok (.iconst (-1), 1) := getB' kX11_party 20 rfl
theorem dX11_party_41 : decode cX11_party 41 = .ok (.invokespecial 148, 3) := getB' kX11_party 21 rfl
theorem dX11_party_44 : decode cX11_party 44 = .ok (.aastore, 1) := getB' kX11_party 22 rfl
theorem dX11_party_45 : decode cX11_party 45 = .ok (.aload_n 0, 1) := getB' kX11_party 23 rfl
theorem dX11_party_46 : decode cX11_party 46 = .ok (.dup, 1) := getB' kX11_party 24 rfl
theorem dX11_party_47 : decode cX11_party 47 = .ok (.getfield 36, 3) := getB' kX11_party 25 rfl
theorem dX11_party_50 : decode cX11_party 50 = .ok (.dup_x1, 1) := getB' kX11_party 26 rfl
theorem dX11_party_51 : decode cX11_party 51 = .ok (.iconst 1, 1) := getB' kX11_party 27 rfl
theorem dX11_party_52 : decode cX11_party 52 = .ok (.iadd, 1) := getB' kX11_party 28 rfl
theorem dX11_party_53 : decode cX11_party 53 = .ok (.putfield 36, 3) := getB' kX11_party 29 rfl
theorem dX11_party_56 : decode cX11_party 56 = .ok (.ireturn, 1) := getB' kX11_party 30 rfl
def LX11_claim : List (Nat × Instr × Nat) := [(0, .aload_n 0, 1), (1, .iload_n 1, 1), (2, .invokevirtual 151, 3), (5, .astore 5, 2), (7, .aload 5, 2), (9, .ifnull 37, 3), (12, .aload_n 0, 1), (13, .getfield 12, 3), (16, .iload_n 2, 1), (17, .iload_n 3, 1), (18, .invokevirtual 155, 3), (21, .ifCond .eq 25, 3), (24, .iload 4, 2), (26, .iconst 0, 1), (27, .sipush 999, 3), (30, .invokestatic 112, 3), (33, .ifCond .eq 13, 3), (36, .aload_n 0, 1), (37, .iload_n 1, 1), (38, .aload 5, 2), (40, .invokevirtual 158, 3), (43, .ifCond .eq 5, 3), (46, .iconst (-1), 1), (47, .ireturn, 1), (48, .aload_n 0, 1), (49, .new 40, 3), (52, .dup, 1), (53, .iconst 0, 1), (54, .iload_n 1, 1), (55, .iload_n 2, 1), (56, .iload_n 3, 1), (57, .iload 4, 2), (59, .invokespecial 162, 3), (62, .invokevirtual 165, 3), (65, .ireturn, 1)]
theorem kX11_claim : chkB cX11_claim LX11_claim = true := by decide +kernel
theorem dX11_claim_0 : decode cX11_claim 0 = .ok (.aload_n 0, 1) := getB' kX11_claim 0 rfl
theorem dX11_claim_1 : decode cX11_claim 1 = .ok (.iload_n 1, 1) := getB' kX11_claim 1 rfl
theorem dX11_claim_2 : decode cX11_claim 2 = .ok (.invokevirtual 151, 3) := getB' kX11_claim 2 rfl
theorem dX11_claim_5 : decode cX11_claim 5 = .ok (.astore 5, 2) := getB' kX11_claim 3 rfl
theorem dX11_claim_7 : decode cX11_claim 7 = .ok (.aload 5, 2) := getB' kX11_claim 4 rfl
theorem dX11_claim_9 : decode cX11_claim 9 = .ok (.ifnull 37, 3) := getB' kX11_claim 5 rfl
theorem dX11_claim_12 : decode cX11_claim 12 = .ok (.aload_n 0, 1) := getB' kX11_claim 6 rfl
theorem dX11_claim_13 : decode cX11_claim 13 = .ok (.getfield 12, 3) := getB' kX11_claim 7 rfl
theorem dX11_claim_16 : decode cX11_claim 16 = .ok (.iload_n 2, 1) := getB' kX11_claim 8 rfl
theorem dX11_claim_17 : decode cX11_claim 17 = .ok (.iload_n 3, 1) := getB' kX11_claim 9 rfl
theorem dX11_claim_18 : decode cX11_claim 18 = .ok (.invokevirtual 155, 3) := getB' kX11_claim 10 rfl
theorem dX11_claim_21 : decode cX11_claim 21 = .ok (.ifCond .eq 25, 3) := getB' kX11_claim 11 rfl
theorem dX11_claim_24 : decode cX11_claim 24 = .ok (.iload 4, 2) := getB' kX11_claim 12 rfl
theorem dX11_claim_26 : decode cX11_claim 26 = .ok (.iconst 0, 1) := getB' kX11_claim 13 rfl
theorem dX11_claim_27 : decode cX11_claim 27 = .ok (.sipush 999, 3) := getB' kX11_claim 14 rfl
theorem dX11_claim_30 : decode cX11_claim 30 = .ok (.invokestatic 112, 3) := getB' kX11_claim 15 rfl
theorem dX11_claim_33 : decode cX11_claim 33 = .ok (.ifCond .eq 13, 3) := getB' kX11_claim 16 rfl
theorem dX11_claim_36 : decode cX11_claim 36 = .ok (.aload_n 0, 1) := getB' kX11_claim 17 rfl
theorem dX11_claim_37 : decode cX11_claim 37 = .ok (.iload_n 1, 1) := getB' kX11_claim 18 rfl
theorem dX11_claim_38 : decode cX11_claim 38 = .ok (.aload 5, 2) := getB' kX11_claim 19 rfl
theorem dX11_claim_40 : decode cX11_claim 40 = .ok (.invokevirtual 158, 3) := getB' kX11_claim 20 rfl
theorem dX11_claim_43 : decode cX11_claim 43 = .ok (.ifCond .eq 5, 3) := getB' kX11_claim 21 rfl
theorem dX11_claim_46 : decode cX11_claim 46 = .ok (.iconst (-1), 1) := getB' kX11_claim 22 rfl
theorem dX11_claim_47 : decode cX11_claim 47 = .ok (.ireturn, 1) := getB' kX11_claim 23 rfl
theorem dX11_claim_48 : decode cX11_claim 48 = .ok (.aload_n 0, 1) := getB' kX11_claim 24 rfl
theorem dX11_claim_49 : decode cX11_claim 49 = .ok (.new 40, 3) := getB' kX11_claim 25 rfl
theorem dX11_claim_52 : decode cX11_claim 52 = .ok (.dup, 1) := getB' kX11_claim 26 rfl
theorem dX11_claim_53 : decode cX11_claim 53 = .ok (.iconst 0, 1) := getB' kX11_claim 27 rfl
theorem dX11_claim_54 : decode cX11_claim 54 = .ok (.iload_n 1, 1) := getB' kX11_claim 28 rfl
theorem dX11_claim_55 : decode cX11_claim 55 = .ok (.iload_n 2, 1) := getB' kX11_claim 29 rfl
theorem dX11_claim_56 : decode cX11_claim 56 = .ok (.iload_n 3, 1) := getB' kX11_claim 30 rfl
theorem dX11_claim_57 : decode cX11_claim 57 = .ok (.iload 4, 2) := getB' kX11_claim 31 rfl
theorem dX11_claim_59 : decode cX11_claim 59 = .ok (.invokespecial 162, 3) := getB' kX11_claim 32 rfl
theorem dX11_claim_62 : decode cX11_claim 62 = .ok (.invokevirtual 165, 3) := getB' kX11_claim 33 rfl
theorem dX11_claim_65 : decode cX11_claim 65 = .ok (.ireturn, 1) := getB' kX11_claim 34 rfl
def LX11_title : List (Nat × Instr × Nat) := [(0, .aload_n 0, 1), (1, .iload_n 1, 1), (2, .iconst 0, 1), (3, .invokevirtual 169, 3), (6, .astore_n 3, 1), (7, .aload_n 3, 1), (8, .ifnull 14, 3), (11, .iload_n 2, 1), (12, .iconst 0, 1), (13, .sipush 999, 3), (16, .invokestatic 112, 3), (19, .ifCond .ne 5, 3), (22, .iconst 0, 1), (23, .ireturn, 1), (24, .aload_n 0, 1), (25, .aload_n 3, 1), (26, .getfield 173, 3), (29, .invokevirtual 151, 3), (32, .astore 4, 2), (34, .iload_n 2, 1), (35, .aload_n 3, 1), (36, .getfield 176, 3), (39, .if_icmp .le 23, 3), (42, .aload 4, 2), (44, .ifnull 18, 3), (47, .aload_n 0, 1), (48, .aload_n 3, 1), (49, .getfield 173, 3), (52, .aload 4, 2), (54, .invokevirtual 158, 3), (57, .ifCond .eq 5, 3), (60, .iconst 0, 1), (61, .ireturn, 1), (62, .aload_n 3, 1), (63, .iload_n 2, 1), (64, .putfield 176, 3), (67, .iconst 1, 1), (68, .ireturn, 1)]
theorem kX11_title : chkB cX11_title LX11_title = true := by decide +kernel
theorem dX11_title_0 : decode cX11_title 0 = .ok (.aload_n 0, 1) := getB' kX11_title 0 rfl
theorem dX11_title_1 : decode cX11_title 1 = .ok (.iload_n 1, 1) := getB' kX11_title 1 rfl
theorem dX11_title_2 : decode cX11_title 2 = .ok (.iconst 0, 1) := getB' kX11_title 2 rfl
theorem dX11_title_3 : decode cX11_title 3 = .ok (.invokevirtual 169, 3) := getB' kX11_title 3 rfl
theorem dX11_title_6 : decode cX11_title 6 = .ok (.astore_n 3, 1) := getB' kX11_title 4 rfl
theorem dX11_title_7 : decode cX11_title 7 = .ok (.aload_n 3, 1) := getB' kX11_title 5 rfl
theorem dX11_title_8 : decode cX11_title 8 = .ok (.ifnull 14, 3) := getB' kX11_title 6 rfl
theorem dX11_title_11 : decode cX11_title 11 = .ok (.iload_n 2, 1) := getB' kX11_title 7 rfl
theorem dX11_title_12 : decode cX11_title 12 = .ok (.iconst 0, 1) := getB' kX11_title 8 rfl
theorem dX11_title_13 : decode cX11_title 13 = .ok (.sipush 999, 3) := getB' kX11_title 9 rfl
theorem dX11_title_16 : decode cX11_title 16 = .ok (.invokestatic 112, 3) := getB' kX11_title 10 rfl
theorem dX11_title_19 : decode cX11_title 19 = .ok (.ifCond .ne 5, 3) := getB' kX11_title 11 rfl
theorem dX11_title_22 : decode cX11_title 22 = .ok (.iconst 0, 1) := getB' kX11_title 12 rfl
theorem dX11_title_23 : decode cX11_title 23 = .ok (.ireturn, 1) := getB' kX11_title 13 rfl
theorem dX11_title_24 : decode cX11_title 24 = .ok (.aload_n 0, 1) := getB' kX11_title 14 rfl
theorem dX11_title_25 : decode cX11_title 25 = .ok (.aload_n 3, 1) := getB' kX11_title 15 rfl
theorem dX11_title_26 : decode cX11_title 26 = .ok (.getfield 173, 3) := getB' kX11_title 16 rfl
theorem dX11_title_29 : decode cX11_title 29 = .ok (.invokevirtual 151, 3) := getB' kX11_title 17 rfl
theorem dX11_title_32 : decode cX11_title 32 = .ok (.astore 4, 2) := getB' kX11_title 18 rfl
theorem dX11_title_34 : decode cX11_title 34 = .ok (.iload_n 2, 1) := getB' kX11_title 19 rfl
theorem dX11_title_35 : decode cX11_title 35 = .ok (.aload_n 3, 1) := getB' kX11_title 20 rfl
theorem dX11_title_36 : decode cX11_title 36 = .ok (.getfield 176, 3) := getB' kX11_title 21 rfl
theorem dX11_title_39 : decode cX11_title 39 = .ok (.if_icmp .le 23, 3) := getB' kX11_title 22 rfl
theorem dX11_title_42 : decode cX11_title 42 = .ok (.aload 4, 2) := getB' kX11_title 23 rfl
theorem dX11_title_44 : decode cX11_title 44 = .ok (.ifnull 18, 3) := getB' kX11_title 24 rfl
theorem dX11_title_47 : decode cX11_title 47 = .ok (.aload_n 0, 1) := getB' kX11_title 25 rfl
theorem dX11_title_48 : decode cX11_title 48 = .ok (.aload_n 3, 1) := getB' kX11_title 26 rfl
theorem dX11_title_49 : decode cX11_title 49 = .ok (.getfield 173, 3) := getB' kX11_title 27 rfl
theorem dX11_title_52 : decode cX11_title 52 = .ok (.aload 4, 2) := getB' kX11_title 28 rfl
theorem dX11_title_54 : decode cX11_title 54 = .ok (.invokevirtual 158, 3) := getB' kX11_title 29 rfl
theorem dX11_title_57 : decode cX11_title 57 = .ok (.ifCond .eq 5, 3) := getB' kX11_title 30 rfl
theorem dX11_title_60 : decode cX11_title 60 = .ok (.iconst 0, 1) := getB' kX11_title 31 rfl
theorem dX11_title_61 : decode cX11_title 61 = .ok (.ireturn, 1) := getB' kX11_title 32 rfl
theorem dX11_title_62 : decode cX11_title 62 = .ok (.aload_n 3, 1) := getB' kX11_title 33 rfl
theorem dX11_title_63 : decode cX11_title 63 = .ok (.iload_n 2, 1) := getB' kX11_title 34 rfl
theorem dX11_title_64 : decode cX11_title 64 = .ok (.putfield 176, 3) := getB' kX11_title 35 rfl
theorem dX11_title_67 : decode cX11_title 67 = .ok (.iconst 1, 1) := getB' kX11_title 36 rfl
theorem dX11_title_68 : decode cX11_title 68 = .ok (.ireturn, 1) := getB' kX11_title 37 rfl
def LX11_station : List (Nat × Instr × Nat) := [(0, .aload_n 0, 1), (1, .iload_n 1, 1), (2, .invokevirtual 151, 3), (5, .ifnull 36, 3), (8, .aload_n 0, 1), (9, .getfield 12, 3), (12, .iload_n 2, 1), (13, .invokevirtual 179, 3), (16, .ifCond .eq 25, 3), (19, .iload_n 3, 1), (20, .iconst 0, 1), (21, .sipush 500, 3), (24, .invokestatic 112, 3), (27, .ifCond .eq 14, 3), (30, .iload 4, 2), (32, .iconst 0, 1), (33, .ldc 182, 2), (35, .invokestatic 112, 3), (38, .ifCond .ne 5, 3), (41, .iconst (-1), 1), (42, .ireturn, 1), (43, .new 40, 3), (46, .dup, 1), (47, .iconst 1, 1), (48, .iload_n 1, 1), (49, .iload_n 2, 1), (50, .iconst (-1), 1), (51, .iconst (-1), 1), (52, .invokespecial 162, 3), (55, .astore 5, 2), (57, .aload 5, 2), (59, .iload_n 3, 1), (60, .putfield 183, 3), (63, .aload 5, 2), (65, .iload 4, 2), (67, .putfield 186, 3), (70, .aload 5, 2), (72, .aload_n 0, 1), (73, .getfield 12, 3), (76, .getfield 145, 3), (79, .putfield 189, 3), (82, .aload_n 0, 1), (83, .aload 5, 2), (85, .invokevirtual 165, 3), (88, .istore 6, 2), (90, .iload 6, 2), (92, .iconst (-1), 1), (93, .if_icmp .eq 10, 3), (96, .aload_n 0, 1), (97, .iconst 0, 1), (98, .iload 4, 2), (100, .invokevirtual 192, 3), (103, .iload 6, 2), (105, .ireturn, 1)]
theorem kX11_station : chkB cX11_station LX11_station = true := by decide +kernel
theorem dX11_station_0 : decode cX11_station 0 = .ok (.aload_n 0, 1) := getB' kX11_station 0 rfl
theorem dX11_station_1 : decode cX11_station 1 = .ok (.iload_n 1, 1) := getB' kX11_station 1 rfl
theorem dX11_station_2 : decode cX11_station 2 = .ok (.invokevirtual 151, 3) := getB' kX11_station 2 rfl
theorem dX11_station_5 : decode cX11_station 5 = .ok (.ifnull 36, 3) := getB' kX11_station 3 rfl
theorem dX11_station_8 : decode cX11_station 8 = .ok (.aload_n 0, 1) := getB' kX11_station 4 rfl
theorem dX11_station_9 : decode cX11_station 9 = .ok (.getfield 12, 3) := getB' kX11_station 5 rfl
theorem dX11_station_12 : decode cX11_station 12 = .ok (.iload_n 2, 1) := getB' kX11_station 6 rfl
theorem dX11_station_13 : decode cX11_station 13 = .ok (.invokevirtual 179, 3) := getB' kX11_station 7 rfl
theorem dX11_station_16 : decode cX11_station 16 = .ok (.ifCond .eq 25, 3) := getB' kX11_station 8 rfl
theorem dX11_station_19 : decode cX11_station 19 = .ok (.iload_n 3, 1) := getB' kX11_station 9 rfl
theorem dX11_station_20 : decode cX11_station 20 = .ok (.iconst 0, 1) := getB' kX11_station 10 rfl
theorem dX11_station_21 : decode cX11_station 21 = .ok (.sipush 500, 3) := getB' kX11_station 11 rfl
theorem dX11_station_24 : decode cX11_station 24 = .ok (.invokestatic 112, 3) := getB' kX11_station 12 rfl
theorem dX11_station_27 : decode cX11_station 27 = .ok (.ifCond .eq 14, 3) := getB' kX11_station 13 rfl
theorem dX11_station_30 : decode cX11_station 30 = .ok (.iload 4, 2) := getB' kX11_station 14 rfl
theorem dX11_station_32 : decode cX11_station 32 = .ok (.iconst 0, 1) := getB' kX11_station 15 rfl
theorem dX11_station_33 : decode cX11_station 33 = .ok (.ldc 182, 2) := getB' kX11_station 16 rfl
theorem dX11_station_35 : decode cX11_station 35 = .ok (.invokestatic 112, 3) := getB' kX11_station 17 rfl
theorem dX11_station_38 : decode cX11_station 38 = .ok (.ifCond .ne 5, 3) := getB' kX11_station 18 rfl
theorem dX11_station_41 : decode cX11_station 41 = .ok (.iconst (-1), 1) := getB' kX11_station 19 rfl
theorem dX11_station_42 : decode cX11_station 42 = .ok (.ireturn, 1) := getB' kX11_station 20 rfl
theorem dX11_station_43 : decode cX11_station 43 = .ok (.new 40, 3) := getB' kX11_station 21 rfl
theorem dX11_station_46 : decode cX11_station 46 = .ok (.dup, 1) := getB' kX11_station 22 rfl
theorem dX11_station_47 : decode cX11_station 47 = .ok (.iconst 1, 1) := getB' kX11_station 23 rfl
theorem dX11_station_48 : decode cX11_station 48 = .ok (.iload_n 1, 1) := getB' kX11_station 24 rfl
theorem dX11_station_49 : decode cX11_station 49 = .ok (.iload_n 2, 1) := getB' kX11_station 25 rfl
theorem dX11_station_50 : decode cX11_station 50 = .ok (.iconst (-1), 1) := getB' kX11_station 26 rfl
theorem dX11_station_51 : decode cX11_station 51 = .ok (.iconst (-1), 1) := getB' kX11_station 27 rfl
theorem dX11_station_52 : decode cX11_station 52 = .ok (.invokespecial 162, 3) := getB' kX11_station 28 rfl
theorem dX11_station_55 : decode cX11_station 55 = .ok (.astore 5, 2) := getB' kX11_station 29 rfl
theorem dX11_station_57 : decode cX11_station 57 = .ok (.aload 5, 2) := getB' kX11_station 30 rfl
theorem dX11_station_59 : decode cX11_station 59 = .ok (.iload_n 3, 1) := getB' kX11_station 31 rfl
theorem dX11_station_60 : decode cX11_station 60 = .ok (.putfield 183, 3) := getB' kX11_station 32 rfl
theorem dX11_station_63 : decode cX11_station 63 = .ok (.aload 5, 2) := getB' kX11_station 33 rfl
theorem dX11_station_65 : decode cX11_station 65 = .ok (.iload 4, 2) := getB' kX11_station 34 rfl
theorem dX11_station_67 : decode cX11_station 67 = .ok (.putfield 186, 3) := getB' kX11_station 35 rfl
theorem dX11_station_70 : decode cX11_station 70 = .ok (.aload 5, 2) := getB' kX11_station 36 rfl
theorem dX11_station_72 : decode cX11_station 72 = .ok (.aload_n 0, 1) := getB' kX11_station 37 rfl
theorem dX11_station_73 : decode cX11_station 73 = .ok (.getfield 12, 3) := getB' kX11_station 38 rfl
theorem dX11_station_76 : decode cX11_station 76 = .ok (.getfield 145, 3) := getB' kX11_station 39 rfl
theorem dX11_station_79 : decode cX11_station 79 = .ok (.putfield 189, 3) := getB' kX11_station 40 rfl
theorem dX11_station_82 : decode cX11_station 82 = .ok (.aload_n 0, 1) := getB' kX11_station 41 rfl
theorem dX11_station_83 : decode cX11_station 83 = .ok (.aload 5, 2) := getB' kX11_station 42 rfl
theorem dX11_station_85 : decode cX11_station 85 = .ok (.invokevirtual 165, 3) := getB' kX11_station 43 rfl
theorem dX11_station_88 : decode cX11_station 88 = .ok (.istore 6, 2) := getB' kX11_station 44 rfl
theorem dX11_station_90 : decode cX11_station 90 = .ok (.iload 6, 2) := getB' kX11_station 45 rfl
theorem dX11_station_92 : decode cX11_station 92 = .ok (.iconst (-1), 1) := getB' kX11_station 46 rfl
theorem dX11_station_93 : decode cX11_station 93 = .ok (.if_icmp .eq 10, 3) := getB' kX11_station 47 rfl
theorem dX11_station_96 : decode cX11_station 96 = .ok (.aload_n 0, 1) := getB' kX11_station 48 rfl
theorem dX11_station_97 : decode cX11_station 97 = .ok (.iconst 0, 1) := getB' kX11_station 49 rfl
theorem dX11_station_98 : decode cX11_station 98 = .ok (.iload 4, 2) := getB' kX11_station 50 rfl
theorem dX11_station_100 : decode cX11_station 100 = .ok (.invokevirtual 192, 3) := getB' kX11_station 51 rfl
theorem dX11_station_103 : decode cX11_station 103 = .ok (.iload 6, 2) := getB' kX11_station 52 rfl
theorem dX11_station_105 : decode cX11_station 105 = .ok (.ireturn, 1) := getB' kX11_station 53 rfl
def LX11_field : List (Nat × Instr × Nat) := [(0, .aload_n 0, 1), (1, .iload_n 1, 1), (2, .invokevirtual 195, 3), (5, .astore_n 3, 1), (6, .aload_n 3, 1), (7, .ifnull 14, 3), (10, .aload_n 0, 1), (11, .getfield 12, 3), (14, .iload_n 2, 1), (15, .invokevirtual 179, 3), (18, .ifCond .ne 5, 3), (21, .iconst (-1), 1), (22, .ireturn, 1), (23, .aload_n 0, 1), (24, .new 40, 3), (27, .dup, 1), (28, .iconst 2, 1), (29, .aload_n 3, 1), (30, .getfield 173, 3), (33, .iload_n 2, 1), (34, .iconst (-1), 1), (35, .iload_n 1, 1), (36, .invokespecial 162, 3), (39, .invokevirtual 165, 3), (42, .ireturn, 1)]
theorem kX11_field : chkB cX11_field LX11_field = true := by decide +kernel
theorem dX11_field_0 : decode cX11_field 0 = .ok (.aload_n 0, 1) := getB' kX11_field 0 rfl
theorem dX11_field_1 : decode cX11_field 1 = .ok (.iload_n 1, 1) := getB' kX11_field 1 rfl
theorem dX11_field_2 : decode cX11_field 2 = .ok (.invokevirtual 195, 3) := getB' kX11_field 2 rfl
theorem dX11_field_5 : decode cX11_field 5 = .ok (.astore_n 3, 1) := getB' kX11_field 3 rfl
theorem dX11_field_6 : decode cX11_field 6 = .ok (.aload_n 3, 1) := getB' kX11_field 4 rfl
theorem dX11_field_7 : decode cX11_field 7 = .ok (.ifnull 14, 3) := getB' kX11_field 5 rfl
theorem dX11_field_10 : decode cX11_field 10 = .ok (.aload_n 0, 1) := getB' kX11_field 6 rfl
theorem dX11_field_11 : decode cX11_field 11 = .ok (.getfield 12, 3) := getB' kX11_field 7 rfl
theorem dX11_field_14 : decode cX11_field 14 = .ok (.iload_n 2, 1) := getB' kX11_field 8 rfl
theorem dX11_field_15 : decode cX11_field 15 = .ok (.invokevirtual 179, 3) := getB' kX11_field 9 rfl
theorem dX11_field_18 : decode cX11_field 18 = .ok (.ifCond .ne 5, 3) := getB' kX11_field 10 rfl
theorem dX11_field_21 : decode cX11_field 21 = .ok (.iconst (-1), 1) := getB' kX11_field 11 rfl
theorem dX11_field_22 : decode cX11_field 22 = .ok (.ireturn, 1) := getB' kX11_field 12 rfl
theorem dX11_field_23 : decode cX11_field 23 = .ok (.aload_n 0, 1) := getB' kX11_field 13 rfl
theorem dX11_field_24 : decode cX11_field 24 = .ok (.new 40, 3) := getB' kX11_field 14 rfl
theorem dX11_field_27 : decode cX11_field 27 = .ok (.dup, 1) := getB' kX11_field 15 rfl
theorem dX11_field_28 : decode cX11_field 28 = .ok (.iconst 2, 1) := getB' kX11_field 16 rfl
theorem dX11_field_29 : decode cX11_field 29 = .ok (.aload_n 3, 1) := getB' kX11_field 17 rfl
theorem dX11_field_30 : decode cX11_field 30 = .ok (.getfield 173, 3) := getB' kX11_field 18 rfl
theorem dX11_field_33 : decode cX11_field 33 = .ok (.iload_n 2, 1) := getB' kX11_field 19 rfl
theorem dX11_field_34 : decode cX11_field 34 = .ok (.iconst (-1), 1) := getB' kX11_field 20 rfl
theorem dX11_field_35 : decode cX11_field 35 = .ok (.iload_n 1, 1) := getB' kX11_field 21 rfl
theorem dX11_field_36 : decode cX11_field 36 = .ok (.invokespecial 162, 3) := getB' kX11_field 22 rfl
theorem dX11_field_39 : decode cX11_field 39 = .ok (.invokevirtual 165, 3) := getB' kX11_field 23 rfl
theorem dX11_field_42 : decode cX11_field 42 = .ok (.ireturn, 1) := getB' kX11_field 24 rfl
def LX11_reserve : List (Nat × Instr × Nat) := [(0, .aload_n 0, 1), (1, .getfield 12, 3), (4, .iload_n 1, 1), (5, .iload_n 2, 1), (6, .invokevirtual 155, 3), (9, .ifCond .eq 13, 3), (12, .iload_n 3, 1), (13, .iconst 1, 1), (14, .bipush 9, 2), (16, .invokestatic 112, 3), (19, .ifCond .ne 5, 3), (22, .iconst (-1), 1), (23, .ireturn, 1), (24, .aload_n 0, 1), (25, .new 40, 3), (28, .dup, 1), (29, .iconst 3, 1), (30, .iconst (-1), 1), (31, .iload_n 1, 1), (32, .iload_n 2, 1), (33, .iload_n 3, 1), (34, .invokespecial 162, 3), (37, .invokevirtual 165, 3), (40, .ireturn, 1)]
theorem kX11_reserve : chkB cX11_reserve LX11_reserve = true := by decide +kernel
theorem dX11_reserve_0 : decode cX11_reserve 0 = .ok (.aload_n 0, 1) := getB' kX11_reserve 0 rfl
theorem dX11_reserve_1 : decode cX11_reserve 1 = .ok (.getfield 12, 3) := getB' kX11_reserve 1 rfl
theorem dX11_reserve_4 : decode cX11_reserve 4 = .ok (.iload_n 1, 1) := getB' kX11_reserve 2 rfl
theorem dX11_reserve_5 : decode cX11_reserve 5 = .ok (.iload_n 2, 1) := getB' kX11_reserve 3 rfl
theorem dX11_reserve_6 : decode cX11_reserve 6 = .ok (.invokevirtual 155, 3) := getB' kX11_reserve 4 rfl
theorem dX11_reserve_9 : decode cX11_reserve 9 = .ok (.ifCond .eq 13, 3) := getB' kX11_reserve 5 rfl
theorem dX11_reserve_12 : decode cX11_reserve 12 = .ok (.iload_n 3, 1) := getB' kX11_reserve 6 rfl
theorem dX11_reserve_13 : decode cX11_reserve 13 = .ok (.iconst 1, 1) := getB' kX11_reserve 7 rfl
theorem dX11_reserve_14 : decode cX11_reserve 14 = .ok (.bipush 9, 2) := getB' kX11_reserve 8 rfl
theorem dX11_reserve_16 : decode cX11_reserve 16 = .ok (.invokestatic 112, 3) := getB' kX11_reserve 9 rfl
theorem dX11_reserve_19 : decode cX11_reserve 19 = .ok (.ifCond .ne 5, 3) := getB' kX11_reserve 10 rfl
theorem dX11_reserve_22 : decode cX11_reserve 22 = .ok (.iconst (-1), 1) := getB' kX11_reserve 11 rfl
theorem dX11_reserve_23 : decode cX11_reserve 23 = .ok (.ireturn, 1) := getB' kX11_reserve 12 rfl
theorem dX11_reserve_24 : decode cX11_reserve 24 = .ok (.aload_n 0, 1) := getB' kX11_reserve 13 rfl
theorem dX11_reserve_25 : decode cX11_reserve 25 = .ok (.new 40, 3) := getB' kX11_reserve 14 rfl
theorem dX11_reserve_28 : decode cX11_reserve 28 = .ok (.dup, 1) := getB' kX11_reserve 15 rfl
theorem dX11_reserve_29 : decode cX11_reserve 29 = .ok (.iconst 3, 1) := getB' kX11_reserve 16 rfl
theorem dX11_reserve_30 : decode cX11_reserve 30 = .ok (.iconst (-1), 1) := getB' kX11_reserve 17 rfl
theorem dX11_reserve_31 : decode cX11_reserve 31 = .ok (.iload_n 1, 1) := getB' kX11_reserve 18 rfl
theorem dX11_reserve_32 : decode cX11_reserve 32 = .ok (.iload_n 2, 1) := getB' kX11_reserve 19 rfl
theorem dX11_reserve_33 : decode cX11_reserve 33 = .ok (.iload_n 3, 1) := getB' kX11_reserve 20 rfl
theorem dX11_reserve_34 : decode cX11_reserve 34 = .ok (.invokespecial 162, 3) := getB' kX11_reserve 21 rfl
theorem dX11_reserve_37 : decode cX11_reserve 37 = .ok (.invokevirtual 165, 3) := getB' kX11_reserve 22 rfl
theorem dX11_reserve_40 : decode cX11_reserve 40 = .ok (.ireturn, 1) := getB' kX11_reserve 23 rfl
def LX11_site : List (Nat × Instr × Nat) := [(0, .aload_n 0, 1), (1, .getfield 12, 3), (4, .iload_n 1, 1), (5, .invokevirtual 119, 3), (8, .ifCond .ne 5, 3), (11, .iconst (-1), 1), (12, .ireturn, 1), (13, .aload_n 0, 1), (14, .new 40, 3), (17, .dup, 1), (18, .iload_n 2, 1), (19, .ifCond .eq 7, 3), (22, .iconst 5, 1), (23, .goto 4, 3), (26, .iconst 4, 1), (27, .iconst (-1), 1), (28, .iload_n 1, 1), (29, .iconst (-1), 1), (30, .iconst (-1), 1), (31, .invokespecial 162, 3), (34, .invokevirtual 165, 3), (37, .ireturn, 1)]
theorem kX11_site : chkB cX11_site LX11_site = true := by decide +kernel
theorem dX11_site_0 : decode cX11_site 0 = .ok (.aload_n 0, 1) := getB' kX11_site 0 rfl
theorem dX11_site_1 : decode cX11_site 1 = .ok (.getfield 12, 3) := getB' kX11_site 1 rfl
theorem dX11_site_4 : decode cX11_site 4 = .ok (.iload_n 1, 1) := getB' kX11_site 2 rfl
theorem dX11_site_5 : decode cX11_site 5 = .ok (.invokevirtual 119, 3) := getB' kX11_site 3 rfl
theorem dX11_site_8 : decode cX11_site 8 = .ok (.ifCond .ne 5, 3) := getB' kX11_site 4 rfl
theorem dX11_site_11 : decode cX11_site 11 = .ok (.iconst (-1), 1) := getB' kX11_site 5 rfl
theorem dX11_site_12 : decode cX11_site 12 = .ok (.ireturn, 1) := getB' kX11_site 6 rfl
theorem dX11_site_13 : decode cX11_site 13 = .ok (.aload_n 0, 1) := getB' kX11_site 7 rfl
theorem dX11_site_14 : decode cX11_site 14 = .ok (.new 40, 3) := getB' kX11_site 8 rfl
theorem dX11_site_17 : decode cX11_site 17 = .ok (.dup, 1) := getB' kX11_site 9 rfl
theorem dX11_site_18 : decode cX11_site 18 = .ok (.iload_n 2, 1) := getB' kX11_site 10 rfl
theorem dX11_site_19 : decode cX11_site 19 = .ok (.ifCond .eq 7, 3) := getB' kX11_site 11 rfl
theorem dX11_site_22 : decode cX11_site 22 = .ok (.iconst 5, 1) := getB' kX11_site 12 rfl
theorem dX11_site_23 : decode cX11_site 23 = .ok (.goto 4, 3) := getB' kX11_site 13 rfl
theorem dX11_site_26 : decode cX11_site 26 = .ok (.iconst 4, 1) := getB' kX11_site 14 rfl
theorem dX11_site_27 : decode cX11_site 27 = .ok (.iconst (-1), 1) := getB' kX11_site 15 rfl
theorem dX11_site_28 : decode cX11_site 28 = .ok (.iload_n 1, 1) := getB' kX11_site 16 rfl
theorem dX11_site_29 : decode cX11_site 29 = .ok (.iconst (-1), 1) := getB' kX11_site 17 rfl
theorem dX11_site_30 : decode cX11_site 30 = .ok (.iconst (-1), 1) := getB' kX11_site 18 rfl
theorem dX11_site_31 : decode cX11_site 31 = .ok (.invokespecial 162, 3) := getB' kX11_site 19 rfl
theorem dX11_site_34 : decode cX11_site 34 = .ok (.invokevirtual 165, 3) := getB' kX11_site 20 rfl
theorem dX11_site_37 : decode cX11_site 37 = .ok (.ireturn, 1) := getB' kX11_site 21 rfl
def LX11_settle : List (Nat × Instr × Nat) := [(0, .aload_n 0, 1), (1, .getfield 46, 3), (4, .aload_n 0, 1), (5, .getfield 42, 3), (8, .arraylength, 1), (9, .if_icmp .lt 5, 3), (12, .iconst (-1), 1), (13, .ireturn, 1), (14, .aload_n 0, 1), (15, .getfield 42, 3), (18, .aload_n 0, 1), (19, .getfield 46, 3), (22, .aload_n 1, 1), (23, .aastore, 1), (24, .aload_n 0, 1), (25, .dup, 1), (26, .getfield 46, 3), (29, .dup_x1, 1), (30, .iconst 1, 1), (31, .iadd, 1), (32, .putfield 46, 3), (35, .ireturn, 1)]
theorem kX11_settle : chkB cX11_settle LX11_settle = true := by decide +kernel
theorem dX11_settle_0 : decode cX11_settle 0 = .ok (.aload_n 0, 1) := getB' kX11_settle 0 rfl
theorem dX11_settle_1 : decode cX11_settle 1 = .ok (.getfield 46, 3) := getB' kX11_settle 1 rfl
theorem dX11_settle_4 : decode cX11_settle 4 = .ok (.aload_n 0, 1) := getB' kX11_settle 2 rfl
theorem dX11_settle_5 : decode cX11_settle 5 = .ok (.getfield 42, 3) := getB' kX11_settle 3 rfl
theorem dX11_settle_8 : decode cX11_settle 8 = .ok (.arraylength, 1) := getB' kX11_settle 4 rfl
theorem dX11_settle_9 : decode cX11_settle 9 = .ok (.if_icmp .lt 5, 3) := getB' kX11_settle 5 rfl
theorem dX11_settle_12 : decode cX11_settle 12 = .ok (.iconst (-1), 1) := getB' kX11_settle 6 rfl
theorem dX11_settle_13 : decode cX11_settle 13 = .ok (.ireturn, 1) := getB' kX11_settle 7 rfl
theorem dX11_settle_14 : decode cX11_settle 14 = .ok (.aload_n 0, 1) := getB' kX11_settle 8 rfl
theorem dX11_settle_15 : decode cX11_settle 15 = .ok (.getfield 42, 3) := getB' kX11_settle 9 rfl
theorem dX11_settle_18 : decode cX11_settle 18 = .ok (.aload_n 0, 1) := getB' kX11_settle 10 rfl
theorem dX11_settle_19 : decode cX11_settle 19 = .ok (.getfield 46, 3) := getB' kX11_settle 11 rfl
theorem dX11_settle_22 : decode cX11_settle 22 = .ok (.aload_n 1, 1) := getB' kX11_settle 12 rfl
theorem dX11_settle_23 : decode cX11_settle 23 = .ok (.aastore, 1) := getB' kX11_settle 13 rfl
theorem dX11_settle_24 : decode cX11_settle 24 = .ok (.aload_n 0, 1) := getB' kX11_settle 14 rfl
theorem dX11_settle_25 : decode cX11_settle 25 = .ok (.dup, 1) := getB' kX11_settle 15 rfl
theorem dX11_settle_26 : decode cX11_settle 26 = .ok (.getfield 46, 3) := getB' kX11_settle 16 rfl
theorem dX11_settle_29 : decode cX11_settle 29 = .ok (.dup_x1, 1) := getB' kX11_settle 17 rfl
theorem dX11_settle_30 : decode cX11_settle 30 = .ok (.iconst 1, 1) := getB' kX11_settle 18 rfl
theorem dX11_settle_31 : decode cX11_settle 31 = .ok (.iadd, 1) := getB' kX11_settle 19 rfl
theorem dX11_settle_32 : decode cX11_settle 32 = .ok (.putfield 46, 3) := getB' kX11_settle 20 rfl
theorem dX11_settle_35 : decode cX11_settle 35 = .ok (.ireturn, 1) := getB' kX11_settle 21 rfl
def LX11_feed : List (Nat × Instr × Nat) := [(0, .aload_n 0, 1), (1, .getfield 91, 3), (4, .getfield 199, 3), (7, .bipush 20, 2), (9, .iadd, 1), (10, .sipush 400, 3), (13, .if_icmp .le 5, 3), (16, .iconst (-1), 1), (17, .ireturn, 1), (18, .aload_n 0, 1), (19, .iload_n 1, 1), (20, .invokevirtual 202, 3), (23, .aload_n 0, 1), (24, .iload_n 2, 1), (25, .invokevirtual 202, 3), (28, .aload_n 0, 1), (29, .iload_n 3, 1), (30, .invokevirtual 202, 3), (33, .aload_n 0, 1), (34, .iload 4, 2), (36, .invokevirtual 202, 3), (39, .aload_n 0, 1), (40, .iload 5, 2), (42, .invokevirtual 202, 3), (45, .aload_n 0, 1), (46, .getfield 91, 3), (49, .getfield 199, 3), (52, .ireturn, 1)]
theorem kX11_feed : chkB cX11_feed LX11_feed = true := by decide +kernel
theorem dX11_feed_0 : decode cX11_feed 0 = .ok (.aload_n 0, 1) := getB' kX11_feed 0 rfl
theorem dX11_feed_1 : decode cX11_feed 1 = .ok (.getfield 91, 3) := getB' kX11_feed 1 rfl
theorem dX11_feed_4 : decode cX11_feed 4 = .ok (.getfield 199, 3) := getB' kX11_feed 2 rfl
theorem dX11_feed_7 : decode cX11_feed 7 = .ok (.bipush 20, 2) := getB' kX11_feed 3 rfl
theorem dX11_feed_9 : decode cX11_feed 9 = .ok (.iadd, 1) := getB' kX11_feed 4 rfl
theorem dX11_feed_10 : decode cX11_feed 10 = .ok (.sipush 400, 3) := getB' kX11_feed 5 rfl
theorem dX11_feed_13 : decode cX11_feed 13 = .ok (.if_icmp .le 5, 3) := getB' kX11_feed 6 rfl
theorem dX11_feed_16 : decode cX11_feed 16 = .ok (.iconst (-1), 1) := getB' kX11_feed 7 rfl
theorem dX11_feed_17 : decode cX11_feed 17 = .ok (.ireturn, 1) := getB' kX11_feed 8 rfl
theorem dX11_feed_18 : decode cX11_feed 18 = .ok (.aload_n 0, 1) := getB' kX11_feed 9 rfl
theorem dX11_feed_19 : decode cX11_feed 19 = .ok (.iload_n 1, 1) := getB' kX11_feed 10 rfl
theorem dX11_feed_20 : decode cX11_feed 20 = .ok (.invokevirtual 202, 3) := getB' kX11_feed 11 rfl
theorem dX11_feed_23 : decode cX11_feed 23 = .ok (.aload_n 0, 1) := getB' kX11_feed 12 rfl
theorem dX11_feed_24 : decode cX11_feed 24 = .ok (.iload_n 2, 1) := getB' kX11_feed 13 rfl
theorem dX11_feed_25 : decode cX11_feed 25 = .ok (.invokevirtual 202, 3) := getB' kX11_feed 14 rfl
theorem dX11_feed_28 : decode cX11_feed 28 = .ok (.aload_n 0, 1) := getB' kX11_feed 15 rfl
theorem dX11_feed_29 : decode cX11_feed 29 = .ok (.iload_n 3, 1) := getB' kX11_feed 16 rfl
theorem dX11_feed_30 : decode cX11_feed 30 = .ok (.invokevirtual 202, 3) := getB' kX11_feed 17 rfl
theorem dX11_feed_33 : decode cX11_feed 33 = .ok (.aload_n 0, 1) := getB' kX11_feed 18 rfl
theorem dX11_feed_34 : decode cX11_feed 34 = .ok (.iload 4, 2) := getB' kX11_feed 19 rfl
theorem dX11_feed_36 : decode cX11_feed 36 = .ok (.invokevirtual 202, 3) := getB' kX11_feed 20 rfl
theorem dX11_feed_39 : decode cX11_feed 39 = .ok (.aload_n 0, 1) := getB' kX11_feed 21 rfl
theorem dX11_feed_40 : decode cX11_feed 40 = .ok (.iload 5, 2) := getB' kX11_feed 22 rfl
theorem dX11_feed_42 : decode cX11_feed 42 = .ok (.invokevirtual 202, 3) := getB' kX11_feed 23 rfl
theorem dX11_feed_45 : decode cX11_feed 45 = .ok (.aload_n 0, 1) := getB' kX11_feed 24 rfl
theorem dX11_feed_46 : decode cX11_feed 46 = .ok (.getfield 91, 3) := getB' kX11_feed 25 rfl
theorem dX11_feed_49 : decode cX11_feed 49 = .ok (.getfield 199, 3) := getB' kX11_feed 26 rfl
theorem dX11_feed_52 : decode cX11_feed 52 = .ok (.ireturn, 1) := getB' kX11_feed 27 rfl
def LX11_feedNumber : List (Nat × Instr × Nat) := [(0, .bipush 24, 2), (2, .istore_n 2, 1), (3, .iload_n 2, 1), (4, .ifCond .lt 28, 3), (7, .aload_n 0, 1), (8, .getfield 91, 3), (11, .iload_n 1, 1), (12, .iload_n 2, 1), (13, .ishr, 1), (14, .sipush 255, 3), (17, .iand, 1), (18, .iconst 0, 1), (19, .iconst 0, 1), (20, .iconst 0, 1), (21, .iconst 0, 1), (22, .invokevirtual 205, 3), (25, .pop, 1), (26, .iinc 2 (-8), 3), (29, .goto (-26), 3), (32, .return_, 1)]
theorem kX11_feedNumber : chkB cX11_feedNumber LX11_feedNumber = true := by decide +kernel
theorem dX11_feedNumber_0 : decode cX11_feedNumber 0 = .ok (.bipush 24, 2) := getB' kX11_feedNumber 0 rfl
theorem dX11_feedNumber_2 : decode cX11_feedNumber 2 = .ok (.istore_n 2, 1) := getB' kX11_feedNumber 1 rfl
theorem dX11_feedNumber_3 : decode cX11_feedNumber 3 = .ok (.iload_n 2, 1) := getB' kX11_feedNumber 2 rfl
theorem dX11_feedNumber_4 : decode cX11_feedNumber 4 = .ok (.ifCond .lt 28, 3) := getB' kX11_feedNumber 3 rfl
theorem dX11_feedNumber_7 : decode cX11_feedNumber 7 = .ok (.aload_n 0, 1) := getB' kX11_feedNumber 4 rfl
theorem dX11_feedNumber_8 : decode cX11_feedNumber 8 = .ok (.getfield 91, 3) := getB' kX11_feedNumber 5 rfl
theorem dX11_feedNumber_11 : decode cX11_feedNumber 11 = .ok (.iload_n 1, 1) := getB' kX11_feedNumber 6 rfl
theorem dX11_feedNumber_12 : decode cX11_feedNumber 12 = .ok (.iload_n 2, 1) := getB' kX11_feedNumber 7 rfl
theorem dX11_feedNumber_13 : decode cX11_feedNumber 13 = .ok (.ishr, 1) := getB' kX11_feedNumber 8 rfl
theorem dX11_feedNumber_14 : decode cX11_feedNumber 14 = .ok (.sipush 255, 3) := getB' kX11_feedNumber 9 rfl
theorem dX11_feedNumber_17 : decode cX11_feedNumber 17 = .ok (.iand, 1) := getB' kX11_feedNumber 10 rfl
theorem dX11_feedNumber_18 : decode cX11_feedNumber 18 = .ok (.iconst 0, 1) := getB' kX11_feedNumber 11 rfl
theorem dX11_feedNumber_19 : decode cX11_feedNumber 19 = .ok (.iconst 0, 1) := getB' kX11_feedNumber 12 rfl
theorem dX11_feedNumber_20 : decode cX11_feedNumber 20 = .ok (.iconst 0, 1) := getB' kX11_feedNumber 13 rfl
theorem dX11_feedNumber_21 : decode cX11_feedNumber 21 = .ok (.iconst 0, 1) := getB' kX11_feedNumber 14 rfl
theorem dX11_feedNumber_22 : decode cX11_feedNumber 22 = .ok (.invokevirtual 205, 3) := getB' kX11_feedNumber 15 rfl
theorem dX11_feedNumber_25 : decode cX11_feedNumber 25 = .ok (.pop, 1) := getB' kX11_feedNumber 16 rfl
theorem dX11_feedNumber_26 : decode cX11_feedNumber 26 = .ok (.iinc 2 (-8), 3) := getB' kX11_feedNumber 17 rfl
theorem dX11_feedNumber_29 : decode cX11_feedNumber 29 = .ok (.goto (-26), 3) := getB' kX11_feedNumber 18 rfl
theorem dX11_feedNumber_32 : decode cX11_feedNumber 32 = .ok (.return_, 1) := getB' kX11_feedNumber 19 rfl
def LX11_fedNumber : List (Nat × Instr × Nat) := [(0, .iconst 0, 1), (1, .istore_n 2, 1), (2, .iconst 0, 1), (3, .istore_n 3, 1), (4, .iload_n 3, 1), (5, .iconst 4, 1), (6, .if_icmp .ge 28, 3), (9, .iload_n 2, 1), (10, .bipush 8, 2), (12, .ishl, 1), (13, .aload_n 0, 1), (14, .getfield 91, 3), (17, .iconst 4, 1), (18, .iload_n 1, 1), (19, .imul, 1), (20, .iload_n 3, 1), (21, .iadd, 1), (22, .iconst 0, 1), (23, .invokevirtual 209, 3), (26, .ior, 1), (27, .istore_n 2, 1), (28, .iinc 3 1, 3), (31, .goto (-27), 3), (34, .iload_n 2, 1), (35, .ireturn, 1)]
theorem kX11_fedNumber : chkB cX11_fedNumber LX11_fedNumber = true := by decide +kernel
theorem dX11_fedNumber_0 : decode cX11_fedNumber 0 = .ok (.iconst 0, 1) := getB' kX11_fedNumber 0 rfl
theorem dX11_fedNumber_1 : decode cX11_fedNumber 1 = .ok (.istore_n 2, 1) := getB' kX11_fedNumber 1 rfl
theorem dX11_fedNumber_2 : decode cX11_fedNumber 2 = .ok (.iconst 0, 1) := getB' kX11_fedNumber 2 rfl
theorem dX11_fedNumber_3 : decode cX11_fedNumber 3 = .ok (.istore_n 3, 1) := getB' kX11_fedNumber 3 rfl
theorem dX11_fedNumber_4 : decode cX11_fedNumber 4 = .ok (.iload_n 3, 1) := getB' kX11_fedNumber 4 rfl
theorem dX11_fedNumber_5 : decode cX11_fedNumber 5 = .ok (.iconst 4, 1) := getB' kX11_fedNumber 5 rfl
theorem dX11_fedNumber_6 : decode cX11_fedNumber 6 = .ok (.if_icmp .ge 28, 3) := getB' kX11_fedNumber 6 rfl
theorem dX11_fedNumber_9 : decode cX11_fedNumber 9 = .ok (.iload_n 2, 1) := getB' kX11_fedNumber 7 rfl
theorem dX11_fedNumber_10 : decode cX11_fedNumber 10 = .ok (.bipush 8, 2) := getB' kX11_fedNumber 8 rfl
theorem dX11_fedNumber_12 : decode cX11_fedNumber 12 = .ok (.ishl, 1) := getB' kX11_fedNumber 9 rfl
theorem dX11_fedNumber_13 : decode cX11_fedNumber 13 = .ok (.aload_n 0, 1) := getB' kX11_fedNumber 10 rfl
theorem dX11_fedNumber_14 : decode cX11_fedNumber 14 = .ok (.getfield 91, 3) := getB' kX11_fedNumber 11 rfl
theorem dX11_fedNumber_17 : decode cX11_fedNumber 17 = .ok (.iconst 4, 1) := getB' kX11_fedNumber 12 rfl
theorem dX11_fedNumber_18 : decode cX11_fedNumber 18 = .ok (.iload_n 1, 1) := getB' kX11_fedNumber 13 rfl
theorem dX11_fedNumber_19 : decode cX11_fedNumber 19 = .ok (.imul, 1) := getB' kX11_fedNumber 14 rfl
theorem dX11_fedNumber_20 : decode cX11_fedNumber 20 = .ok (.iload_n 3, 1) := getB' kX11_fedNumber 15 rfl
theorem dX11_fedNumber_21 : decode cX11_fedNumber 21 = .ok (.iadd, 1) := getB' kX11_fedNumber 16 rfl
theorem dX11_fedNumber_22 : decode cX11_fedNumber 22 = .ok (.iconst 0, 1) := getB' kX11_fedNumber 17 rfl
theorem dX11_fedNumber_23 : decode cX11_fedNumber 23 = .ok (.invokevirtual 209, 3) := getB' kX11_fedNumber 18 rfl
theorem dX11_fedNumber_26 : decode cX11_fedNumber 26 = .ok (.ior, 1) := getB' kX11_fedNumber 19 rfl
theorem dX11_fedNumber_27 : decode cX11_fedNumber 27 = .ok (.istore_n 2, 1) := getB' kX11_fedNumber 20 rfl
theorem dX11_fedNumber_28 : decode cX11_fedNumber 28 = .ok (.iinc 3 1, 3) := getB' kX11_fedNumber 21 rfl
theorem dX11_fedNumber_31 : decode cX11_fedNumber 31 = .ok (.goto (-27), 3) := getB' kX11_fedNumber 22 rfl
theorem dX11_fedNumber_34 : decode cX11_fedNumber 34 = .ok (.iload_n 2, 1) := getB' kX11_fedNumber 23 rfl
theorem dX11_fedNumber_35 : decode cX11_fedNumber 35 = .ok (.ireturn, 1) := getB' kX11_fedNumber 24 rfl
def LX11_text : List (Nat × Instr × Nat) := [(0, .iload_n 1, 1), (1, .iload_n 2, 1), (2, .invokestatic 213, 3), (5, .ifCond .eq 37, 3), (8, .iload_n 3, 1), (9, .iconst 1, 1), (10, .sipush 200, 3), (13, .invokestatic 112, 3), (16, .ifCond .eq 26, 3), (19, .aload_n 0, 1), (20, .getfield 19, 3), (23, .getfield 216, 3), (26, .bipush 20, 2), (28, .if_icmp .ge 14, 3), (31, .iload_n 3, 1), (32, .aload_n 0, 1), (33, .getfield 91, 3), (36, .getfield 199, 3), (39, .if_icmp .le 5, 3), (42, .iconst (-1), 1), (43, .ireturn, 1), (44, .new 219, 3), (47, .dup, 1), (48, .iload_n 1, 1), (49, .iload_n 2, 1), (50, .iload_n 3, 1), (51, .bipush 12, 2), (53, .invokespecial 221, 3), (56, .astore 4, 2), (58, .new 224, 3), (61, .dup, 1), (62, .aload_n 0, 1), (63, .getfield 91, 3), (66, .getfield 226, 3), (69, .iload_n 3, 1), (70, .aload 4, 2), (72, .invokespecial 229, 3), (75, .astore 5, 2), (77, .aload 5, 2), (79, .invokevirtual 232, 3), (82, .aload_n 0, 1), (83, .getfield 91, 3), (86, .iconst 0, 1), (87, .putfield 199, 3), (90, .aload 5, 2), (92, .getfield 235, 3), (95, .ifCond .eq 11, 3), (98, .aload 5, 2), (100, .invokevirtual 238, 3), (103, .goto 12, 3), (106, .aload_n 0, 1), (107, .getfield 19, 3), (110, .aload 4, 2), (112, .invokevirtual 242, 3), (115, .ireturn, 1)]
theorem kX11_text : chkB cX11_text LX11_text = true := by decide +kernel
theorem dX11_text_0 : decode cX11_text 0 = .ok (.iload_n 1, 1) := getB' kX11_text 0 rfl
theorem dX11_text_1 : decode cX11_text 1 = .ok (.iload_n 2, 1) := getB' kX11_text 1 rfl
theorem dX11_text_2 : decode cX11_text 2 = .ok (.invokestatic 213, 3) := getB' kX11_text 2 rfl
theorem dX11_text_5 : decode cX11_text 5 = .ok (.ifCond .eq 37, 3) := getB' kX11_text 3 rfl
theorem dX11_text_8 : decode cX11_text 8 = .ok (.iload_n 3, 1) := getB' kX11_text 4 rfl
theorem dX11_text_9 : decode cX11_text 9 = .ok (.iconst 1, 1) := getB' kX11_text 5 rfl
theorem dX11_text_10 : decode cX11_text 10 = .ok (.sipush 200, 3) := getB' kX11_text 6 rfl
theorem dX11_text_13 : decode cX11_text 13 = .ok (.invokestatic 112, 3) := getB' kX11_text 7 rfl
theorem dX11_text_16 : decode cX11_text 16 = .ok (.ifCond .eq 26, 3) := getB' kX11_text 8 rfl
theorem dX11_text_19 : decode cX11_text 19 = .ok (.aload_n 0, 1) := getB' kX11_text 9 rfl
theorem dX11_text_20 : decode cX11_text 20 = .ok (.getfield 19, 3) := getB' kX11_text 10 rfl
theorem dX11_text_23 : decode cX11_text 23 = .ok (.getfield 216, 3) := getB' kX11_text 11 rfl
theorem dX11_text_26 : decode cX11_text 26 = .ok (.bipush 20, 2) := getB' kX11_text 12 rfl
theorem dX11_text_28 : decode cX11_text 28 = .ok (.if_icmp .ge 14, 3) := getB' kX11_text 13 rfl
theorem dX11_text_31 : decode cX11_text 31 = .ok (.iload_n 3, 1) := getB' kX11_text 14 rfl
theorem dX11_text_32 : decode cX11_text 32 = .ok (.aload_n 0, 1) := getB' kX11_text 15 rfl
theorem dX11_text_33 : decode cX11_text 33 = .ok (.getfield 91, 3) := getB' kX11_text 16 rfl
theorem dX11_text_36 : decode cX11_text 36 = .ok (.getfield 199, 3) := getB' kX11_text 17 rfl
theorem dX11_text_39 : decode cX11_text 39 = .ok (.if_icmp .le 5, 3) := getB' kX11_text 18 rfl
theorem dX11_text_42 : decode cX11_text 42 = .ok (.iconst (-1), 1) := getB' kX11_text 19 rfl
theorem dX11_text_43 : decode cX11_text 43 = .ok (.ireturn, 1) := getB' kX11_text 20 rfl
theorem dX11_text_44 : decode cX11_text 44 = .ok (.new 219, 3) := getB' kX11_text 21 rfl
theorem dX11_text_47 : decode cX11_text 47 = .ok (.dup, 1) := getB' kX11_text 22 rfl
theorem dX11_text_48 : decode cX11_text 48 = .ok (.iload_n 1, 1) := getB' kX11_text 23 rfl
theorem dX11_text_49 : decode cX11_text 49 = .ok (.iload_n 2, 1) := getB' kX11_text 24 rfl
theorem dX11_text_50 : decode cX11_text 50 = .ok (.iload_n 3, 1) := getB' kX11_text 25 rfl
theorem dX11_text_51 : decode cX11_text 51 = .ok (.bipush 12, 2) := getB' kX11_text 26 rfl
theorem dX11_text_53 : decode cX11_text 53 = .ok (.invokespecial 221, 3) := getB' kX11_text 27 rfl
theorem dX11_text_56 : decode cX11_text 56 = .ok (.astore 4, 2) := getB' kX11_text 28 rfl
theorem dX11_text_58 : decode cX11_text 58 = .ok (.new 224, 3) := getB' kX11_text 29 rfl
theorem dX11_text_61 : decode cX11_text 61 = .ok (.dup, 1) := getB' kX11_text 30 rfl
theorem dX11_text_62 : decode cX11_text 62 = .ok (.aload_n 0, 1) := getB' kX11_text 31 rfl
theorem dX11_text_63 : decode cX11_text 63 = .ok (.getfield 91, 3) := getB' kX11_text 32 rfl
theorem dX11_text_66 : decode cX11_text 66 = .ok (.getfield 226, 3) := getB' kX11_text 33 rfl
theorem dX11_text_69 : decode cX11_text 69 = .ok (.iload_n 3, 1) := getB' kX11_text 34 rfl
theorem dX11_text_70 : decode cX11_text 70 = .ok (.aload 4, 2) := getB' kX11_text 35 rfl
theorem dX11_text_72 : decode cX11_text 72 = .ok (.invokespecial 229, 3) := getB' kX11_text 36 rfl
theorem dX11_text_75 : decode cX11_text 75 = .ok (.astore 5, 2) := getB' kX11_text 37 rfl
theorem dX11_text_77 : decode cX11_text 77 = .ok (.aload 5, 2) := getB' kX11_text 38 rfl
theorem dX11_text_79 : decode cX11_text 79 = .ok (.invokevirtual 232, 3) := getB' kX11_text 39 rfl
theorem dX11_text_82 : decode cX11_text 82 = .ok (.aload_n 0, 1) := getB' kX11_text 40 rfl
theorem dX11_text_83 : decode cX11_text 83 = .ok (.getfield 91, 3) := getB' kX11_text 41 rfl
theorem dX11_text_86 : decode cX11_text 86 = .ok (.iconst 0, 1) := getB' kX11_text 42 rfl
theorem dX11_text_87 : decode cX11_text 87 = .ok (.putfield 199, 3) := getB' kX11_text 43 rfl
theorem dX11_text_90 : decode cX11_text 90 = .ok (.aload 5, 2) := getB' kX11_text 44 rfl
theorem dX11_text_92 : decode cX11_text 92 = .ok (.getfield 235, 3) := getB' kX11_text 45 rfl
theorem dX11_text_95 : decode cX11_text 95 = .ok (.ifCond .eq 11, 3) := getB' kX11_text 46 rfl
theorem dX11_text_98 : decode cX11_text 98 = .ok (.aload 5, 2) := getB' kX11_text 47 rfl
theorem dX11_text_100 : decode cX11_text 100 = .ok (.invokevirtual 238, 3) := getB' kX11_text 48 rfl
theorem dX11_text_103 : decode cX11_text 103 = .ok (.goto 12, 3) := getB' kX11_text 49 rfl
theorem dX11_text_106 : decode cX11_text 106 = .ok (.aload_n 0, 1) := getB' kX11_text 50 rfl
theorem dX11_text_107 : decode cX11_text 107 = .ok (.getfield 19, 3) := getB' kX11_text 51 rfl
theorem dX11_text_110 : decode cX11_text 110 = .ok (.aload 4, 2) := getB' kX11_text 52 rfl
theorem dX11_text_112 : decode cX11_text 112 = .ok (.invokevirtual 242, 3) := getB' kX11_text 53 rfl
theorem dX11_text_115 : decode cX11_text 115 = .ok (.ireturn, 1) := getB' kX11_text 54 rfl
def LX11_yes : List (Nat × Instr × Nat) := [(0, .aload_n 0, 1), (1, .iload_n 1, 1), (2, .invokevirtual 151, 3), (5, .astore_n 3, 1), (6, .aload_n 3, 1), (7, .ifnull 30, 3), (10, .iload_n 2, 1), (11, .ifCond .eq 26, 3), (14, .aload_n 0, 1), (15, .getfield 19, 3), (18, .iload_n 2, 1), (19, .invokevirtual 246, 3), (22, .ifnull 15, 3), (25, .aload_n 3, 1), (26, .getfield 250, 3), (29, .iload_n 2, 1), (30, .invokestatic 253, 3), (33, .iconst (-1), 1), (34, .if_icmp .eq 5, 3), (37, .iconst 0, 1), (38, .ireturn, 1), (39, .aload_n 3, 1), (40, .getfield 250, 3), (43, .iload_n 2, 1), (44, .aload_n 0, 1), (45, .getfield 12, 3), (48, .getfield 145, 3), (51, .invokestatic 108, 3), (54, .aload_n 0, 1), (55, .getfield 19, 3), (58, .invokevirtual 256, 3), (61, .iconst 1, 1), (62, .ireturn, 1)]
theorem kX11_yes : chkB cX11_yes LX11_yes = true := by decide +kernel
theorem dX11_yes_0 : decode cX11_yes 0 = .ok (.aload_n 0, 1) := getB' kX11_yes 0 rfl
theorem dX11_yes_1 : decode cX11_yes 1 = .ok (.iload_n 1, 1) := getB' kX11_yes 1 rfl
theorem dX11_yes_2 : decode cX11_yes 2 = .ok (.invokevirtual 151, 3) := getB' kX11_yes 2 rfl
theorem dX11_yes_5 : decode cX11_yes 5 = .ok (.astore_n 3, 1) := getB' kX11_yes 3 rfl
theorem dX11_yes_6 : decode cX11_yes 6 = .ok (.aload_n 3, 1) := getB' kX11_yes 4 rfl
theorem dX11_yes_7 : decode cX11_yes 7 = .ok (.ifnull 30, 3) := getB' kX11_yes 5 rfl
theorem dX11_yes_10 : decode cX11_yes 10 = .ok (.iload_n 2, 1) := getB' kX11_yes 6 rfl
theorem dX11_yes_11 : decode cX11_yes 11 = .ok (.ifCond .eq 26, 3) := getB' kX11_yes 7 rfl
theorem dX11_yes_14 : decode cX11_yes 14 = .ok (.aload_n 0, 1) := getB' kX11_yes 8 rfl
theorem dX11_yes_15 : decode cX11_yes 15 = .ok (.getfield 19, 3) := getB' kX11_yes 9 rfl
theorem dX11_yes_18 : decode cX11_yes 18 = .ok (.iload_n 2, 1) := getB' kX11_yes 10 rfl
theorem dX11_yes_19 : decode cX11_yes 19 = .ok (.invokevirtual 246, 3) := getB' kX11_yes 11 rfl
theorem dX11_yes_22 : decode cX11_yes 22 = .ok (.ifnull 15, 3) := getB' kX11_yes 12 rfl
theorem dX11_yes_25 : decode cX11_yes 25 = .ok (.aload_n 3, 1) := getB' kX11_yes 13 rfl
theorem dX11_yes_26 : decode cX11_yes 26 = .ok (.getfield 250, 3) := getB' kX11_yes 14 rfl
theorem dX11_yes_29 : decode cX11_yes 29 = .ok (.iload_n 2, 1) := getB' kX11_yes 15 rfl
theorem dX11_yes_30 : decode cX11_yes 30 = .ok (.invokestatic 253, 3) := getB' kX11_yes 16 rfl
theorem dX11_yes_33 : decode cX11_yes 33 = .ok (.iconst (-1), 1) := getB' kX11_yes 17 rfl
theorem dX11_yes_34 : decode cX11_yes 34 = .ok (.if_icmp .eq 5, 3) := getB' kX11_yes 18 rfl
theorem dX11_yes_37 : decode cX11_yes 37 = .ok (.iconst 0, 1) := getB' kX11_yes 19 rfl
theorem dX11_yes_38 : decode cX11_yes 38 = .ok (.ireturn, 1) := getB' kX11_yes 20 rfl
theorem dX11_yes_39 : decode cX11_yes 39 = .ok (.aload_n 3, 1) := getB' kX11_yes 21 rfl
theorem dX11_yes_40 : decode cX11_yes 40 = .ok (.getfield 250, 3) := getB' kX11_yes 22 rfl
theorem dX11_yes_43 : decode cX11_yes 43 = .ok (.iload_n 2, 1) := getB' kX11_yes 23 rfl
theorem dX11_yes_44 : decode cX11_yes 44 = .ok (.aload_n 0, 1) := getB' kX11_yes 24 rfl
theorem dX11_yes_45 : decode cX11_yes 45 = .ok (.getfield 12, 3) := getB' kX11_yes 25 rfl
theorem dX11_yes_48 : decode cX11_yes 48 = .ok (.getfield 145, 3) := getB' kX11_yes 26 rfl
theorem dX11_yes_51 : decode cX11_yes 51 = .ok (.invokestatic 108, 3) := getB' kX11_yes 27 rfl
theorem dX11_yes_54 : decode cX11_yes 54 = .ok (.aload_n 0, 1) := getB' kX11_yes 28 rfl
theorem dX11_yes_55 : decode cX11_yes 55 = .ok (.getfield 19, 3) := getB' kX11_yes 29 rfl
theorem dX11_yes_58 : decode cX11_yes 58 = .ok (.invokevirtual 256, 3) := getB' kX11_yes 30 rfl
theorem dX11_yes_61 : decode cX11_yes 61 = .ok (.iconst 1, 1) := getB' kX11_yes 31 rfl
theorem dX11_yes_62 : decode cX11_yes 62 = .ok (.ireturn, 1) := getB' kX11_yes 32 rfl
def LX11_reading : List (Nat × Instr × Nat) := [(0, .aload_n 0, 1), (1, .getfield 19, 3), (4, .iload_n 2, 1), (5, .invokevirtual 246, 3), (8, .astore 5, 2), (10, .aload_n 0, 1), (11, .iload_n 1, 1), (12, .invokevirtual 151, 3), (15, .ifnull 17, 3), (18, .aload 5, 2), (20, .ifnull 12, 3), (23, .aload 5, 2), (25, .iload_n 3, 1), (26, .invokevirtual 259, 3), (29, .ifCond .ne 5, 3), (32, .iconst (-1), 1), (33, .ireturn, 1), (34, .iload 4, 2), (36, .iconst 1, 1), (37, .bipush 100, 2), (39, .invokestatic 112, 3), (42, .ifCond .eq 28, 3), (45, .aload_n 0, 1), (46, .getfield 19, 3), (49, .getfield 262, 3), (52, .invokevirtual 265, 3), (55, .ifCond .ne 15, 3), (58, .iload 4, 2), (60, .aload_n 0, 1), (61, .getfield 91, 3), (64, .getfield 199, 3), (67, .if_icmp .le 5, 3), (70, .iconst (-1), 1), (71, .ireturn, 1), (72, .new 219, 3), (75, .dup, 1), (76, .iconst 0, 1), (77, .iconst 0, 1), (78, .iload 4, 2), (80, .iconst 1, 1), (81, .invokespecial 221, 3), (84, .astore 6, 2), (86, .new 224, 3), (89, .dup, 1), (90, .aload_n 0, 1), (91, .getfield 91, 3), (94, .getfield 226, 3), (97, .iload 4, 2), (99, .aload 6, 2), (101, .invokespecial 229, 3), (104, .astore 7, 2), (106, .aload 7, 2), (108, .invokevirtual 269, 3), (111, .aload_n 0, 1), (112, .getfield 91, 3), (115, .iconst 0, 1), (116, .putfield 199, 3), (119, .aload 7, 2), (121, .getfield 235, 3), (124, .ifCond .eq 9, 3), (127, .aload 7, 2), (129, .invokevirtual 238, 3), (132, .ireturn, 1), (133, .aload_n 0, 1), (134, .getfield 19, 3), (137, .iload_n 1, 1), (138, .iload_n 2, 1), (139, .iload_n 3, 1), (140, .aload 6, 2), (142, .invokevirtual 272, 3), (145, .iconst 0, 1), (146, .ireturn, 1)]
theorem kX11_reading : chkB cX11_reading LX11_reading = true := by decide +kernel
theorem dX11_reading_0 : decode cX11_reading 0 = .ok (.aload_n 0, 1) := getB' kX11_reading 0 rfl
theorem dX11_reading_1 : decode cX11_reading 1 = .ok (.getfield 19, 3) := getB' kX11_reading 1 rfl
theorem dX11_reading_4 : decode cX11_reading 4 = .ok (.iload_n 2, 1) := getB' kX11_reading 2 rfl
theorem dX11_reading_5 : decode cX11_reading 5 = .ok (.invokevirtual 246, 3) := getB' kX11_reading 3 rfl
theorem dX11_reading_8 : decode cX11_reading 8 = .ok (.astore 5, 2) := getB' kX11_reading 4 rfl
theorem dX11_reading_10 : decode cX11_reading 10 = .ok (.aload_n 0, 1) := getB' kX11_reading 5 rfl
theorem dX11_reading_11 : decode cX11_reading 11 = .ok (.iload_n 1, 1) := getB' kX11_reading 6 rfl
theorem dX11_reading_12 : decode cX11_reading 12 = .ok (.invokevirtual 151, 3) := getB' kX11_reading 7 rfl
theorem dX11_reading_15 : decode cX11_reading 15 = .ok (.ifnull 17, 3) := getB' kX11_reading 8 rfl
theorem dX11_reading_18 : decode cX11_reading 18 = .ok (.aload 5, 2) := getB' kX11_reading 9 rfl
theorem dX11_reading_20 : decode cX11_reading 20 = .ok (.ifnull 12, 3) := getB' kX11_reading 10 rfl
theorem dX11_reading_23 : decode cX11_reading 23 = .ok (.aload 5, 2) := getB' kX11_reading 11 rfl
theorem dX11_reading_25 : decode cX11_reading 25 = .ok (.iload_n 3, 1) := getB' kX11_reading 12 rfl
theorem dX11_reading_26 : decode cX11_reading 26 = .ok (.invokevirtual 259, 3) := getB' kX11_reading 13 rfl
theorem dX11_reading_29 : decode cX11_reading 29 = .ok (.ifCond .ne 5, 3) := getB' kX11_reading 14 rfl
theorem dX11_reading_32 : decode cX11_reading 32 = .ok (.iconst (-1), 1) := getB' kX11_reading 15 rfl
theorem dX11_reading_33 : decode cX11_reading 33 = .ok (.ireturn, 1) := getB' kX11_reading 16 rfl
theorem dX11_reading_34 : decode cX11_reading 34 = .ok (.iload 4, 2) := getB' kX11_reading 17 rfl
theorem dX11_reading_36 : decode cX11_reading 36 = .ok (.iconst 1, 1) := getB' kX11_reading 18 rfl
theorem dX11_reading_37 : decode cX11_reading 37 = .ok (.bipush 100, 2) := getB' kX11_reading 19 rfl
theorem dX11_reading_39 : decode cX11_reading 39 = .ok (.invokestatic 112, 3) := getB' kX11_reading 20 rfl
theorem dX11_reading_42 : decode cX11_reading 42 = .ok (.ifCond .eq 28, 3) := getB' kX11_reading 21 rfl
theorem dX11_reading_45 : decode cX11_reading 45 = .ok (.aload_n 0, 1) := getB' kX11_reading 22 rfl
theorem dX11_reading_46 : decode cX11_reading 46 = .ok (.getfield 19, 3) := getB' kX11_reading 23 rfl
theorem dX11_reading_49 : decode cX11_reading 49 = .ok (.getfield 262, 3) := getB' kX11_reading 24 rfl
theorem dX11_reading_52 : decode cX11_reading 52 = .ok (.invokevirtual 265, 3) := getB' kX11_reading 25 rfl
theorem dX11_reading_55 : decode cX11_reading 55 = .ok (.ifCond .ne 15, 3) := getB' kX11_reading 26 rfl
theorem dX11_reading_58 : decode cX11_reading 58 = .ok (.iload 4, 2) := getB' kX11_reading 27 rfl
theorem dX11_reading_60 : decode cX11_reading 60 = .ok (.aload_n 0, 1) := getB' kX11_reading 28 rfl
theorem dX11_reading_61 : decode cX11_reading 61 = .ok (.getfield 91, 3) := getB' kX11_reading 29 rfl
theorem dX11_reading_64 : decode cX11_reading 64 = .ok (.getfield 199, 3) := getB' kX11_reading 30 rfl
theorem dX11_reading_67 : decode cX11_reading 67 = .ok (.if_icmp .le 5, 3) := getB' kX11_reading 31 rfl
theorem dX11_reading_70 : decode cX11_reading 70 = .ok (.iconst (-1), 1) := getB' kX11_reading 32 rfl
theorem dX11_reading_71 : decode cX11_reading 71 = .ok (.ireturn, 1) := getB' kX11_reading 33 rfl
theorem dX11_reading_72 : decode cX11_reading 72 = .ok (.new 219, 3) := getB' kX11_reading 34 rfl
theorem dX11_reading_75 : decode cX11_reading 75 = .ok (.dup, 1) := getB' kX11_reading 35 rfl
theorem dX11_reading_76 : decode cX11_reading 76 = .ok (.iconst 0, 1) := getB' kX11_reading 36 rfl
theorem dX11_reading_77 : decode cX11_reading 77 = .ok (.iconst 0, 1) := getB' kX11_reading 37 rfl
theorem dX11_reading_78 : decode cX11_reading 78 = .ok (.iload 4, 2) := getB' kX11_reading 38 rfl
theorem dX11_reading_80 : decode cX11_reading 80 = .ok (.iconst 1, 1) := getB' kX11_reading 39 rfl
theorem dX11_reading_81 : decode cX11_reading 81 = .ok (.invokespecial 221, 3) := getB' kX11_reading 40 rfl
theorem dX11_reading_84 : decode cX11_reading 84 = .ok (.astore 6, 2) := getB' kX11_reading 41 rfl
theorem dX11_reading_86 : decode cX11_reading 86 = .ok (.new 224, 3) := getB' kX11_reading 42 rfl
theorem dX11_reading_89 : decode cX11_reading 89 = .ok (.dup, 1) := getB' kX11_reading 43 rfl
theorem dX11_reading_90 : decode cX11_reading 90 = .ok (.aload_n 0, 1) := getB' kX11_reading 44 rfl
theorem dX11_reading_91 : decode cX11_reading 91 = .ok (.getfield 91, 3) := getB' kX11_reading 45 rfl
theorem dX11_reading_94 : decode cX11_reading 94 = .ok (.getfield 226, 3) := getB' kX11_reading 46 rfl
theorem dX11_reading_97 : decode cX11_reading 97 = .ok (.iload 4, 2) := getB' kX11_reading 47 rfl
theorem dX11_reading_99 : decode cX11_reading 99 = .ok (.aload 6, 2) := getB' kX11_reading 48 rfl
theorem dX11_reading_101 : decode cX11_reading 101 = .ok (.invokespecial 229, 3) := getB' kX11_reading 49 rfl
theorem dX11_reading_104 : decode cX11_reading 104 = .ok (.astore 7, 2) := getB' kX11_reading 50 rfl
theorem dX11_reading_106 : decode cX11_reading 106 = .ok (.aload 7, 2) := getB' kX11_reading 51 rfl
theorem dX11_reading_108 : decode cX11_reading 108 = .ok (.invokevirtual 269, 3) := getB' kX11_reading 52 rfl
theorem dX11_reading_111 : decode cX11_reading 111 = .ok (.aload_n 0, 1) := getB' kX11_reading 53 rfl
theorem dX11_reading_112 : decode cX11_reading 112 = .ok (.getfield 91, 3) := getB' kX11_reading 54 rfl
theorem dX11_reading_115 : decode cX11_reading 115 = .ok (.iconst 0, 1) := getB' kX11_reading 55 rfl
theorem dX11_reading_116 : decode cX11_reading 116 = .ok (.putfield 199, 3) := getB' kX11_reading 56 rfl
theorem dX11_reading_119 : decode cX11_reading 119 = .ok (.aload 7, 2) := getB' kX11_reading 57 rfl
theorem dX11_reading_121 : decode cX11_reading 121 = .ok (.getfield 235, 3) := getB' kX11_reading 58 rfl
theorem dX11_reading_124 : decode cX11_reading 124 = .ok (.ifCond .eq 9, 3) := getB' kX11_reading 59 rfl
theorem dX11_reading_127 : decode cX11_reading 127 = .ok (.aload 7, 2) := getB' kX11_reading 60 rfl
theorem dX11_reading_129 : decode cX11_reading 129 = .ok (.invokevirtual 238, 3) := getB' kX11_reading 61 rfl
theorem dX11_reading_132 : decode cX11_reading 132 = .ok (.ireturn, 1) := getB' kX11_reading 62 rfl
theorem dX11_reading_133 : decode cX11_reading 133 = .ok (.aload_n 0, 1) := getB' kX11_reading 63 rfl
theorem dX11_reading_134 : decode cX11_reading 134 = .ok (.getfield 19, 3) := getB' kX11_reading 64 rfl
theorem dX11_reading_137 : decode cX11_reading 137 = .ok (.iload_n 1, 1) := getB' kX11_reading 65 rfl
theorem dX11_reading_138 : decode cX11_reading 138 = .ok (.iload_n 2, 1) := getB' kX11_reading 66 rfl
theorem dX11_reading_139 : decode cX11_reading 139 = .ok (.iload_n 3, 1) := getB' kX11_reading 67 rfl
theorem dX11_reading_140 : decode cX11_reading 140 = .ok (.aload 6, 2) := getB' kX11_reading 68 rfl
theorem dX11_reading_142 : decode cX11_reading 142 = .ok (.invokevirtual 272, 3) := getB' kX11_reading 69 rfl
theorem dX11_reading_145 : decode cX11_reading 145 = .ok (.iconst 0, 1) := getB' kX11_reading 70 rfl
theorem dX11_reading_146 : decode cX11_reading 146 = .ok (.ireturn, 1) := getB' kX11_reading 71 rfl
def LX11_counts : List (Nat × Instr × Nat) := [(0, .aload_n 0, 1), (1, .iload_n 2, 1), (2, .invokevirtual 151, 3), (5, .astore 4, 2), (7, .aload 4, 2), (9, .ifnull 21, 3), (12, .aload_n 0, 1), (13, .getfield 19, 3), (16, .iload_n 1, 1), (17, .invokevirtual 246, 3), (20, .ifnull 10, 3), (23, .iload_n 3, 1), (24, .invokestatic 276, 3), (27, .ifCond .ne 5, 3), (30, .iconst (-1), 1), (31, .ireturn, 1), (32, .aload_n 0, 1), (33, .getfield 19, 3), (36, .iload_n 2, 1), (37, .aload 4, 2), (39, .iload_n 3, 1), (40, .invokevirtual 279, 3), (43, .aload_n 0, 1), (44, .getfield 19, 3), (47, .getfield 283, 3), (50, .iload_n 1, 1), (51, .invokestatic 253, 3), (54, .invokestatic 286, 3), (57, .ireturn, 1)]
theorem kX11_counts : chkB cX11_counts LX11_counts = true := by decide +kernel
theorem dX11_counts_0 : decode cX11_counts 0 = .ok (.aload_n 0, 1) := getB' kX11_counts 0 rfl
theorem dX11_counts_1 : decode cX11_counts 1 = .ok (.iload_n 2, 1) := getB' kX11_counts 1 rfl
theorem dX11_counts_2 : decode cX11_counts 2 = .ok (.invokevirtual 151, 3) := getB' kX11_counts 2 rfl
theorem dX11_counts_5 : decode cX11_counts 5 = .ok (.astore 4, 2) := getB' kX11_counts 3 rfl
theorem dX11_counts_7 : decode cX11_counts 7 = .ok (.aload 4, 2) := getB' kX11_counts 4 rfl
theorem dX11_counts_9 : decode cX11_counts 9 = .ok (.ifnull 21, 3) := getB' kX11_counts 5 rfl
theorem dX11_counts_12 : decode cX11_counts 12 = .ok (.aload_n 0, 1) := getB' kX11_counts 6 rfl
theorem dX11_counts_13 : decode cX11_counts 13 = .ok (.getfield 19, 3) := getB' kX11_counts 7 rfl
theorem dX11_counts_16 : decode cX11_counts 16 = .ok (.iload_n 1, 1) := getB' kX11_counts 8 rfl
theorem dX11_counts_17 : decode cX11_counts 17 = .ok (.invokevirtual 246, 3) := getB' kX11_counts 9 rfl
theorem dX11_counts_20 : decode cX11_counts 20 = .ok (.ifnull 10, 3) := getB' kX11_counts 10 rfl
theorem dX11_counts_23 : decode cX11_counts 23 = .ok (.iload_n 3, 1) := getB' kX11_counts 11 rfl
theorem dX11_counts_24 : decode cX11_counts 24 = .ok (.invokestatic 276, 3) := getB' kX11_counts 12 rfl
theorem dX11_counts_27 : decode cX11_counts 27 = .ok (.ifCond .ne 5, 3) := getB' kX11_counts 13 rfl
theorem dX11_counts_30 : decode cX11_counts 30 = .ok (.iconst (-1), 1) := getB' kX11_counts 14 rfl
theorem dX11_counts_31 : decode cX11_counts 31 = .ok (.ireturn, 1) := getB' kX11_counts 15 rfl
theorem dX11_counts_32 : decode cX11_counts 32 = .ok (.aload_n 0, 1) := getB' kX11_counts 16 rfl
theorem dX11_counts_33 : decode cX11_counts 33 = .ok (.getfield 19, 3) := getB' kX11_counts 17 rfl
theorem dX11_counts_36 : decode cX11_counts 36 = .ok (.iload_n 2, 1) := getB' kX11_counts 18 rfl
theorem dX11_counts_37 : decode cX11_counts 37 = .ok (.aload 4, 2) := getB' kX11_counts 19 rfl
theorem dX11_counts_39 : decode cX11_counts 39 = .ok (.iload_n 3, 1) := getB' kX11_counts 20 rfl
theorem dX11_counts_40 : decode cX11_counts 40 = .ok (.invokevirtual 279, 3) := getB' kX11_counts 21 rfl
theorem dX11_counts_43 : decode cX11_counts 43 = .ok (.aload_n 0, 1) := getB' kX11_counts 22 rfl
theorem dX11_counts_44 : decode cX11_counts 44 = .ok (.getfield 19, 3) := getB' kX11_counts 23 rfl
theorem dX11_counts_47 : decode cX11_counts 47 = .ok (.getfield 283, 3) := getB' kX11_counts 24 rfl
theorem dX11_counts_50 : decode cX11_counts 50 = .ok (.iload_n 1, 1) := getB' kX11_counts 25 rfl
theorem dX11_counts_51 : decode cX11_counts 51 = .ok (.invokestatic 253, 3) := getB' kX11_counts 26 rfl
theorem dX11_counts_54 : decode cX11_counts 54 = .ok (.invokestatic 286, 3) := getB' kX11_counts 27 rfl
theorem dX11_counts_57 : decode cX11_counts 57 = .ok (.ireturn, 1) := getB' kX11_counts 28 rfl
def LX11_number : List (Nat × Instr × Nat) := [(0, .aload_n 0, 1), (1, .iload_n 2, 1), (2, .invokevirtual 151, 3), (5, .astore 4, 2), (7, .iload_n 1, 1), (8, .bipush 10, 2), (10, .bipush 25, 2), (12, .invokestatic 112, 3), (15, .istore 5, 2), (17, .aload 4, 2), (19, .ifnull 24, 3), (22, .iload_n 3, 1), (23, .invokestatic 276, 3), (26, .ifCond .eq 17, 3), (29, .iload_n 1, 1), (30, .iconst 0, 1), (31, .iconst 3, 1), (32, .invokestatic 112, 3), (35, .ifCond .ne 10, 3), (38, .iload 5, 2), (40, .ifCond .ne 5, 3), (43, .iconst (-1), 1), (44, .ireturn, 1), (45, .aload_n 0, 1), (46, .getfield 19, 3), (49, .iload_n 2, 1), (50, .aload 4, 2), (52, .iload_n 3, 1), (53, .invokevirtual 279, 3), (56, .iload 5, 2), (58, .ifCond .eq 25, 3), (61, .aload_n 0, 1), (62, .getfield 19, 3), (65, .bipush 107, 2), (67, .iload_n 1, 1), (68, .bipush 10, 2), (70, .isub, 1), (71, .iconst 4, 1), (72, .idiv, 1), (73, .iload_n 1, 1), (74, .bipush 10, 2), (76, .isub, 1), (77, .iconst 4, 1), (78, .irem, 1), (79, .invokevirtual 292, 3), (82, .ireturn, 1), (83, .iload_n 1, 1), (84, .tableswitch 72 0 2 #[28, 44, 56], 28), (112, .iconst 0, 1), (113, .aload_n 0, 1), (114, .getfield 19, 3), (117, .bipush 97, 2), (119, .iconst 0, 1), (120, .iconst 0, 1), (121, .invokevirtual 292, 3), (124, .invokestatic 296, 3), (127, .ireturn, 1), (128, .aload_n 0, 1), (129, .getfield 19, 3), (132, .bipush 113, 2), (134, .iconst 0, 1), (135, .iconst 0, 1), (136, .invokevirtual 292, 3), (139, .ireturn, 1), (140, .iconst 0, 1), (141, .aload_n 0, 1), (142, .getfield 19, 3), (145, .bipush 103, 2), (147, .iconst 0, 1), (148, .iconst 0, 1), (149, .invokevirtual 292, 3), (152, .invokestatic 296, 3), (155, .ireturn, 1), (156, .aload_n 0, 1), (157, .getfield 19, 3), (160, .bipush 122, 2), (162, .iconst 0, 1), (163, .iconst 0, 1), (164, .invokevirtual 292, 3), (167, .iconst (-1), 1), (168, .if_icmp .ne 7, 3), (171, .iconst 0, 1), (172, .goto 4, 3), (175, .iconst 1, 1), (176, .ireturn, 1)]
theorem kX11_number : chkB cX11_number LX11_number = true := by decide +kernel
theorem dX11_number_0 : decode cX11_number 0 = .ok (.aload_n 0, 1) := getB' kX11_number 0 rfl
theorem dX11_number_1 : decode cX11_number 1 = .ok (.iload_n 2, 1) := getB' kX11_number 1 rfl
theorem dX11_number_2 : decode cX11_number 2 = .ok (.invokevirtual 151, 3) := getB' kX11_number 2 rfl
theorem dX11_number_5 : decode cX11_number 5 = .ok (.astore 4, 2) := getB' kX11_number 3 rfl
theorem dX11_number_7 : decode cX11_number 7 = .ok (.iload_n 1, 1) := getB' kX11_number 4 rfl
theorem dX11_number_8 : decode cX11_number 8 = .ok (.bipush 10, 2) := getB' kX11_number 5 rfl
theorem dX11_number_10 : decode cX11_number 10 = .ok (.bipush 25, 2) := getB' kX11_number 6 rfl
theorem dX11_number_12 : decode cX11_number 12 = .ok (.invokestatic 112, 3) := getB' kX11_number 7 rfl
theorem dX11_number_15 : decode cX11_number 15 = .ok (.istore 5, 2) := getB' kX11_number 8 rfl
theorem dX11_number_17 : decode cX11_number 17 = .ok (.aload 4, 2) := getB' kX11_number 9 rfl
theorem dX11_number_19 : decode cX11_number 19 = .ok (.ifnull 24, 3) := getB' kX11_number 10 rfl
theorem dX11_number_22 : decode cX11_number 22 = .ok (.iload_n 3, 1) := getB' kX11_number 11 rfl
theorem dX11_number_23 : decode cX11_number 23 = .ok (.invokestatic 276, 3) := getB' kX11_number 12 rfl
theorem dX11_number_26 : decode cX11_number 26 = .ok (.ifCond .eq 17, 3) := getB' kX11_number 13 rfl
theorem dX11_number_29 : decode cX11_number 29 = .ok (.iload_n 1, 1) := getB' kX11_number 14 rfl
theorem dX11_number_30 : decode cX11_number 30 = .ok (.iconst 0, 1) := getB' kX11_number 15 rfl
theorem dX11_number_31 : decode cX11_number 31 = .ok (.iconst 3, 1) := getB' kX11_number 16 rfl
theorem dX11_number_32 : decode cX11_number 32 = .ok (.invokestatic 112, 3) := getB' kX11_number 17 rfl
theorem dX11_number_35 : decode cX11_number 35 = .ok (.ifCond .ne 10, 3) := getB' kX11_number 18 rfl
theorem dX11_number_38 : decode cX11_number 38 = .ok (.iload 5, 2) := getB' kX11_number 19 rfl
theorem dX11_number_40 : decode cX11_number 40 = .ok (.ifCond .ne 5, 3) := getB' kX11_number 20 rfl
theorem dX11_number_43 : decode cX11_number 43 = .ok (.iconst (-1), 1) := getB' kX11_number 21 rfl
theorem dX11_number_44 : decode cX11_number 44 = .ok (.ireturn, 1) := getB' kX11_number 22 rfl
theorem dX11_number_45 : decode cX11_number 45 = .ok (.aload_n 0, 1) := getB' kX11_number 23 rfl
theorem dX11_number_46 : decode cX11_number 46 = .ok (.getfield 19, 3) := getB' kX11_number 24 rfl
theorem dX11_number_49 : decode cX11_number 49 = .ok (.iload_n 2, 1) := getB' kX11_number 25 rfl
theorem dX11_number_50 : decode cX11_number 50 = .ok (.aload 4, 2) := getB' kX11_number 26 rfl
theorem dX11_number_52 : decode cX11_number 52 = .ok (.iload_n 3, 1) := getB' kX11_number 27 rfl
theorem dX11_number_53 : decode cX11_number 53 = .ok (.invokevirtual 279, 3) := getB' kX11_number 28 rfl
theorem dX11_number_56 : decode cX11_number 56 = .ok (.iload 5, 2) := getB' kX11_number 29 rfl
theorem dX11_number_58 : decode cX11_number 58 = .ok (.ifCond .eq 25, 3) := getB' kX11_number 30 rfl
theorem dX11_number_61 : decode cX11_number 61 = .ok (.aload_n 0, 1) := getB' kX11_number 31 rfl
theorem dX11_number_62 : decode cX11_number 62 = .ok (.getfield 19, 3) := getB' kX11_number 32 rfl
theorem dX11_number_65 : decode cX11_number 65 = .ok (.bipush 107, 2) := getB' kX11_number 33 rfl
theorem dX11_number_67 : decode cX11_number 67 = .ok (.iload_n 1, 1) := getB' kX11_number 34 rfl
theorem dX11_number_68 : decode cX11_number 68 = .ok (.bipush 10, 2) := getB' kX11_number 35 rfl
theorem dX11_number_70 : decode cX11_number 70 = .ok (.isub, 1) := getB' kX11_number 36 rfl
theorem dX11_number_71 : decode cX11_number 71 = .ok (.iconst 4, 1) := getB' kX11_number 37 rfl
theorem dX11_number_72 : decode cX11_number 72 = .ok (.idiv, 1) := getB' kX11_number 38 rfl
theorem dX11_number_73 : decode cX11_number 73 = .ok (.iload_n 1, 1) := getB' kX11_number 39 rfl
theorem dX11_number_74 : decode cX11_number 74 = .ok (.bipush 10, 2) := getB' kX11_number 40 rfl
theorem dX11_number_76 : decode cX11_number 76 = .ok (.isub, 1) := getB' kX11_number 41 rfl
theorem dX11_number_77 : decode cX11_number 77 = .ok (.iconst 4, 1) := getB' kX11_number 42 rfl
theorem dX11_number_78 : decode cX11_number 78 = .ok (.irem, 1) := getB' kX11_number 43 rfl
theorem dX11_number_79 : decode cX11_number 79 = .ok (.invokevirtual 292, 3) := getB' kX11_number 44 rfl
theorem dX11_number_82 : decode cX11_number 82 = .ok (.ireturn, 1) := getB' kX11_number 45 rfl
theorem dX11_number_83 : decode cX11_number 83 = .ok (.iload_n 1, 1) := getB' kX11_number 46 rfl
theorem dX11_number_84 : decode cX11_number 84 = .ok (.tableswitch 72 0 2 #[28, 44, 56], 28) := getB' kX11_number 47 rfl
theorem dX11_number_112 : decode cX11_number 112 = .ok (.iconst 0, 1) := getB' kX11_number 48 rfl
theorem dX11_number_113 : decode cX11_number 113 = .ok (.aload_n 0, 1) := getB' kX11_number 49 rfl
theorem dX11_number_114 : decode cX11_number 114 = .ok (.getfield 19, 3) := getB' kX11_number 50 rfl
theorem dX11_number_117 : decode cX11_number 117 = .ok (.bipush 97, 2) := getB' kX11_number 51 rfl
theorem dX11_number_119 : decode cX11_number 119 = .ok (.iconst 0, 1) := getB' kX11_number 52 rfl
theorem dX11_number_120 : decode cX11_number 120 = .ok (.iconst 0, 1) := getB' kX11_number 53 rfl
theorem dX11_number_121 : decode cX11_number 121 = .ok (.invokevirtual 292, 3) := getB' kX11_number 54 rfl
theorem dX11_number_124 : decode cX11_number 124 = .ok (.invokestatic 296, 3) := getB' kX11_number 55 rfl
theorem dX11_number_127 : decode cX11_number 127 = .ok (.ireturn, 1) := getB' kX11_number 56 rfl
theorem dX11_number_128 : decode cX11_number 128 = .ok (.aload_n 0, 1) := getB' kX11_number 57 rfl
theorem dX11_number_129 : decode cX11_number 129 = .ok (.getfield 19, 3) := getB' kX11_number 58 rfl
theorem dX11_number_132 : decode cX11_number 132 = .ok (.bipush 113, 2) := getB' kX11_number 59 rfl
theorem dX11_number_134 : decode cX11_number 134 = .ok (.iconst 0, 1) := getB' kX11_number 60 rfl
theorem dX11_number_135 : decode cX11_number 135 = .ok (.iconst 0, 1) := getB' kX11_number 61 rfl
theorem dX11_number_136 : decode cX11_number 136 = .ok (.invokevirtual 292, 3) := getB' kX11_number 62 rfl
theorem dX11_number_139 : decode cX11_number 139 = .ok (.ireturn, 1) := getB' kX11_number 63 rfl
theorem dX11_number_140 : decode cX11_number 140 = .ok (.iconst 0, 1) := getB' kX11_number 64 rfl
theorem dX11_number_141 : decode cX11_number 141 = .ok (.aload_n 0, 1) := getB' kX11_number 65 rfl
theorem dX11_number_142 : decode cX11_number 142 = .ok (.getfield 19, 3) := getB' kX11_number 66 rfl
theorem dX11_number_145 : decode cX11_number 145 = .ok (.bipush 103, 2) := getB' kX11_number 67 rfl
theorem dX11_number_147 : decode cX11_number 147 = .ok (.iconst 0, 1) := getB' kX11_number 68 rfl
theorem dX11_number_148 : decode cX11_number 148 = .ok (.iconst 0, 1) := getB' kX11_number 69 rfl
theorem dX11_number_149 : decode cX11_number 149 = .ok (.invokevirtual 292, 3) := getB' kX11_number 70 rfl
theorem dX11_number_152 : decode cX11_number 152 = .ok (.invokestatic 296, 3) := getB' kX11_number 71 rfl
theorem dX11_number_155 : decode cX11_number 155 = .ok (.ireturn, 1) := getB' kX11_number 72 rfl
theorem dX11_number_156 : decode cX11_number 156 = .ok (.aload_n 0, 1) := getB' kX11_number 73 rfl
theorem dX11_number_157 : decode cX11_number 157 = .ok (.getfield 19, 3) := getB' kX11_number 74 rfl
theorem dX11_number_160 : decode cX11_number 160 = .ok (.bipush 122, 2) := getB' kX11_number 75 rfl
theorem dX11_number_162 : decode cX11_number 162 = .ok (.iconst 0, 1) := getB' kX11_number 76 rfl
theorem dX11_number_163 : decode cX11_number 163 = .ok (.iconst 0, 1) := getB' kX11_number 77 rfl
theorem dX11_number_164 : decode cX11_number 164 = .ok (.invokevirtual 292, 3) := getB' kX11_number 78 rfl
theorem dX11_number_167 : decode cX11_number 167 = .ok (.iconst (-1), 1) := getB' kX11_number 79 rfl
theorem dX11_number_168 : decode cX11_number 168 = .ok (.if_icmp .ne 7, 3) := getB' kX11_number 80 rfl
theorem dX11_number_171 : decode cX11_number 171 = .ok (.iconst 0, 1) := getB' kX11_number 81 rfl
theorem dX11_number_172 : decode cX11_number 172 = .ok (.goto 4, 3) := getB' kX11_number 82 rfl
theorem dX11_number_175 : decode cX11_number 175 = .ok (.iconst 1, 1) := getB' kX11_number 83 rfl
theorem dX11_number_176 : decode cX11_number 176 = .ok (.ireturn, 1) := getB' kX11_number 84 rfl
