def LX11_check_0 : List (Nat × Instr × Nat) := [(0, .iload_n 1, 1), (1, .ifCond .lt 17, 3), (4, .iload_n 1, 1), (5, .aload_n 0, 1), (6, .getfield 91, 3), (9, .getfield 199, 3), (12, .bipush 8, 2), (14, .idiv, 1), (15, .if_icmp .le 6, 3), (18, .bipush (-2), 2), (20, .ireturn, 1), (21, .aload_n 0, 1)]
theorem kX11_check_0 : chkB cX11_check LX11_check_0 = true := by decide +kernel
theorem dX11_check_0 : decode cX11_check 0 = .ok (.iload_n 1, 1) := getB' kX11_check_0 0 rfl
theorem dX11_check_1 : decode cX11_check 1 = .ok (.ifCond .lt 17, 3) := getB' kX11_check_0 1 rfl
theorem dX11_check_4 : decode cX11_check 4 = .ok (.iload_n 1, 1) := getB' kX11_check_0 2 rfl
theorem dX11_check_5 : decode cX11_check 5 = .ok (.aload_n 0, 1) := getB' kX11_check_0 3 rfl
theorem dX11_check_6 : decode cX11_check 6 = .ok (.getfield 91, 3) := getB' kX11_check_0 4 rfl
theorem dX11_check_9 : decode cX11_check 9 = .ok (.getfield 199, 3) := getB' kX11_check_0 5 rfl
theorem dX11_check_12 : decode cX11_check 12 = .ok (.bipush 8, 2) := getB' kX11_check_0 6 rfl
theorem dX11_check_14 : decode cX11_check 14 = .ok (.idiv, 1) := getB' kX11_check_0 7 rfl
theorem dX11_check_15 : decode cX11_check 15 = .ok (.if_icmp .le 6, 3) := getB' kX11_check_0 8 rfl
theorem dX11_check_18 : decode cX11_check 18 = .ok (.bipush (-2), 2) := getB' kX11_check_0 9 rfl
theorem dX11_check_20 : decode cX11_check 20 = .ok (.ireturn, 1) := getB' kX11_check_0 10 rfl
theorem dX11_check_21 : decode cX11_check 21 = .ok (.aload_n 0, 1) := getB' kX11_check_0 11 rfl
def LX11_check_1 : List (Nat × Instr × Nat) := [(22, .iconst 2, 1), (23, .iload_n 1, 1), (24, .imul, 1), (25, .invokevirtual 627, 3), (28, .istore_n 2, 1), (29, .aload_n 0, 1), (30, .getfield 91, 3), (33, .iconst 0, 1), (34, .putfield 199, 3), (37, .iload_n 2, 1), (38, .ireturn, 1)]
theorem kX11_check_1 : chkB cX11_check LX11_check_1 = true := by decide +kernel
theorem dX11_check_22 : decode cX11_check 22 = .ok (.iconst 2, 1) := getB' kX11_check_1 0 rfl
theorem dX11_check_23 : decode cX11_check 23 = .ok (.iload_n 1, 1) := getB' kX11_check_1 1 rfl
theorem dX11_check_24 : decode cX11_check 24 = .ok (.imul, 1) := getB' kX11_check_1 2 rfl
theorem dX11_check_25 : decode cX11_check 25 = .ok (.invokevirtual 627, 3) := getB' kX11_check_1 3 rfl
theorem dX11_check_28 : decode cX11_check 28 = .ok (.istore_n 2, 1) := getB' kX11_check_1 4 rfl
theorem dX11_check_29 : decode cX11_check 29 = .ok (.aload_n 0, 1) := getB' kX11_check_1 5 rfl
theorem dX11_check_30 : decode cX11_check 30 = .ok (.getfield 91, 3) := getB' kX11_check_1 6 rfl
theorem dX11_check_33 : decode cX11_check 33 = .ok (.iconst 0, 1) := getB' kX11_check_1 7 rfl
theorem dX11_check_34 : decode cX11_check 34 = .ok (.putfield 199, 3) := getB' kX11_check_1 8 rfl
theorem dX11_check_37 : decode cX11_check 37 = .ok (.iload_n 2, 1) := getB' kX11_check_1 9 rfl
theorem dX11_check_38 : decode cX11_check 38 = .ok (.ireturn, 1) := getB' kX11_check_1 10 rfl
def LX11_firstWrong_0 : List (Nat × Instr × Nat) := [(0, .iconst 0, 1), (1, .istore_n 2, 1), (2, .iconst 0, 1), (3, .istore_n 3, 1), (4, .iload_n 3, 1), (5, .aload_n 0, 1), (6, .getfield 46, 3), (9, .if_icmp .ge 68, 3), (12, .aload_n 0, 1), (13, .iload_n 3, 1), (14, .invokevirtual 195, 3), (17, .astore 4, 2)]
theorem kX11_firstWrong_0 : chkB cX11_firstWrong LX11_firstWrong_0 = true := by decide +kernel
theorem dX11_firstWrong_0 : decode cX11_firstWrong 0 = .ok (.iconst 0, 1) := getB' kX11_firstWrong_0 0 rfl
theorem dX11_firstWrong_1 : decode cX11_firstWrong 1 = .ok (.istore_n 2, 1) := getB' kX11_firstWrong_0 1 rfl
theorem dX11_firstWrong_2 : decode cX11_firstWrong 2 = .ok (.iconst 0, 1) := getB' kX11_firstWrong_0 2 rfl
theorem dX11_firstWrong_3 : decode cX11_firstWrong 3 = .ok (.istore_n 3, 1) := getB' kX11_firstWrong_0 3 rfl
theorem dX11_firstWrong_4 : decode cX11_firstWrong 4 = .ok (.iload_n 3, 1) := getB' kX11_firstWrong_0 4 rfl
theorem dX11_firstWrong_5 : decode cX11_firstWrong 5 = .ok (.aload_n 0, 1) := getB' kX11_firstWrong_0 5 rfl
theorem dX11_firstWrong_6 : decode cX11_firstWrong 6 = .ok (.getfield 46, 3) := getB' kX11_firstWrong_0 6 rfl
theorem dX11_firstWrong_9 : decode cX11_firstWrong 9 = .ok (.if_icmp .ge 68, 3) := getB' kX11_firstWrong_0 7 rfl
theorem dX11_firstWrong_12 : decode cX11_firstWrong 12 = .ok (.aload_n 0, 1) := getB' kX11_firstWrong_0 8 rfl
theorem dX11_firstWrong_13 : decode cX11_firstWrong 13 = .ok (.iload_n 3, 1) := getB' kX11_firstWrong_0 9 rfl
theorem dX11_firstWrong_14 : decode cX11_firstWrong 14 = .ok (.invokevirtual 195, 3) := getB' kX11_firstWrong_0 10 rfl
theorem dX11_firstWrong_17 : decode cX11_firstWrong 17 = .ok (.astore 4, 2) := getB' kX11_firstWrong_0 11 rfl
def LX11_firstWrong_1 : List (Nat × Instr × Nat) := [(19, .aload 4, 2), (21, .ifnonnull 6, 3), (24, .goto 47, 3), (27, .iload_n 2, 1), (28, .iload_n 1, 1), (29, .if_icmp .ge 12, 3), (32, .aload_n 0, 1), (33, .iload_n 2, 1), (34, .invokevirtual 630, 3), (37, .iload_n 3, 1), (38, .if_icmp .eq 5, 3), (41, .iload_n 2, 1)]
theorem kX11_firstWrong_1 : chkB cX11_firstWrong LX11_firstWrong_1 = true := by decide +kernel
theorem dX11_firstWrong_19 : decode cX11_firstWrong 19 = .ok (.aload 4, 2) := getB' kX11_firstWrong_1 0 rfl
theorem dX11_firstWrong_21 : decode cX11_firstWrong 21 = .ok (.ifnonnull 6, 3) := getB' kX11_firstWrong_1 1 rfl
theorem dX11_firstWrong_24 : decode cX11_firstWrong 24 = .ok (.goto 47, 3) := getB' kX11_firstWrong_1 2 rfl
theorem dX11_firstWrong_27 : decode cX11_firstWrong 27 = .ok (.iload_n 2, 1) := getB' kX11_firstWrong_1 3 rfl
theorem dX11_firstWrong_28 : decode cX11_firstWrong 28 = .ok (.iload_n 1, 1) := getB' kX11_firstWrong_1 4 rfl
theorem dX11_firstWrong_29 : decode cX11_firstWrong 29 = .ok (.if_icmp .ge 12, 3) := getB' kX11_firstWrong_1 5 rfl
theorem dX11_firstWrong_32 : decode cX11_firstWrong 32 = .ok (.aload_n 0, 1) := getB' kX11_firstWrong_1 6 rfl
theorem dX11_firstWrong_33 : decode cX11_firstWrong 33 = .ok (.iload_n 2, 1) := getB' kX11_firstWrong_1 7 rfl
theorem dX11_firstWrong_34 : decode cX11_firstWrong 34 = .ok (.invokevirtual 630, 3) := getB' kX11_firstWrong_1 8 rfl
theorem dX11_firstWrong_37 : decode cX11_firstWrong 37 = .ok (.iload_n 3, 1) := getB' kX11_firstWrong_1 9 rfl
theorem dX11_firstWrong_38 : decode cX11_firstWrong 38 = .ok (.if_icmp .eq 5, 3) := getB' kX11_firstWrong_1 10 rfl
theorem dX11_firstWrong_41 : decode cX11_firstWrong 41 = .ok (.iload_n 2, 1) := getB' kX11_firstWrong_1 11 rfl
def LX11_firstWrong_2 : List (Nat × Instr × Nat) := [(42, .ireturn, 1), (43, .aload_n 0, 1), (44, .iload_n 2, 1), (45, .iconst 1, 1), (46, .iadd, 1), (47, .invokevirtual 630, 3), (50, .aload 4, 2), (52, .getfield 186, 3), (55, .aload 4, 2), (57, .getfield 421, 3), (60, .iadd, 1), (61, .if_icmp .eq 7, 3)]
theorem kX11_firstWrong_2 : chkB cX11_firstWrong LX11_firstWrong_2 = true := by decide +kernel
theorem dX11_firstWrong_42 : decode cX11_firstWrong 42 = .ok (.ireturn, 1) := getB' kX11_firstWrong_2 0 rfl
theorem dX11_firstWrong_43 : decode cX11_firstWrong 43 = .ok (.aload_n 0, 1) := getB' kX11_firstWrong_2 1 rfl
theorem dX11_firstWrong_44 : decode cX11_firstWrong 44 = .ok (.iload_n 2, 1) := getB' kX11_firstWrong_2 2 rfl
theorem dX11_firstWrong_45 : decode cX11_firstWrong 45 = .ok (.iconst 1, 1) := getB' kX11_firstWrong_2 3 rfl
theorem dX11_firstWrong_46 : decode cX11_firstWrong 46 = .ok (.iadd, 1) := getB' kX11_firstWrong_2 4 rfl
theorem dX11_firstWrong_47 : decode cX11_firstWrong 47 = .ok (.invokevirtual 630, 3) := getB' kX11_firstWrong_2 5 rfl
theorem dX11_firstWrong_50 : decode cX11_firstWrong 50 = .ok (.aload 4, 2) := getB' kX11_firstWrong_2 6 rfl
theorem dX11_firstWrong_52 : decode cX11_firstWrong 52 = .ok (.getfield 186, 3) := getB' kX11_firstWrong_2 7 rfl
theorem dX11_firstWrong_55 : decode cX11_firstWrong 55 = .ok (.aload 4, 2) := getB' kX11_firstWrong_2 8 rfl
theorem dX11_firstWrong_57 : decode cX11_firstWrong 57 = .ok (.getfield 421, 3) := getB' kX11_firstWrong_2 9 rfl
theorem dX11_firstWrong_60 : decode cX11_firstWrong 60 = .ok (.iadd, 1) := getB' kX11_firstWrong_2 10 rfl
theorem dX11_firstWrong_61 : decode cX11_firstWrong 61 = .ok (.if_icmp .eq 7, 3) := getB' kX11_firstWrong_2 11 rfl
def LX11_firstWrong_3 : List (Nat × Instr × Nat) := [(64, .iload_n 2, 1), (65, .iconst 1, 1), (66, .iadd, 1), (67, .ireturn, 1), (68, .iinc 2 2, 3), (71, .iinc 3 1, 3), (74, .goto (-70), 3), (77, .iload_n 2, 1), (78, .iload_n 1, 1), (79, .if_icmp .ge 7, 3), (82, .iload_n 2, 1), (83, .goto 4, 3)]
theorem kX11_firstWrong_3 : chkB cX11_firstWrong LX11_firstWrong_3 = true := by decide +kernel
theorem dX11_firstWrong_64 : decode cX11_firstWrong 64 = .ok (.iload_n 2, 1) := getB' kX11_firstWrong_3 0 rfl
theorem dX11_firstWrong_65 : decode cX11_firstWrong 65 = .ok (.iconst 1, 1) := getB' kX11_firstWrong_3 1 rfl
theorem dX11_firstWrong_66 : decode cX11_firstWrong 66 = .ok (.iadd, 1) := getB' kX11_firstWrong_3 2 rfl
theorem dX11_firstWrong_67 : decode cX11_firstWrong 67 = .ok (.ireturn, 1) := getB' kX11_firstWrong_3 3 rfl
theorem dX11_firstWrong_68 : decode cX11_firstWrong 68 = .ok (.iinc 2 2, 3) := getB' kX11_firstWrong_3 4 rfl
theorem dX11_firstWrong_71 : decode cX11_firstWrong 71 = .ok (.iinc 3 1, 3) := getB' kX11_firstWrong_3 5 rfl
theorem dX11_firstWrong_74 : decode cX11_firstWrong 74 = .ok (.goto (-70), 3) := getB' kX11_firstWrong_3 6 rfl
theorem dX11_firstWrong_77 : decode cX11_firstWrong 77 = .ok (.iload_n 2, 1) := getB' kX11_firstWrong_3 7 rfl
theorem dX11_firstWrong_78 : decode cX11_firstWrong 78 = .ok (.iload_n 1, 1) := getB' kX11_firstWrong_3 8 rfl
theorem dX11_firstWrong_79 : decode cX11_firstWrong 79 = .ok (.if_icmp .ge 7, 3) := getB' kX11_firstWrong_3 9 rfl
theorem dX11_firstWrong_82 : decode cX11_firstWrong 82 = .ok (.iload_n 2, 1) := getB' kX11_firstWrong_3 10 rfl
theorem dX11_firstWrong_83 : decode cX11_firstWrong 83 = .ok (.goto 4, 3) := getB' kX11_firstWrong_3 11 rfl
def LX11_firstWrong_4 : List (Nat × Instr × Nat) := [(86, .iconst (-1), 1), (87, .ireturn, 1)]
theorem kX11_firstWrong_4 : chkB cX11_firstWrong LX11_firstWrong_4 = true := by decide +kernel
theorem dX11_firstWrong_86 : decode cX11_firstWrong 86 = .ok (.iconst (-1), 1) := getB' kX11_firstWrong_4 0 rfl
theorem dX11_firstWrong_87 : decode cX11_firstWrong 87 = .ok (.ireturn, 1) := getB' kX11_firstWrong_4 1 rfl
def LX11_look_0 : List (Nat × Instr × Nat) := [(0, .aload_n 0, 1), (1, .iload_n 1, 1), (2, .invokevirtual 384, 3), (5, .astore_n 3, 1), (6, .aload_n 3, 1), (7, .ifnonnull 5, 3), (10, .iconst (-1), 1), (11, .ireturn, 1), (12, .iload_n 2, 1), (13, .tableswitch 77 0 5 #[39, 44, 49, 54, 59, 64], 39), (52, .aload_n 3, 1), (53, .getfield 387, 3)]
theorem kX11_look_0 : chkB cX11_look LX11_look_0 = true := by decide +kernel
theorem dX11_look_0 : decode cX11_look 0 = .ok (.aload_n 0, 1) := getB' kX11_look_0 0 rfl
theorem dX11_look_1 : decode cX11_look 1 = .ok (.iload_n 1, 1) := getB' kX11_look_0 1 rfl
theorem dX11_look_2 : decode cX11_look 2 = .ok (.invokevirtual 384, 3) := getB' kX11_look_0 2 rfl
theorem dX11_look_5 : decode cX11_look 5 = .ok (.astore_n 3, 1) := getB' kX11_look_0 3 rfl
theorem dX11_look_6 : decode cX11_look 6 = .ok (.aload_n 3, 1) := getB' kX11_look_0 4 rfl
theorem dX11_look_7 : decode cX11_look 7 = .ok (.ifnonnull 5, 3) := getB' kX11_look_0 5 rfl
theorem dX11_look_10 : decode cX11_look 10 = .ok (.iconst (-1), 1) := getB' kX11_look_0 6 rfl
theorem dX11_look_11 : decode cX11_look 11 = .ok (.ireturn, 1) := getB' kX11_look_0 7 rfl
theorem dX11_look_12 : decode cX11_look 12 = .ok (.iload_n 2, 1) := getB' kX11_look_0 8 rfl
theorem dX11_look_13 : decode cX11_look 13 = .ok (.tableswitch 77 0 5 #[39, 44, 49, 54, 59, 64], 39) := getB' kX11_look_0 9 rfl
theorem dX11_look_52 : decode cX11_look 52 = .ok (.aload_n 3, 1) := getB' kX11_look_0 10 rfl
theorem dX11_look_53 : decode cX11_look 53 = .ok (.getfield 387, 3) := getB' kX11_look_0 11 rfl
def LX11_look_1 : List (Nat × Instr × Nat) := [(56, .ireturn, 1), (57, .aload_n 3, 1), (58, .getfield 173, 3), (61, .ireturn, 1), (62, .aload_n 3, 1), (63, .getfield 344, 3), (66, .ireturn, 1), (67, .aload_n 3, 1), (68, .getfield 347, 3), (71, .ireturn, 1), (72, .aload_n 3, 1), (73, .getfield 176, 3)]
theorem kX11_look_1 : chkB cX11_look LX11_look_1 = true := by decide +kernel
theorem dX11_look_56 : decode cX11_look 56 = .ok (.ireturn, 1) := getB' kX11_look_1 0 rfl
theorem dX11_look_57 : decode cX11_look 57 = .ok (.aload_n 3, 1) := getB' kX11_look_1 1 rfl
theorem dX11_look_58 : decode cX11_look 58 = .ok (.getfield 173, 3) := getB' kX11_look_1 2 rfl
theorem dX11_look_61 : decode cX11_look 61 = .ok (.ireturn, 1) := getB' kX11_look_1 3 rfl
theorem dX11_look_62 : decode cX11_look 62 = .ok (.aload_n 3, 1) := getB' kX11_look_1 4 rfl
theorem dX11_look_63 : decode cX11_look 63 = .ok (.getfield 344, 3) := getB' kX11_look_1 5 rfl
theorem dX11_look_66 : decode cX11_look 66 = .ok (.ireturn, 1) := getB' kX11_look_1 6 rfl
theorem dX11_look_67 : decode cX11_look 67 = .ok (.aload_n 3, 1) := getB' kX11_look_1 7 rfl
theorem dX11_look_68 : decode cX11_look 68 = .ok (.getfield 347, 3) := getB' kX11_look_1 8 rfl
theorem dX11_look_71 : decode cX11_look 71 = .ok (.ireturn, 1) := getB' kX11_look_1 9 rfl
theorem dX11_look_72 : decode cX11_look 72 = .ok (.aload_n 3, 1) := getB' kX11_look_1 10 rfl
theorem dX11_look_73 : decode cX11_look 73 = .ok (.getfield 176, 3) := getB' kX11_look_1 11 rfl
def LX11_look_2 : List (Nat × Instr × Nat) := [(76, .ireturn, 1), (77, .aload_n 3, 1), (78, .getfield 511, 3), (81, .ifCond .eq 7, 3), (84, .iconst 1, 1), (85, .goto 4, 3), (88, .iconst 0, 1), (89, .ireturn, 1), (90, .aload_n 3, 1), (91, .getfield 387, 3), (94, .iconst 1, 1), (95, .if_icmp .ne 12, 3)]
theorem kX11_look_2 : chkB cX11_look LX11_look_2 = true := by decide +kernel
theorem dX11_look_76 : decode cX11_look 76 = .ok (.ireturn, 1) := getB' kX11_look_2 0 rfl
theorem dX11_look_77 : decode cX11_look 77 = .ok (.aload_n 3, 1) := getB' kX11_look_2 1 rfl
theorem dX11_look_78 : decode cX11_look 78 = .ok (.getfield 511, 3) := getB' kX11_look_2 2 rfl
theorem dX11_look_81 : decode cX11_look 81 = .ok (.ifCond .eq 7, 3) := getB' kX11_look_2 3 rfl
theorem dX11_look_84 : decode cX11_look 84 = .ok (.iconst 1, 1) := getB' kX11_look_2 4 rfl
theorem dX11_look_85 : decode cX11_look 85 = .ok (.goto 4, 3) := getB' kX11_look_2 5 rfl
theorem dX11_look_88 : decode cX11_look 88 = .ok (.iconst 0, 1) := getB' kX11_look_2 6 rfl
theorem dX11_look_89 : decode cX11_look 89 = .ok (.ireturn, 1) := getB' kX11_look_2 7 rfl
theorem dX11_look_90 : decode cX11_look 90 = .ok (.aload_n 3, 1) := getB' kX11_look_2 8 rfl
theorem dX11_look_91 : decode cX11_look 91 = .ok (.getfield 387, 3) := getB' kX11_look_2 9 rfl
theorem dX11_look_94 : decode cX11_look 94 = .ok (.iconst 1, 1) := getB' kX11_look_2 10 rfl
theorem dX11_look_95 : decode cX11_look 95 = .ok (.if_icmp .ne 12, 3) := getB' kX11_look_2 11 rfl
def LX11_look_3 : List (Nat × Instr × Nat) := [(98, .aload_n 0, 1), (99, .aload_n 3, 1), (100, .iload_n 2, 1), (101, .invokevirtual 633, 3), (104, .goto 4, 3), (107, .iconst (-1), 1), (108, .ireturn, 1)]
theorem kX11_look_3 : chkB cX11_look LX11_look_3 = true := by decide +kernel
theorem dX11_look_98 : decode cX11_look 98 = .ok (.aload_n 0, 1) := getB' kX11_look_3 0 rfl
theorem dX11_look_99 : decode cX11_look 99 = .ok (.aload_n 3, 1) := getB' kX11_look_3 1 rfl
theorem dX11_look_100 : decode cX11_look 100 = .ok (.iload_n 2, 1) := getB' kX11_look_3 2 rfl
theorem dX11_look_101 : decode cX11_look 101 = .ok (.invokevirtual 633, 3) := getB' kX11_look_3 3 rfl
theorem dX11_look_104 : decode cX11_look 104 = .ok (.goto 4, 3) := getB' kX11_look_3 4 rfl
theorem dX11_look_107 : decode cX11_look 107 = .ok (.iconst (-1), 1) := getB' kX11_look_3 5 rfl
theorem dX11_look_108 : decode cX11_look 108 = .ok (.ireturn, 1) := getB' kX11_look_3 6 rfl
def LX11_lookAtStation_0 : List (Nat × Instr × Nat) := [(0, .iload_n 2, 1), (1, .tableswitch 51 6 9 #[31, 36, 41, 46], 31), (32, .aload_n 1, 1), (33, .getfield 183, 3), (36, .ireturn, 1), (37, .aload_n 1, 1), (38, .getfield 186, 3), (41, .ireturn, 1), (42, .aload_n 1, 1), (43, .getfield 421, 3), (46, .ireturn, 1), (47, .aload_n 1, 1)]
theorem kX11_lookAtStation_0 : chkB cX11_lookAtStation LX11_lookAtStation_0 = true := by decide +kernel
theorem dX11_lookAtStation_0 : decode cX11_lookAtStation 0 = .ok (.iload_n 2, 1) := getB' kX11_lookAtStation_0 0 rfl
theorem dX11_lookAtStation_1 : decode cX11_lookAtStation 1 = .ok (.tableswitch 51 6 9 #[31, 36, 41, 46], 31) := getB' kX11_lookAtStation_0 1 rfl
theorem dX11_lookAtStation_32 : decode cX11_lookAtStation 32 = .ok (.aload_n 1, 1) := getB' kX11_lookAtStation_0 2 rfl
theorem dX11_lookAtStation_33 : decode cX11_lookAtStation 33 = .ok (.getfield 183, 3) := getB' kX11_lookAtStation_0 3 rfl
theorem dX11_lookAtStation_36 : decode cX11_lookAtStation 36 = .ok (.ireturn, 1) := getB' kX11_lookAtStation_0 4 rfl
theorem dX11_lookAtStation_37 : decode cX11_lookAtStation 37 = .ok (.aload_n 1, 1) := getB' kX11_lookAtStation_0 5 rfl
theorem dX11_lookAtStation_38 : decode cX11_lookAtStation 38 = .ok (.getfield 186, 3) := getB' kX11_lookAtStation_0 6 rfl
theorem dX11_lookAtStation_41 : decode cX11_lookAtStation 41 = .ok (.ireturn, 1) := getB' kX11_lookAtStation_0 7 rfl
theorem dX11_lookAtStation_42 : decode cX11_lookAtStation 42 = .ok (.aload_n 1, 1) := getB' kX11_lookAtStation_0 8 rfl
theorem dX11_lookAtStation_43 : decode cX11_lookAtStation 43 = .ok (.getfield 421, 3) := getB' kX11_lookAtStation_0 9 rfl
theorem dX11_lookAtStation_46 : decode cX11_lookAtStation 46 = .ok (.ireturn, 1) := getB' kX11_lookAtStation_0 10 rfl
theorem dX11_lookAtStation_47 : decode cX11_lookAtStation 47 = .ok (.aload_n 1, 1) := getB' kX11_lookAtStation_0 11 rfl
def LX11_lookAtStation_1 : List (Nat × Instr × Nat) := [(48, .getfield 501, 3), (51, .ireturn, 1), (52, .iload_n 2, 1), (53, .bipush 10, 2), (55, .bipush 13, 2), (57, .invokestatic 112, 3), (60, .ifCond .eq 17, 3), (63, .aload_n 1, 1), (64, .getfield 491, 3), (67, .iload_n 2, 1), (68, .bipush 10, 2), (70, .isub, 1)]
theorem kX11_lookAtStation_1 : chkB cX11_lookAtStation LX11_lookAtStation_1 = true := by decide +kernel
theorem dX11_lookAtStation_48 : decode cX11_lookAtStation 48 = .ok (.getfield 501, 3) := getB' kX11_lookAtStation_1 0 rfl
theorem dX11_lookAtStation_51 : decode cX11_lookAtStation 51 = .ok (.ireturn, 1) := getB' kX11_lookAtStation_1 1 rfl
theorem dX11_lookAtStation_52 : decode cX11_lookAtStation 52 = .ok (.iload_n 2, 1) := getB' kX11_lookAtStation_1 2 rfl
theorem dX11_lookAtStation_53 : decode cX11_lookAtStation 53 = .ok (.bipush 10, 2) := getB' kX11_lookAtStation_1 3 rfl
theorem dX11_lookAtStation_55 : decode cX11_lookAtStation 55 = .ok (.bipush 13, 2) := getB' kX11_lookAtStation_1 4 rfl
theorem dX11_lookAtStation_57 : decode cX11_lookAtStation 57 = .ok (.invokestatic 112, 3) := getB' kX11_lookAtStation_1 5 rfl
theorem dX11_lookAtStation_60 : decode cX11_lookAtStation 60 = .ok (.ifCond .eq 17, 3) := getB' kX11_lookAtStation_1 6 rfl
theorem dX11_lookAtStation_63 : decode cX11_lookAtStation 63 = .ok (.aload_n 1, 1) := getB' kX11_lookAtStation_1 7 rfl
theorem dX11_lookAtStation_64 : decode cX11_lookAtStation 64 = .ok (.getfield 491, 3) := getB' kX11_lookAtStation_1 8 rfl
theorem dX11_lookAtStation_67 : decode cX11_lookAtStation 67 = .ok (.iload_n 2, 1) := getB' kX11_lookAtStation_1 9 rfl
theorem dX11_lookAtStation_68 : decode cX11_lookAtStation 68 = .ok (.bipush 10, 2) := getB' kX11_lookAtStation_1 10 rfl
theorem dX11_lookAtStation_70 : decode cX11_lookAtStation 70 = .ok (.isub, 1) := getB' kX11_lookAtStation_1 11 rfl
def LX11_lookAtStation_2 : List (Nat × Instr × Nat) := [(71, .invokestatic 253, 3), (74, .goto 4, 3), (77, .iconst (-1), 1), (78, .ireturn, 1)]
theorem kX11_lookAtStation_2 : chkB cX11_lookAtStation LX11_lookAtStation_2 = true := by decide +kernel
theorem dX11_lookAtStation_71 : decode cX11_lookAtStation 71 = .ok (.invokestatic 253, 3) := getB' kX11_lookAtStation_2 0 rfl
theorem dX11_lookAtStation_74 : decode cX11_lookAtStation 74 = .ok (.goto 4, 3) := getB' kX11_lookAtStation_2 1 rfl
theorem dX11_lookAtStation_77 : decode cX11_lookAtStation 77 = .ok (.iconst (-1), 1) := getB' kX11_lookAtStation_2 2 rfl
theorem dX11_lookAtStation_78 : decode cX11_lookAtStation 78 = .ok (.ireturn, 1) := getB' kX11_lookAtStation_2 3 rfl
def LX11_at_0 : List (Nat × Instr × Nat) := [(0, .aload_n 0, 1), (1, .iload_n 1, 1), (2, .invokevirtual 403, 3), (5, .astore_n 3, 1), (6, .aload_n 3, 1), (7, .ifnonnull 5, 3), (10, .iconst (-1), 1), (11, .ireturn, 1), (12, .iload_n 2, 1), (13, .tableswitch 80 0 4 #[35, 40, 45, 50, 75], 35), (48, .aload_n 3, 1), (49, .getfield 410, 3)]
theorem kX11_at_0 : chkB cX11_at LX11_at_0 = true := by decide +kernel
theorem dX11_at_0 : decode cX11_at 0 = .ok (.aload_n 0, 1) := getB' kX11_at_0 0 rfl
theorem dX11_at_1 : decode cX11_at 1 = .ok (.iload_n 1, 1) := getB' kX11_at_0 1 rfl
theorem dX11_at_2 : decode cX11_at 2 = .ok (.invokevirtual 403, 3) := getB' kX11_at_0 2 rfl
theorem dX11_at_5 : decode cX11_at 5 = .ok (.astore_n 3, 1) := getB' kX11_at_0 3 rfl
theorem dX11_at_6 : decode cX11_at 6 = .ok (.aload_n 3, 1) := getB' kX11_at_0 4 rfl
theorem dX11_at_7 : decode cX11_at 7 = .ok (.ifnonnull 5, 3) := getB' kX11_at_0 5 rfl
theorem dX11_at_10 : decode cX11_at 10 = .ok (.iconst (-1), 1) := getB' kX11_at_0 6 rfl
theorem dX11_at_11 : decode cX11_at 11 = .ok (.ireturn, 1) := getB' kX11_at_0 7 rfl
theorem dX11_at_12 : decode cX11_at 12 = .ok (.iload_n 2, 1) := getB' kX11_at_0 8 rfl
theorem dX11_at_13 : decode cX11_at 13 = .ok (.tableswitch 80 0 4 #[35, 40, 45, 50, 75], 35) := getB' kX11_at_0 9 rfl
theorem dX11_at_48 : decode cX11_at 48 = .ok (.aload_n 3, 1) := getB' kX11_at_0 10 rfl
theorem dX11_at_49 : decode cX11_at 49 = .ok (.getfield 410, 3) := getB' kX11_at_0 11 rfl
def LX11_at_1 : List (Nat × Instr × Nat) := [(52, .ireturn, 1), (53, .aload_n 3, 1), (54, .getfield 552, 3), (57, .ireturn, 1), (58, .aload_n 3, 1), (59, .getfield 553, 3), (62, .ireturn, 1), (63, .aload_n 3, 1), (64, .getfield 410, 3), (67, .iconst 1, 1), (68, .if_icmp .eq 11, 3), (71, .aload_n 3, 1)]
theorem kX11_at_1 : chkB cX11_at LX11_at_1 = true := by decide +kernel
theorem dX11_at_52 : decode cX11_at 52 = .ok (.ireturn, 1) := getB' kX11_at_1 0 rfl
theorem dX11_at_53 : decode cX11_at 53 = .ok (.aload_n 3, 1) := getB' kX11_at_1 1 rfl
theorem dX11_at_54 : decode cX11_at 54 = .ok (.getfield 552, 3) := getB' kX11_at_1 2 rfl
theorem dX11_at_57 : decode cX11_at 57 = .ok (.ireturn, 1) := getB' kX11_at_1 3 rfl
theorem dX11_at_58 : decode cX11_at 58 = .ok (.aload_n 3, 1) := getB' kX11_at_1 4 rfl
theorem dX11_at_59 : decode cX11_at 59 = .ok (.getfield 553, 3) := getB' kX11_at_1 5 rfl
theorem dX11_at_62 : decode cX11_at 62 = .ok (.ireturn, 1) := getB' kX11_at_1 6 rfl
theorem dX11_at_63 : decode cX11_at 63 = .ok (.aload_n 3, 1) := getB' kX11_at_1 7 rfl
theorem dX11_at_64 : decode cX11_at 64 = .ok (.getfield 410, 3) := getB' kX11_at_1 8 rfl
theorem dX11_at_67 : decode cX11_at 67 = .ok (.iconst 1, 1) := getB' kX11_at_1 9 rfl
theorem dX11_at_68 : decode cX11_at 68 = .ok (.if_icmp .eq 11, 3) := getB' kX11_at_1 10 rfl
theorem dX11_at_71 : decode cX11_at 71 = .ok (.aload_n 3, 1) := getB' kX11_at_1 11 rfl
def LX11_at_2 : List (Nat × Instr × Nat) := [(72, .getfield 410, 3), (75, .iconst 3, 1), (76, .if_icmp .ne 10, 3), (79, .aload_n 3, 1), (80, .getfield 522, 3), (83, .goto 4, 3), (86, .iconst (-1), 1), (87, .ireturn, 1), (88, .aload_n 3, 1), (89, .getfield 546, 3), (92, .ireturn, 1), (93, .iconst (-1), 1)]
theorem kX11_at_2 : chkB cX11_at LX11_at_2 = true := by decide +kernel
theorem dX11_at_72 : decode cX11_at 72 = .ok (.getfield 410, 3) := getB' kX11_at_2 0 rfl
theorem dX11_at_75 : decode cX11_at 75 = .ok (.iconst 3, 1) := getB' kX11_at_2 1 rfl
theorem dX11_at_76 : decode cX11_at 76 = .ok (.if_icmp .ne 10, 3) := getB' kX11_at_2 2 rfl
theorem dX11_at_79 : decode cX11_at 79 = .ok (.aload_n 3, 1) := getB' kX11_at_2 3 rfl
theorem dX11_at_80 : decode cX11_at 80 = .ok (.getfield 522, 3) := getB' kX11_at_2 4 rfl
theorem dX11_at_83 : decode cX11_at 83 = .ok (.goto 4, 3) := getB' kX11_at_2 5 rfl
theorem dX11_at_86 : decode cX11_at 86 = .ok (.iconst (-1), 1) := getB' kX11_at_2 6 rfl
theorem dX11_at_87 : decode cX11_at 87 = .ok (.ireturn, 1) := getB' kX11_at_2 7 rfl
theorem dX11_at_88 : decode cX11_at 88 = .ok (.aload_n 3, 1) := getB' kX11_at_2 8 rfl
theorem dX11_at_89 : decode cX11_at 89 = .ok (.getfield 546, 3) := getB' kX11_at_2 9 rfl
theorem dX11_at_92 : decode cX11_at 92 = .ok (.ireturn, 1) := getB' kX11_at_2 10 rfl
theorem dX11_at_93 : decode cX11_at 93 = .ok (.iconst (-1), 1) := getB' kX11_at_2 11 rfl
def LX11_at_3 : List (Nat × Instr × Nat) := [(94, .ireturn, 1)]
theorem kX11_at_3 : chkB cX11_at LX11_at_3 = true := by decide +kernel
theorem dX11_at_94 : decode cX11_at 94 = .ok (.ireturn, 1) := getB' kX11_at_3 0 rfl
def LX11_about_0 : List (Nat × Instr × Nat) := [(0, .aload_n 0, 1), (1, .iload_n 1, 1), (2, .invokevirtual 309, 3), (5, .astore_n 3, 1), (6, .aload_n 3, 1), (7, .ifnonnull 5, 3), (10, .iconst (-1), 1), (11, .ireturn, 1), (12, .iload_n 2, 1), (13, .tableswitch 114 0 10 #[59, 64, 69, 74, 79, 84, 89, 94, 99, 104, 109], 59), (72, .aload_n 3, 1), (73, .getfield 375, 3)]
theorem kX11_about_0 : chkB cX11_about LX11_about_0 = true := by decide +kernel
theorem dX11_about_0 : decode cX11_about 0 = .ok (.aload_n 0, 1) := getB' kX11_about_0 0 rfl
theorem dX11_about_1 : decode cX11_about 1 = .ok (.iload_n 1, 1) := getB' kX11_about_0 1 rfl
theorem dX11_about_2 : decode cX11_about 2 = .ok (.invokevirtual 309, 3) := getB' kX11_about_0 2 rfl
theorem dX11_about_5 : decode cX11_about 5 = .ok (.astore_n 3, 1) := getB' kX11_about_0 3 rfl
theorem dX11_about_6 : decode cX11_about 6 = .ok (.aload_n 3, 1) := getB' kX11_about_0 4 rfl
theorem dX11_about_7 : decode cX11_about 7 = .ok (.ifnonnull 5, 3) := getB' kX11_about_0 5 rfl
theorem dX11_about_10 : decode cX11_about 10 = .ok (.iconst (-1), 1) := getB' kX11_about_0 6 rfl
theorem dX11_about_11 : decode cX11_about 11 = .ok (.ireturn, 1) := getB' kX11_about_0 7 rfl
theorem dX11_about_12 : decode cX11_about 12 = .ok (.iload_n 2, 1) := getB' kX11_about_0 8 rfl
theorem dX11_about_13 : decode cX11_about 13 = .ok (.tableswitch 114 0 10 #[59, 64, 69, 74, 79, 84, 89, 94, 99, 104, 109], 59) := getB' kX11_about_0 9 rfl
theorem dX11_about_72 : decode cX11_about 72 = .ok (.aload_n 3, 1) := getB' kX11_about_0 10 rfl
theorem dX11_about_73 : decode cX11_about 73 = .ok (.getfield 375, 3) := getB' kX11_about_0 11 rfl
def LX11_about_1 : List (Nat × Instr × Nat) := [(76, .ireturn, 1), (77, .aload_n 3, 1), (78, .getfield 353, 3), (81, .ireturn, 1), (82, .aload_n 3, 1), (83, .getfield 378, 3), (86, .ireturn, 1), (87, .aload_n 3, 1), (88, .getfield 452, 3), (91, .ireturn, 1), (92, .aload_n 3, 1), (93, .getfield 455, 3)]
theorem kX11_about_1 : chkB cX11_about LX11_about_1 = true := by decide +kernel
theorem dX11_about_76 : decode cX11_about 76 = .ok (.ireturn, 1) := getB' kX11_about_1 0 rfl
theorem dX11_about_77 : decode cX11_about 77 = .ok (.aload_n 3, 1) := getB' kX11_about_1 1 rfl
theorem dX11_about_78 : decode cX11_about 78 = .ok (.getfield 353, 3) := getB' kX11_about_1 2 rfl
theorem dX11_about_81 : decode cX11_about 81 = .ok (.ireturn, 1) := getB' kX11_about_1 3 rfl
theorem dX11_about_82 : decode cX11_about 82 = .ok (.aload_n 3, 1) := getB' kX11_about_1 4 rfl
theorem dX11_about_83 : decode cX11_about 83 = .ok (.getfield 378, 3) := getB' kX11_about_1 5 rfl
theorem dX11_about_86 : decode cX11_about 86 = .ok (.ireturn, 1) := getB' kX11_about_1 6 rfl
theorem dX11_about_87 : decode cX11_about 87 = .ok (.aload_n 3, 1) := getB' kX11_about_1 7 rfl
theorem dX11_about_88 : decode cX11_about 88 = .ok (.getfield 452, 3) := getB' kX11_about_1 8 rfl
theorem dX11_about_91 : decode cX11_about 91 = .ok (.ireturn, 1) := getB' kX11_about_1 9 rfl
theorem dX11_about_92 : decode cX11_about 92 = .ok (.aload_n 3, 1) := getB' kX11_about_1 10 rfl
theorem dX11_about_93 : decode cX11_about 93 = .ok (.getfield 455, 3) := getB' kX11_about_1 11 rfl
def LX11_about_2 : List (Nat × Instr × Nat) := [(96, .ireturn, 1), (97, .aload_n 3, 1), (98, .getfield 461, 3), (101, .ireturn, 1), (102, .aload_n 3, 1), (103, .getfield 458, 3), (106, .ireturn, 1), (107, .aload_n 3, 1), (108, .getfield 313, 3), (111, .ireturn, 1), (112, .aload_n 3, 1), (113, .getfield 316, 3)]
theorem kX11_about_2 : chkB cX11_about LX11_about_2 = true := by decide +kernel
theorem dX11_about_96 : decode cX11_about 96 = .ok (.ireturn, 1) := getB' kX11_about_2 0 rfl
theorem dX11_about_97 : decode cX11_about 97 = .ok (.aload_n 3, 1) := getB' kX11_about_2 1 rfl
theorem dX11_about_98 : decode cX11_about 98 = .ok (.getfield 461, 3) := getB' kX11_about_2 2 rfl
theorem dX11_about_101 : decode cX11_about 101 = .ok (.ireturn, 1) := getB' kX11_about_2 3 rfl
theorem dX11_about_102 : decode cX11_about 102 = .ok (.aload_n 3, 1) := getB' kX11_about_2 4 rfl
theorem dX11_about_103 : decode cX11_about 103 = .ok (.getfield 458, 3) := getB' kX11_about_2 5 rfl
theorem dX11_about_106 : decode cX11_about 106 = .ok (.ireturn, 1) := getB' kX11_about_2 6 rfl
theorem dX11_about_107 : decode cX11_about 107 = .ok (.aload_n 3, 1) := getB' kX11_about_2 7 rfl
theorem dX11_about_108 : decode cX11_about 108 = .ok (.getfield 313, 3) := getB' kX11_about_2 8 rfl
theorem dX11_about_111 : decode cX11_about 111 = .ok (.ireturn, 1) := getB' kX11_about_2 9 rfl
theorem dX11_about_112 : decode cX11_about 112 = .ok (.aload_n 3, 1) := getB' kX11_about_2 10 rfl
theorem dX11_about_113 : decode cX11_about 113 = .ok (.getfield 316, 3) := getB' kX11_about_2 11 rfl
def LX11_about_3 : List (Nat × Instr × Nat) := [(116, .ireturn, 1), (117, .aload_n 3, 1), (118, .getfield 319, 3), (121, .ireturn, 1), (122, .aload_n 3, 1), (123, .getfield 322, 3), (126, .ireturn, 1), (127, .iconst (-1), 1), (128, .ireturn, 1)]
theorem kX11_about_3 : chkB cX11_about LX11_about_3 = true := by decide +kernel
theorem dX11_about_116 : decode cX11_about 116 = .ok (.ireturn, 1) := getB' kX11_about_3 0 rfl
theorem dX11_about_117 : decode cX11_about 117 = .ok (.aload_n 3, 1) := getB' kX11_about_3 1 rfl
theorem dX11_about_118 : decode cX11_about 118 = .ok (.getfield 319, 3) := getB' kX11_about_3 2 rfl
theorem dX11_about_121 : decode cX11_about 121 = .ok (.ireturn, 1) := getB' kX11_about_3 3 rfl
theorem dX11_about_122 : decode cX11_about 122 = .ok (.aload_n 3, 1) := getB' kX11_about_3 4 rfl
theorem dX11_about_123 : decode cX11_about 123 = .ok (.getfield 322, 3) := getB' kX11_about_3 5 rfl
theorem dX11_about_126 : decode cX11_about 126 = .ok (.ireturn, 1) := getB' kX11_about_3 6 rfl
theorem dX11_about_127 : decode cX11_about 127 = .ok (.iconst (-1), 1) := getB' kX11_about_3 7 rfl
theorem dX11_about_128 : decode cX11_about 128 = .ok (.ireturn, 1) := getB' kX11_about_3 8 rfl
def LX11_sum_0 : List (Nat × Instr × Nat) := [(0, .iload_n 1, 1), (1, .ifCond .lt 19, 3), (4, .iload_n 1, 1), (5, .aload_n 0, 1), (6, .getfield 98, 3), (9, .arraylength, 1), (10, .if_icmp .ge 10, 3), (13, .aload_n 0, 1), (14, .getfield 98, 3), (17, .iload_n 1, 1), (18, .laload, 1), (19, .lreturn, 1)]
theorem kX11_sum_0 : chkB cX11_sum LX11_sum_0 = true := by decide +kernel
theorem dX11_sum_0 : decode cX11_sum 0 = .ok (.iload_n 1, 1) := getB' kX11_sum_0 0 rfl
theorem dX11_sum_1 : decode cX11_sum 1 = .ok (.ifCond .lt 19, 3) := getB' kX11_sum_0 1 rfl
theorem dX11_sum_4 : decode cX11_sum 4 = .ok (.iload_n 1, 1) := getB' kX11_sum_0 2 rfl
theorem dX11_sum_5 : decode cX11_sum 5 = .ok (.aload_n 0, 1) := getB' kX11_sum_0 3 rfl
theorem dX11_sum_6 : decode cX11_sum 6 = .ok (.getfield 98, 3) := getB' kX11_sum_0 4 rfl
theorem dX11_sum_9 : decode cX11_sum 9 = .ok (.arraylength, 1) := getB' kX11_sum_0 5 rfl
theorem dX11_sum_10 : decode cX11_sum 10 = .ok (.if_icmp .ge 10, 3) := getB' kX11_sum_0 6 rfl
theorem dX11_sum_13 : decode cX11_sum 13 = .ok (.aload_n 0, 1) := getB' kX11_sum_0 7 rfl
theorem dX11_sum_14 : decode cX11_sum 14 = .ok (.getfield 98, 3) := getB' kX11_sum_0 8 rfl
theorem dX11_sum_17 : decode cX11_sum 17 = .ok (.iload_n 1, 1) := getB' kX11_sum_0 9 rfl
theorem dX11_sum_18 : decode cX11_sum 18 = .ok (.laload, 1) := getB' kX11_sum_0 10 rfl
theorem dX11_sum_19 : decode cX11_sum 19 = .ok (.lreturn, 1) := getB' kX11_sum_0 11 rfl
def LX11_sum_1 : List (Nat × Instr × Nat) := [(20, .iload_n 1, 1), (21, .bipush 10, 2), (23, .bipush 18, 2), (25, .invokestatic 112, 3), (28, .ifCond .eq 28, 3), (31, .aload_n 0, 1), (32, .iload_n 1, 1), (33, .bipush 10, 2), (35, .isub, 1), (36, .invokevirtual 151, 3), (39, .astore_n 2, 1), (40, .aload_n 2, 1)]
theorem kX11_sum_1 : chkB cX11_sum LX11_sum_1 = true := by decide +kernel
theorem dX11_sum_20 : decode cX11_sum 20 = .ok (.iload_n 1, 1) := getB' kX11_sum_1 0 rfl
theorem dX11_sum_21 : decode cX11_sum 21 = .ok (.bipush 10, 2) := getB' kX11_sum_1 1 rfl
theorem dX11_sum_23 : decode cX11_sum 23 = .ok (.bipush 18, 2) := getB' kX11_sum_1 2 rfl
theorem dX11_sum_25 : decode cX11_sum 25 = .ok (.invokestatic 112, 3) := getB' kX11_sum_1 3 rfl
theorem dX11_sum_28 : decode cX11_sum 28 = .ok (.ifCond .eq 28, 3) := getB' kX11_sum_1 4 rfl
theorem dX11_sum_31 : decode cX11_sum 31 = .ok (.aload_n 0, 1) := getB' kX11_sum_1 5 rfl
theorem dX11_sum_32 : decode cX11_sum 32 = .ok (.iload_n 1, 1) := getB' kX11_sum_1 6 rfl
theorem dX11_sum_33 : decode cX11_sum 33 = .ok (.bipush 10, 2) := getB' kX11_sum_1 7 rfl
theorem dX11_sum_35 : decode cX11_sum 35 = .ok (.isub, 1) := getB' kX11_sum_1 8 rfl
theorem dX11_sum_36 : decode cX11_sum 36 = .ok (.invokevirtual 151, 3) := getB' kX11_sum_1 9 rfl
theorem dX11_sum_39 : decode cX11_sum 39 = .ok (.astore_n 2, 1) := getB' kX11_sum_1 10 rfl
theorem dX11_sum_40 : decode cX11_sum 40 = .ok (.aload_n 2, 1) := getB' kX11_sum_1 11 rfl
def LX11_sum_2 : List (Nat × Instr × Nat) := [(41, .ifnonnull 9, 3), (44, .ldc2_w 637, 3), (47, .goto 8, 3), (50, .aload_n 2, 1), (51, .getfield 464, 3), (54, .i2l, 1), (55, .lreturn, 1), (56, .iload_n 1, 1), (57, .bipush 20, 2), (59, .if_icmp .lt 33, 3), (62, .aload_n 0, 1), (63, .getfield 79, 3)]
theorem kX11_sum_2 : chkB cX11_sum LX11_sum_2 = true := by decide +kernel
theorem dX11_sum_41 : decode cX11_sum 41 = .ok (.ifnonnull 9, 3) := getB' kX11_sum_2 0 rfl
theorem dX11_sum_44 : decode cX11_sum 44 = .ok (.ldc2_w 637, 3) := getB' kX11_sum_2 1 rfl
theorem dX11_sum_47 : decode cX11_sum 47 = .ok (.goto 8, 3) := getB' kX11_sum_2 2 rfl
theorem dX11_sum_50 : decode cX11_sum 50 = .ok (.aload_n 2, 1) := getB' kX11_sum_2 3 rfl
theorem dX11_sum_51 : decode cX11_sum 51 = .ok (.getfield 464, 3) := getB' kX11_sum_2 4 rfl
theorem dX11_sum_54 : decode cX11_sum 54 = .ok (.i2l, 1) := getB' kX11_sum_2 5 rfl
theorem dX11_sum_55 : decode cX11_sum 55 = .ok (.lreturn, 1) := getB' kX11_sum_2 6 rfl
theorem dX11_sum_56 : decode cX11_sum 56 = .ok (.iload_n 1, 1) := getB' kX11_sum_2 7 rfl
theorem dX11_sum_57 : decode cX11_sum 57 = .ok (.bipush 20, 2) := getB' kX11_sum_2 8 rfl
theorem dX11_sum_59 : decode cX11_sum 59 = .ok (.if_icmp .lt 33, 3) := getB' kX11_sum_2 9 rfl
theorem dX11_sum_62 : decode cX11_sum 62 = .ok (.aload_n 0, 1) := getB' kX11_sum_2 10 rfl
theorem dX11_sum_63 : decode cX11_sum 63 = .ok (.getfield 79, 3) := getB' kX11_sum_2 11 rfl
def LX11_sum_3 : List (Nat × Instr × Nat) := [(66, .iload_n 1, 1), (67, .bipush 20, 2), (69, .isub, 1), (70, .invokevirtual 431, 3), (73, .ifCond .eq 19, 3), (76, .aload_n 0, 1), (77, .getfield 79, 3), (80, .iload_n 1, 1), (81, .bipush 20, 2), (83, .isub, 1), (84, .iconst 2, 1), (85, .invokevirtual 209, 3)]
theorem kX11_sum_3 : chkB cX11_sum LX11_sum_3 = true := by decide +kernel
theorem dX11_sum_66 : decode cX11_sum 66 = .ok (.iload_n 1, 1) := getB' kX11_sum_3 0 rfl
theorem dX11_sum_67 : decode cX11_sum 67 = .ok (.bipush 20, 2) := getB' kX11_sum_3 1 rfl
theorem dX11_sum_69 : decode cX11_sum 69 = .ok (.isub, 1) := getB' kX11_sum_3 2 rfl
theorem dX11_sum_70 : decode cX11_sum 70 = .ok (.invokevirtual 431, 3) := getB' kX11_sum_3 3 rfl
theorem dX11_sum_73 : decode cX11_sum 73 = .ok (.ifCond .eq 19, 3) := getB' kX11_sum_3 4 rfl
theorem dX11_sum_76 : decode cX11_sum 76 = .ok (.aload_n 0, 1) := getB' kX11_sum_3 5 rfl
theorem dX11_sum_77 : decode cX11_sum 77 = .ok (.getfield 79, 3) := getB' kX11_sum_3 6 rfl
theorem dX11_sum_80 : decode cX11_sum 80 = .ok (.iload_n 1, 1) := getB' kX11_sum_3 7 rfl
theorem dX11_sum_81 : decode cX11_sum 81 = .ok (.bipush 20, 2) := getB' kX11_sum_3 8 rfl
theorem dX11_sum_83 : decode cX11_sum 83 = .ok (.isub, 1) := getB' kX11_sum_3 9 rfl
theorem dX11_sum_84 : decode cX11_sum 84 = .ok (.iconst 2, 1) := getB' kX11_sum_3 10 rfl
theorem dX11_sum_85 : decode cX11_sum 85 = .ok (.invokevirtual 209, 3) := getB' kX11_sum_3 11 rfl
def LX11_sum_4 : List (Nat × Instr × Nat) := [(88, .i2l, 1), (89, .goto 6, 3), (92, .ldc2_w 637, 3), (95, .lreturn, 1)]
theorem kX11_sum_4 : chkB cX11_sum LX11_sum_4 = true := by decide +kernel
theorem dX11_sum_88 : decode cX11_sum 88 = .ok (.i2l, 1) := getB' kX11_sum_4 0 rfl
theorem dX11_sum_89 : decode cX11_sum 89 = .ok (.goto 6, 3) := getB' kX11_sum_4 1 rfl
theorem dX11_sum_92 : decode cX11_sum 92 = .ok (.ldc2_w 637, 3) := getB' kX11_sum_4 2 rfl
theorem dX11_sum_95 : decode cX11_sum 95 = .ok (.lreturn, 1) := getB' kX11_sum_4 3 rfl
def LX11_count_0 : List (Nat × Instr × Nat) := [(0, .iload_n 1, 1), (1, .tableswitch 210 0 16 #[83, 91, 99, 107, 112, 117, 125, 136, 141, 146, 151, 159, 167, 175, 183, 194, 202], 83), (84, .aload_n 0, 1), (85, .getfield 12, 3), (88, .getfield 145, 3), (91, .ireturn, 1), (92, .aload_n 0, 1), (93, .getfield 12, 3), (96, .getfield 639, 3), (99, .ireturn, 1), (100, .aload_n 0, 1), (101, .getfield 12, 3)]
theorem kX11_count_0 : chkB cX11_count LX11_count_0 = true := by decide +kernel
theorem dX11_count_0 : decode cX11_count 0 = .ok (.iload_n 1, 1) := getB' kX11_count_0 0 rfl
theorem dX11_count_1 : decode cX11_count 1 = .ok (.tableswitch 210 0 16 #[83, 91, 99, 107, 112, 117, 125, 136, 141, 146, 151, 159, 167, 175, 183, 194, 202], 83) := getB' kX11_count_0 1 rfl
theorem dX11_count_84 : decode cX11_count 84 = .ok (.aload_n 0, 1) := getB' kX11_count_0 2 rfl
theorem dX11_count_85 : decode cX11_count 85 = .ok (.getfield 12, 3) := getB' kX11_count_0 3 rfl
theorem dX11_count_88 : decode cX11_count 88 = .ok (.getfield 145, 3) := getB' kX11_count_0 4 rfl
theorem dX11_count_91 : decode cX11_count 91 = .ok (.ireturn, 1) := getB' kX11_count_0 5 rfl
theorem dX11_count_92 : decode cX11_count 92 = .ok (.aload_n 0, 1) := getB' kX11_count_0 6 rfl
theorem dX11_count_93 : decode cX11_count 93 = .ok (.getfield 12, 3) := getB' kX11_count_0 7 rfl
theorem dX11_count_96 : decode cX11_count 96 = .ok (.getfield 639, 3) := getB' kX11_count_0 8 rfl
theorem dX11_count_99 : decode cX11_count 99 = .ok (.ireturn, 1) := getB' kX11_count_0 9 rfl
theorem dX11_count_100 : decode cX11_count 100 = .ok (.aload_n 0, 1) := getB' kX11_count_0 10 rfl
theorem dX11_count_101 : decode cX11_count 101 = .ok (.getfield 12, 3) := getB' kX11_count_0 11 rfl
def LX11_count_1 : List (Nat × Instr × Nat) := [(104, .getfield 642, 3), (107, .ireturn, 1), (108, .aload_n 0, 1), (109, .getfield 36, 3), (112, .ireturn, 1), (113, .aload_n 0, 1), (114, .getfield 46, 3), (117, .ireturn, 1), (118, .aload_n 0, 1), (119, .getfield 19, 3), (122, .getfield 216, 3), (125, .ireturn, 1)]
theorem kX11_count_1 : chkB cX11_count LX11_count_1 = true := by decide +kernel
theorem dX11_count_104 : decode cX11_count 104 = .ok (.getfield 642, 3) := getB' kX11_count_1 0 rfl
theorem dX11_count_107 : decode cX11_count 107 = .ok (.ireturn, 1) := getB' kX11_count_1 1 rfl
theorem dX11_count_108 : decode cX11_count 108 = .ok (.aload_n 0, 1) := getB' kX11_count_1 2 rfl
theorem dX11_count_109 : decode cX11_count 109 = .ok (.getfield 36, 3) := getB' kX11_count_1 3 rfl
theorem dX11_count_112 : decode cX11_count 112 = .ok (.ireturn, 1) := getB' kX11_count_1 4 rfl
theorem dX11_count_113 : decode cX11_count 113 = .ok (.aload_n 0, 1) := getB' kX11_count_1 5 rfl
theorem dX11_count_114 : decode cX11_count 114 = .ok (.getfield 46, 3) := getB' kX11_count_1 6 rfl
theorem dX11_count_117 : decode cX11_count 117 = .ok (.ireturn, 1) := getB' kX11_count_1 7 rfl
theorem dX11_count_118 : decode cX11_count 118 = .ok (.aload_n 0, 1) := getB' kX11_count_1 8 rfl
theorem dX11_count_119 : decode cX11_count 119 = .ok (.getfield 19, 3) := getB' kX11_count_1 9 rfl
theorem dX11_count_122 : decode cX11_count 122 = .ok (.getfield 216, 3) := getB' kX11_count_1 10 rfl
theorem dX11_count_125 : decode cX11_count 125 = .ok (.ireturn, 1) := getB' kX11_count_1 11 rfl
def LX11_count_2 : List (Nat × Instr × Nat) := [(126, .aload_n 0, 1), (127, .getfield 19, 3), (130, .getfield 262, 3), (133, .getfield 199, 3), (136, .ireturn, 1), (137, .aload_n 0, 1), (138, .getfield 55, 3), (141, .ireturn, 1), (142, .aload_n 0, 1), (143, .getfield 64, 3), (146, .ireturn, 1), (147, .aload_n 0, 1)]
theorem kX11_count_2 : chkB cX11_count LX11_count_2 = true := by decide +kernel
theorem dX11_count_126 : decode cX11_count 126 = .ok (.aload_n 0, 1) := getB' kX11_count_2 0 rfl
theorem dX11_count_127 : decode cX11_count 127 = .ok (.getfield 19, 3) := getB' kX11_count_2 1 rfl
theorem dX11_count_130 : decode cX11_count 130 = .ok (.getfield 262, 3) := getB' kX11_count_2 2 rfl
theorem dX11_count_133 : decode cX11_count 133 = .ok (.getfield 199, 3) := getB' kX11_count_2 3 rfl
theorem dX11_count_136 : decode cX11_count 136 = .ok (.ireturn, 1) := getB' kX11_count_2 4 rfl
theorem dX11_count_137 : decode cX11_count 137 = .ok (.aload_n 0, 1) := getB' kX11_count_2 5 rfl
theorem dX11_count_138 : decode cX11_count 138 = .ok (.getfield 55, 3) := getB' kX11_count_2 6 rfl
theorem dX11_count_141 : decode cX11_count 141 = .ok (.ireturn, 1) := getB' kX11_count_2 7 rfl
theorem dX11_count_142 : decode cX11_count 142 = .ok (.aload_n 0, 1) := getB' kX11_count_2 8 rfl
theorem dX11_count_143 : decode cX11_count 143 = .ok (.getfield 64, 3) := getB' kX11_count_2 9 rfl
theorem dX11_count_146 : decode cX11_count 146 = .ok (.ireturn, 1) := getB' kX11_count_2 10 rfl
theorem dX11_count_147 : decode cX11_count 147 = .ok (.aload_n 0, 1) := getB' kX11_count_2 11 rfl
def LX11_count_3 : List (Nat × Instr × Nat) := [(148, .invokevirtual 644, 3), (151, .ireturn, 1), (152, .aload_n 0, 1), (153, .getfield 76, 3), (156, .getfield 199, 3), (159, .ireturn, 1), (160, .aload_n 0, 1), (161, .getfield 79, 3), (164, .getfield 199, 3), (167, .ireturn, 1), (168, .aload_n 0, 1), (169, .getfield 82, 3)]
theorem kX11_count_3 : chkB cX11_count LX11_count_3 = true := by decide +kernel
theorem dX11_count_148 : decode cX11_count 148 = .ok (.invokevirtual 644, 3) := getB' kX11_count_3 0 rfl
theorem dX11_count_151 : decode cX11_count 151 = .ok (.ireturn, 1) := getB' kX11_count_3 1 rfl
theorem dX11_count_152 : decode cX11_count 152 = .ok (.aload_n 0, 1) := getB' kX11_count_3 2 rfl
theorem dX11_count_153 : decode cX11_count 153 = .ok (.getfield 76, 3) := getB' kX11_count_3 3 rfl
theorem dX11_count_156 : decode cX11_count 156 = .ok (.getfield 199, 3) := getB' kX11_count_3 4 rfl
theorem dX11_count_159 : decode cX11_count 159 = .ok (.ireturn, 1) := getB' kX11_count_3 5 rfl
theorem dX11_count_160 : decode cX11_count 160 = .ok (.aload_n 0, 1) := getB' kX11_count_3 6 rfl
theorem dX11_count_161 : decode cX11_count 161 = .ok (.getfield 79, 3) := getB' kX11_count_3 7 rfl
theorem dX11_count_164 : decode cX11_count 164 = .ok (.getfield 199, 3) := getB' kX11_count_3 8 rfl
theorem dX11_count_167 : decode cX11_count 167 = .ok (.ireturn, 1) := getB' kX11_count_3 9 rfl
theorem dX11_count_168 : decode cX11_count 168 = .ok (.aload_n 0, 1) := getB' kX11_count_3 10 rfl
theorem dX11_count_169 : decode cX11_count 169 = .ok (.getfield 82, 3) := getB' kX11_count_3 11 rfl
def LX11_count_4 : List (Nat × Instr × Nat) := [(172, .getfield 199, 3), (175, .ireturn, 1), (176, .aload_n 0, 1), (177, .getfield 88, 3), (180, .getfield 199, 3), (183, .ireturn, 1), (184, .aload_n 0, 1), (185, .getfield 26, 3), (188, .getfield 593, 3), (191, .getfield 199, 3), (194, .ireturn, 1), (195, .aload_n 0, 1)]
theorem kX11_count_4 : chkB cX11_count LX11_count_4 = true := by decide +kernel
theorem dX11_count_172 : decode cX11_count 172 = .ok (.getfield 199, 3) := getB' kX11_count_4 0 rfl
theorem dX11_count_175 : decode cX11_count 175 = .ok (.ireturn, 1) := getB' kX11_count_4 1 rfl
theorem dX11_count_176 : decode cX11_count 176 = .ok (.aload_n 0, 1) := getB' kX11_count_4 2 rfl
theorem dX11_count_177 : decode cX11_count 177 = .ok (.getfield 88, 3) := getB' kX11_count_4 3 rfl
theorem dX11_count_180 : decode cX11_count 180 = .ok (.getfield 199, 3) := getB' kX11_count_4 4 rfl
theorem dX11_count_183 : decode cX11_count 183 = .ok (.ireturn, 1) := getB' kX11_count_4 5 rfl
theorem dX11_count_184 : decode cX11_count 184 = .ok (.aload_n 0, 1) := getB' kX11_count_4 6 rfl
theorem dX11_count_185 : decode cX11_count 185 = .ok (.getfield 26, 3) := getB' kX11_count_4 7 rfl
theorem dX11_count_188 : decode cX11_count 188 = .ok (.getfield 593, 3) := getB' kX11_count_4 8 rfl
theorem dX11_count_191 : decode cX11_count 191 = .ok (.getfield 199, 3) := getB' kX11_count_4 9 rfl
theorem dX11_count_194 : decode cX11_count 194 = .ok (.ireturn, 1) := getB' kX11_count_4 10 rfl
theorem dX11_count_195 : decode cX11_count 195 = .ok (.aload_n 0, 1) := getB' kX11_count_4 11 rfl
def LX11_count_5 : List (Nat × Instr × Nat) := [(196, .getfield 85, 3), (199, .getfield 199, 3), (202, .ireturn, 1), (203, .aload_n 0, 1), (204, .getfield 91, 3), (207, .getfield 199, 3), (210, .ireturn, 1), (211, .aload_n 0, 1), (212, .iload_n 1, 1), (213, .invokevirtual 647, 3), (216, .ireturn, 1)]
theorem kX11_count_5 : chkB cX11_count LX11_count_5 = true := by decide +kernel
theorem dX11_count_196 : decode cX11_count 196 = .ok (.getfield 85, 3) := getB' kX11_count_5 0 rfl
theorem dX11_count_199 : decode cX11_count 199 = .ok (.getfield 199, 3) := getB' kX11_count_5 1 rfl
theorem dX11_count_202 : decode cX11_count 202 = .ok (.ireturn, 1) := getB' kX11_count_5 2 rfl
theorem dX11_count_203 : decode cX11_count 203 = .ok (.aload_n 0, 1) := getB' kX11_count_5 3 rfl
theorem dX11_count_204 : decode cX11_count 204 = .ok (.getfield 91, 3) := getB' kX11_count_5 4 rfl
theorem dX11_count_207 : decode cX11_count 207 = .ok (.getfield 199, 3) := getB' kX11_count_5 5 rfl
theorem dX11_count_210 : decode cX11_count 210 = .ok (.ireturn, 1) := getB' kX11_count_5 6 rfl
theorem dX11_count_211 : decode cX11_count 211 = .ok (.aload_n 0, 1) := getB' kX11_count_5 7 rfl
theorem dX11_count_212 : decode cX11_count 212 = .ok (.iload_n 1, 1) := getB' kX11_count_5 8 rfl
theorem dX11_count_213 : decode cX11_count 213 = .ok (.invokevirtual 647, 3) := getB' kX11_count_5 9 rfl
theorem dX11_count_216 : decode cX11_count 216 = .ok (.ireturn, 1) := getB' kX11_count_5 10 rfl
def LX11_decidesFrom_0 : List (Nat × Instr × Nat) := [(0, .iload_n 1, 1), (1, .bipush 20, 2), (3, .bipush 28, 2), (5, .invokestatic 112, 3), (8, .ifCond .eq 14, 3), (11, .aload_n 0, 1), (12, .iload_n 1, 1), (13, .bipush 20, 2), (15, .isub, 1), (16, .invokevirtual 151, 3), (19, .goto 4, 3), (22, .aconst_null, 1)]
theorem kX11_decidesFrom_0 : chkB cX11_decidesFrom LX11_decidesFrom_0 = true := by decide +kernel
theorem dX11_decidesFrom_0 : decode cX11_decidesFrom 0 = .ok (.iload_n 1, 1) := getB' kX11_decidesFrom_0 0 rfl
theorem dX11_decidesFrom_1 : decode cX11_decidesFrom 1 = .ok (.bipush 20, 2) := getB' kX11_decidesFrom_0 1 rfl
theorem dX11_decidesFrom_3 : decode cX11_decidesFrom 3 = .ok (.bipush 28, 2) := getB' kX11_decidesFrom_0 2 rfl
theorem dX11_decidesFrom_5 : decode cX11_decidesFrom 5 = .ok (.invokestatic 112, 3) := getB' kX11_decidesFrom_0 3 rfl
theorem dX11_decidesFrom_8 : decode cX11_decidesFrom 8 = .ok (.ifCond .eq 14, 3) := getB' kX11_decidesFrom_0 4 rfl
theorem dX11_decidesFrom_11 : decode cX11_decidesFrom 11 = .ok (.aload_n 0, 1) := getB' kX11_decidesFrom_0 5 rfl
theorem dX11_decidesFrom_12 : decode cX11_decidesFrom 12 = .ok (.iload_n 1, 1) := getB' kX11_decidesFrom_0 6 rfl
theorem dX11_decidesFrom_13 : decode cX11_decidesFrom 13 = .ok (.bipush 20, 2) := getB' kX11_decidesFrom_0 7 rfl
theorem dX11_decidesFrom_15 : decode cX11_decidesFrom 15 = .ok (.isub, 1) := getB' kX11_decidesFrom_0 8 rfl
theorem dX11_decidesFrom_16 : decode cX11_decidesFrom 16 = .ok (.invokevirtual 151, 3) := getB' kX11_decidesFrom_0 9 rfl
theorem dX11_decidesFrom_19 : decode cX11_decidesFrom 19 = .ok (.goto 4, 3) := getB' kX11_decidesFrom_0 10 rfl
theorem dX11_decidesFrom_22 : decode cX11_decidesFrom 22 = .ok (.aconst_null, 1) := getB' kX11_decidesFrom_0 11 rfl
def LX11_decidesFrom_1 : List (Nat × Instr × Nat) := [(23, .astore_n 2, 1), (24, .aload_n 2, 1), (25, .ifnonnull 7, 3), (28, .iconst (-1), 1), (29, .goto 7, 3), (32, .aload_n 2, 1), (33, .getfield 341, 3), (36, .ireturn, 1)]
theorem kX11_decidesFrom_1 : chkB cX11_decidesFrom LX11_decidesFrom_1 = true := by decide +kernel
theorem dX11_decidesFrom_23 : decode cX11_decidesFrom 23 = .ok (.astore_n 2, 1) := getB' kX11_decidesFrom_1 0 rfl
theorem dX11_decidesFrom_24 : decode cX11_decidesFrom 24 = .ok (.aload_n 2, 1) := getB' kX11_decidesFrom_1 1 rfl
theorem dX11_decidesFrom_25 : decode cX11_decidesFrom 25 = .ok (.ifnonnull 7, 3) := getB' kX11_decidesFrom_1 2 rfl
theorem dX11_decidesFrom_28 : decode cX11_decidesFrom 28 = .ok (.iconst (-1), 1) := getB' kX11_decidesFrom_1 3 rfl
theorem dX11_decidesFrom_29 : decode cX11_decidesFrom 29 = .ok (.goto 7, 3) := getB' kX11_decidesFrom_1 4 rfl
theorem dX11_decidesFrom_32 : decode cX11_decidesFrom 32 = .ok (.aload_n 2, 1) := getB' kX11_decidesFrom_1 5 rfl
theorem dX11_decidesFrom_33 : decode cX11_decidesFrom 33 = .ok (.getfield 341, 3) := getB' kX11_decidesFrom_1 6 rfl
theorem dX11_decidesFrom_36 : decode cX11_decidesFrom 36 = .ok (.ireturn, 1) := getB' kX11_decidesFrom_1 7 rfl
def LX11_sledgesOnWay_0 : List (Nat × Instr × Nat) := [(0, .iconst 0, 1), (1, .istore_n 1, 1), (2, .iconst 0, 1), (3, .istore_n 2, 1), (4, .iload_n 2, 1), (5, .aload_n 0, 1), (6, .getfield 72, 3), (9, .getfield 199, 3), (12, .if_icmp .ge 21, 3), (15, .iload_n 1, 1), (16, .aload_n 0, 1), (17, .getfield 72, 3)]
theorem kX11_sledgesOnWay_0 : chkB cX11_sledgesOnWay LX11_sledgesOnWay_0 = true := by decide +kernel
theorem dX11_sledgesOnWay_0 : decode cX11_sledgesOnWay 0 = .ok (.iconst 0, 1) := getB' kX11_sledgesOnWay_0 0 rfl
theorem dX11_sledgesOnWay_1 : decode cX11_sledgesOnWay 1 = .ok (.istore_n 1, 1) := getB' kX11_sledgesOnWay_0 1 rfl
theorem dX11_sledgesOnWay_2 : decode cX11_sledgesOnWay 2 = .ok (.iconst 0, 1) := getB' kX11_sledgesOnWay_0 2 rfl
theorem dX11_sledgesOnWay_3 : decode cX11_sledgesOnWay 3 = .ok (.istore_n 2, 1) := getB' kX11_sledgesOnWay_0 3 rfl
theorem dX11_sledgesOnWay_4 : decode cX11_sledgesOnWay 4 = .ok (.iload_n 2, 1) := getB' kX11_sledgesOnWay_0 4 rfl
theorem dX11_sledgesOnWay_5 : decode cX11_sledgesOnWay 5 = .ok (.aload_n 0, 1) := getB' kX11_sledgesOnWay_0 5 rfl
theorem dX11_sledgesOnWay_6 : decode cX11_sledgesOnWay 6 = .ok (.getfield 72, 3) := getB' kX11_sledgesOnWay_0 6 rfl
theorem dX11_sledgesOnWay_9 : decode cX11_sledgesOnWay 9 = .ok (.getfield 199, 3) := getB' kX11_sledgesOnWay_0 7 rfl
theorem dX11_sledgesOnWay_12 : decode cX11_sledgesOnWay 12 = .ok (.if_icmp .ge 21, 3) := getB' kX11_sledgesOnWay_0 8 rfl
theorem dX11_sledgesOnWay_15 : decode cX11_sledgesOnWay 15 = .ok (.iload_n 1, 1) := getB' kX11_sledgesOnWay_0 9 rfl
theorem dX11_sledgesOnWay_16 : decode cX11_sledgesOnWay 16 = .ok (.aload_n 0, 1) := getB' kX11_sledgesOnWay_0 10 rfl
theorem dX11_sledgesOnWay_17 : decode cX11_sledgesOnWay 17 = .ok (.getfield 72, 3) := getB' kX11_sledgesOnWay_0 11 rfl
def LX11_sledgesOnWay_1 : List (Nat × Instr × Nat) := [(20, .iload_n 2, 1), (21, .iconst 4, 1), (22, .invokevirtual 209, 3), (25, .iadd, 1), (26, .istore_n 1, 1), (27, .iinc 2 1, 3), (30, .goto (-26), 3), (33, .iload_n 1, 1), (34, .ireturn, 1)]
theorem kX11_sledgesOnWay_1 : chkB cX11_sledgesOnWay LX11_sledgesOnWay_1 = true := by decide +kernel
theorem dX11_sledgesOnWay_20 : decode cX11_sledgesOnWay 20 = .ok (.iload_n 2, 1) := getB' kX11_sledgesOnWay_1 0 rfl
theorem dX11_sledgesOnWay_21 : decode cX11_sledgesOnWay 21 = .ok (.iconst 4, 1) := getB' kX11_sledgesOnWay_1 1 rfl
theorem dX11_sledgesOnWay_22 : decode cX11_sledgesOnWay 22 = .ok (.invokevirtual 209, 3) := getB' kX11_sledgesOnWay_1 2 rfl
theorem dX11_sledgesOnWay_25 : decode cX11_sledgesOnWay 25 = .ok (.iadd, 1) := getB' kX11_sledgesOnWay_1 3 rfl
theorem dX11_sledgesOnWay_26 : decode cX11_sledgesOnWay 26 = .ok (.istore_n 1, 1) := getB' kX11_sledgesOnWay_1 4 rfl
theorem dX11_sledgesOnWay_27 : decode cX11_sledgesOnWay 27 = .ok (.iinc 2 1, 3) := getB' kX11_sledgesOnWay_1 5 rfl
theorem dX11_sledgesOnWay_30 : decode cX11_sledgesOnWay 30 = .ok (.goto (-26), 3) := getB' kX11_sledgesOnWay_1 6 rfl
theorem dX11_sledgesOnWay_33 : decode cX11_sledgesOnWay 33 = .ok (.iload_n 1, 1) := getB' kX11_sledgesOnWay_1 7 rfl
theorem dX11_sledgesOnWay_34 : decode cX11_sledgesOnWay 34 = .ok (.ireturn, 1) := getB' kX11_sledgesOnWay_1 8 rfl
def LX11_partyOf_0 : List (Nat × Instr × Nat) := [(0, .iload_n 1, 1), (1, .ifCond .lt 29, 3), (4, .iload_n 1, 1), (5, .aload_n 0, 1), (6, .getfield 36, 3), (9, .if_icmp .ge 21, 3), (12, .iload_n 1, 1), (13, .aload_n 0, 1), (14, .getfield 32, 3), (17, .arraylength, 1), (18, .if_icmp .ge 12, 3), (21, .aload_n 0, 1)]
theorem kX11_partyOf_0 : chkB cX11_partyOf LX11_partyOf_0 = true := by decide +kernel
theorem dX11_partyOf_0 : decode cX11_partyOf 0 = .ok (.iload_n 1, 1) := getB' kX11_partyOf_0 0 rfl
theorem dX11_partyOf_1 : decode cX11_partyOf 1 = .ok (.ifCond .lt 29, 3) := getB' kX11_partyOf_0 1 rfl
theorem dX11_partyOf_4 : decode cX11_partyOf 4 = .ok (.iload_n 1, 1) := getB' kX11_partyOf_0 2 rfl
theorem dX11_partyOf_5 : decode cX11_partyOf 5 = .ok (.aload_n 0, 1) := getB' kX11_partyOf_0 3 rfl
theorem dX11_partyOf_6 : decode cX11_partyOf 6 = .ok (.getfield 36, 3) := getB' kX11_partyOf_0 4 rfl
theorem dX11_partyOf_9 : decode cX11_partyOf 9 = .ok (.if_icmp .ge 21, 3) := getB' kX11_partyOf_0 5 rfl
theorem dX11_partyOf_12 : decode cX11_partyOf 12 = .ok (.iload_n 1, 1) := getB' kX11_partyOf_0 6 rfl
theorem dX11_partyOf_13 : decode cX11_partyOf 13 = .ok (.aload_n 0, 1) := getB' kX11_partyOf_0 7 rfl
theorem dX11_partyOf_14 : decode cX11_partyOf 14 = .ok (.getfield 32, 3) := getB' kX11_partyOf_0 8 rfl
theorem dX11_partyOf_17 : decode cX11_partyOf 17 = .ok (.arraylength, 1) := getB' kX11_partyOf_0 9 rfl
theorem dX11_partyOf_18 : decode cX11_partyOf 18 = .ok (.if_icmp .ge 12, 3) := getB' kX11_partyOf_0 10 rfl
theorem dX11_partyOf_21 : decode cX11_partyOf 21 = .ok (.aload_n 0, 1) := getB' kX11_partyOf_0 11 rfl
def LX11_partyOf_1 : List (Nat × Instr × Nat) := [(22, .getfield 32, 3), (25, .iload_n 1, 1), (26, .aaload, 1), (27, .goto 4, 3), (30, .aconst_null, 1), (31, .areturn, 1)]
theorem kX11_partyOf_1 : chkB cX11_partyOf LX11_partyOf_1 = true := by decide +kernel
theorem dX11_partyOf_22 : decode cX11_partyOf 22 = .ok (.getfield 32, 3) := getB' kX11_partyOf_1 0 rfl
theorem dX11_partyOf_25 : decode cX11_partyOf 25 = .ok (.iload_n 1, 1) := getB' kX11_partyOf_1 1 rfl
theorem dX11_partyOf_26 : decode cX11_partyOf 26 = .ok (.aaload, 1) := getB' kX11_partyOf_1 2 rfl
theorem dX11_partyOf_27 : decode cX11_partyOf 27 = .ok (.goto 4, 3) := getB' kX11_partyOf_1 3 rfl
theorem dX11_partyOf_30 : decode cX11_partyOf 30 = .ok (.aconst_null, 1) := getB' kX11_partyOf_1 4 rfl
theorem dX11_partyOf_31 : decode cX11_partyOf 31 = .ok (.areturn, 1) := getB' kX11_partyOf_1 5 rfl
def LX11_anyPlace_0 : List (Nat × Instr × Nat) := [(0, .iload_n 1, 1), (1, .ifCond .lt 29, 3), (4, .iload_n 1, 1), (5, .aload_n 0, 1), (6, .getfield 46, 3), (9, .if_icmp .ge 21, 3), (12, .iload_n 1, 1), (13, .aload_n 0, 1), (14, .getfield 42, 3), (17, .arraylength, 1), (18, .if_icmp .ge 12, 3), (21, .aload_n 0, 1)]
theorem kX11_anyPlace_0 : chkB cX11_anyPlace LX11_anyPlace_0 = true := by decide +kernel
theorem dX11_anyPlace_0 : decode cX11_anyPlace 0 = .ok (.iload_n 1, 1) := getB' kX11_anyPlace_0 0 rfl
theorem dX11_anyPlace_1 : decode cX11_anyPlace 1 = .ok (.ifCond .lt 29, 3) := getB' kX11_anyPlace_0 1 rfl
theorem dX11_anyPlace_4 : decode cX11_anyPlace 4 = .ok (.iload_n 1, 1) := getB' kX11_anyPlace_0 2 rfl
theorem dX11_anyPlace_5 : decode cX11_anyPlace 5 = .ok (.aload_n 0, 1) := getB' kX11_anyPlace_0 3 rfl
theorem dX11_anyPlace_6 : decode cX11_anyPlace 6 = .ok (.getfield 46, 3) := getB' kX11_anyPlace_0 4 rfl
theorem dX11_anyPlace_9 : decode cX11_anyPlace 9 = .ok (.if_icmp .ge 21, 3) := getB' kX11_anyPlace_0 5 rfl
theorem dX11_anyPlace_12 : decode cX11_anyPlace 12 = .ok (.iload_n 1, 1) := getB' kX11_anyPlace_0 6 rfl
theorem dX11_anyPlace_13 : decode cX11_anyPlace 13 = .ok (.aload_n 0, 1) := getB' kX11_anyPlace_0 7 rfl
theorem dX11_anyPlace_14 : decode cX11_anyPlace 14 = .ok (.getfield 42, 3) := getB' kX11_anyPlace_0 8 rfl
theorem dX11_anyPlace_17 : decode cX11_anyPlace 17 = .ok (.arraylength, 1) := getB' kX11_anyPlace_0 9 rfl
theorem dX11_anyPlace_18 : decode cX11_anyPlace 18 = .ok (.if_icmp .ge 12, 3) := getB' kX11_anyPlace_0 10 rfl
theorem dX11_anyPlace_21 : decode cX11_anyPlace 21 = .ok (.aload_n 0, 1) := getB' kX11_anyPlace_0 11 rfl
def LX11_anyPlace_1 : List (Nat × Instr × Nat) := [(22, .getfield 42, 3), (25, .iload_n 1, 1), (26, .aaload, 1), (27, .goto 4, 3), (30, .aconst_null, 1), (31, .areturn, 1)]
theorem kX11_anyPlace_1 : chkB cX11_anyPlace LX11_anyPlace_1 = true := by decide +kernel
theorem dX11_anyPlace_22 : decode cX11_anyPlace 22 = .ok (.getfield 42, 3) := getB' kX11_anyPlace_1 0 rfl
theorem dX11_anyPlace_25 : decode cX11_anyPlace 25 = .ok (.iload_n 1, 1) := getB' kX11_anyPlace_1 1 rfl
theorem dX11_anyPlace_26 : decode cX11_anyPlace 26 = .ok (.aaload, 1) := getB' kX11_anyPlace_1 2 rfl
theorem dX11_anyPlace_27 : decode cX11_anyPlace 27 = .ok (.goto 4, 3) := getB' kX11_anyPlace_1 3 rfl
theorem dX11_anyPlace_30 : decode cX11_anyPlace 30 = .ok (.aconst_null, 1) := getB' kX11_anyPlace_1 4 rfl
theorem dX11_anyPlace_31 : decode cX11_anyPlace 31 = .ok (.areturn, 1) := getB' kX11_anyPlace_1 5 rfl
def LX11_placeOf_0 : List (Nat × Instr × Nat) := [(0, .aload_n 0, 1), (1, .iload_n 1, 1), (2, .invokevirtual 384, 3), (5, .astore_n 3, 1), (6, .aload_n 3, 1), (7, .ifnull 15, 3), (10, .aload_n 3, 1), (11, .getfield 387, 3), (14, .iload_n 2, 1), (15, .if_icmp .ne 7, 3), (18, .aload_n 3, 1), (19, .goto 4, 3)]
theorem kX11_placeOf_0 : chkB cX11_placeOf LX11_placeOf_0 = true := by decide +kernel
theorem dX11_placeOf_0 : decode cX11_placeOf 0 = .ok (.aload_n 0, 1) := getB' kX11_placeOf_0 0 rfl
theorem dX11_placeOf_1 : decode cX11_placeOf 1 = .ok (.iload_n 1, 1) := getB' kX11_placeOf_0 1 rfl
theorem dX11_placeOf_2 : decode cX11_placeOf 2 = .ok (.invokevirtual 384, 3) := getB' kX11_placeOf_0 2 rfl
theorem dX11_placeOf_5 : decode cX11_placeOf 5 = .ok (.astore_n 3, 1) := getB' kX11_placeOf_0 3 rfl
theorem dX11_placeOf_6 : decode cX11_placeOf 6 = .ok (.aload_n 3, 1) := getB' kX11_placeOf_0 4 rfl
theorem dX11_placeOf_7 : decode cX11_placeOf 7 = .ok (.ifnull 15, 3) := getB' kX11_placeOf_0 5 rfl
theorem dX11_placeOf_10 : decode cX11_placeOf 10 = .ok (.aload_n 3, 1) := getB' kX11_placeOf_0 6 rfl
theorem dX11_placeOf_11 : decode cX11_placeOf 11 = .ok (.getfield 387, 3) := getB' kX11_placeOf_0 7 rfl
theorem dX11_placeOf_14 : decode cX11_placeOf 14 = .ok (.iload_n 2, 1) := getB' kX11_placeOf_0 8 rfl
theorem dX11_placeOf_15 : decode cX11_placeOf 15 = .ok (.if_icmp .ne 7, 3) := getB' kX11_placeOf_0 9 rfl
theorem dX11_placeOf_18 : decode cX11_placeOf 18 = .ok (.aload_n 3, 1) := getB' kX11_placeOf_0 10 rfl
theorem dX11_placeOf_19 : decode cX11_placeOf 19 = .ok (.goto 4, 3) := getB' kX11_placeOf_0 11 rfl
def LX11_placeOf_1 : List (Nat × Instr × Nat) := [(22, .aconst_null, 1), (23, .areturn, 1)]
theorem kX11_placeOf_1 : chkB cX11_placeOf LX11_placeOf_1 = true := by decide +kernel
theorem dX11_placeOf_22 : decode cX11_placeOf 22 = .ok (.aconst_null, 1) := getB' kX11_placeOf_1 0 rfl
theorem dX11_placeOf_23 : decode cX11_placeOf 23 = .ok (.areturn, 1) := getB' kX11_placeOf_1 1 rfl
def LX11_standingStation_0 : List (Nat × Instr × Nat) := [(0, .aload_n 0, 1), (1, .iload_n 1, 1), (2, .iconst 1, 1), (3, .invokevirtual 169, 3), (6, .astore_n 2, 1), (7, .aload_n 2, 1), (8, .ifnull 14, 3), (11, .aload_n 2, 1), (12, .getfield 511, 3), (15, .ifCond .ne 7, 3), (18, .aload_n 2, 1), (19, .goto 4, 3)]
theorem kX11_standingStation_0 : chkB cX11_standingStation LX11_standingStation_0 = true := by decide +kernel
theorem dX11_standingStation_0 : decode cX11_standingStation 0 = .ok (.aload_n 0, 1) := getB' kX11_standingStation_0 0 rfl
theorem dX11_standingStation_1 : decode cX11_standingStation 1 = .ok (.iload_n 1, 1) := getB' kX11_standingStation_0 1 rfl
theorem dX11_standingStation_2 : decode cX11_standingStation 2 = .ok (.iconst 1, 1) := getB' kX11_standingStation_0 2 rfl
theorem dX11_standingStation_3 : decode cX11_standingStation 3 = .ok (.invokevirtual 169, 3) := getB' kX11_standingStation_0 3 rfl
theorem dX11_standingStation_6 : decode cX11_standingStation 6 = .ok (.astore_n 2, 1) := getB' kX11_standingStation_0 4 rfl
theorem dX11_standingStation_7 : decode cX11_standingStation 7 = .ok (.aload_n 2, 1) := getB' kX11_standingStation_0 5 rfl
theorem dX11_standingStation_8 : decode cX11_standingStation 8 = .ok (.ifnull 14, 3) := getB' kX11_standingStation_0 6 rfl
theorem dX11_standingStation_11 : decode cX11_standingStation 11 = .ok (.aload_n 2, 1) := getB' kX11_standingStation_0 7 rfl
theorem dX11_standingStation_12 : decode cX11_standingStation 12 = .ok (.getfield 511, 3) := getB' kX11_standingStation_0 8 rfl
theorem dX11_standingStation_15 : decode cX11_standingStation 15 = .ok (.ifCond .ne 7, 3) := getB' kX11_standingStation_0 9 rfl
theorem dX11_standingStation_18 : decode cX11_standingStation 18 = .ok (.aload_n 2, 1) := getB' kX11_standingStation_0 10 rfl
theorem dX11_standingStation_19 : decode cX11_standingStation 19 = .ok (.goto 4, 3) := getB' kX11_standingStation_0 11 rfl
def LX11_standingStation_1 : List (Nat × Instr × Nat) := [(22, .aconst_null, 1), (23, .areturn, 1)]
theorem kX11_standingStation_1 : chkB cX11_standingStation LX11_standingStation_1 = true := by decide +kernel
theorem dX11_standingStation_22 : decode cX11_standingStation 22 = .ok (.aconst_null, 1) := getB' kX11_standingStation_1 0 rfl
theorem dX11_standingStation_23 : decode cX11_standingStation 23 = .ok (.areturn, 1) := getB' kX11_standingStation_1 1 rfl
def LX11_workOf_0 : List (Nat × Instr × Nat) := [(0, .iload_n 1, 1), (1, .ifCond .lt 29, 3), (4, .iload_n 1, 1), (5, .aload_n 0, 1), (6, .getfield 55, 3), (9, .if_icmp .ge 21, 3), (12, .iload_n 1, 1), (13, .aload_n 0, 1), (14, .getfield 51, 3), (17, .arraylength, 1), (18, .if_icmp .ge 12, 3), (21, .aload_n 0, 1)]
theorem kX11_workOf_0 : chkB cX11_workOf LX11_workOf_0 = true := by decide +kernel
theorem dX11_workOf_0 : decode cX11_workOf 0 = .ok (.iload_n 1, 1) := getB' kX11_workOf_0 0 rfl
theorem dX11_workOf_1 : decode cX11_workOf 1 = .ok (.ifCond .lt 29, 3) := getB' kX11_workOf_0 1 rfl
theorem dX11_workOf_4 : decode cX11_workOf 4 = .ok (.iload_n 1, 1) := getB' kX11_workOf_0 2 rfl
theorem dX11_workOf_5 : decode cX11_workOf 5 = .ok (.aload_n 0, 1) := getB' kX11_workOf_0 3 rfl
theorem dX11_workOf_6 : decode cX11_workOf 6 = .ok (.getfield 55, 3) := getB' kX11_workOf_0 4 rfl
theorem dX11_workOf_9 : decode cX11_workOf 9 = .ok (.if_icmp .ge 21, 3) := getB' kX11_workOf_0 5 rfl
theorem dX11_workOf_12 : decode cX11_workOf 12 = .ok (.iload_n 1, 1) := getB' kX11_workOf_0 6 rfl
theorem dX11_workOf_13 : decode cX11_workOf 13 = .ok (.aload_n 0, 1) := getB' kX11_workOf_0 7 rfl
theorem dX11_workOf_14 : decode cX11_workOf 14 = .ok (.getfield 51, 3) := getB' kX11_workOf_0 8 rfl
theorem dX11_workOf_17 : decode cX11_workOf 17 = .ok (.arraylength, 1) := getB' kX11_workOf_0 9 rfl
theorem dX11_workOf_18 : decode cX11_workOf 18 = .ok (.if_icmp .ge 12, 3) := getB' kX11_workOf_0 10 rfl
theorem dX11_workOf_21 : decode cX11_workOf 21 = .ok (.aload_n 0, 1) := getB' kX11_workOf_0 11 rfl
def LX11_workOf_1 : List (Nat × Instr × Nat) := [(22, .getfield 51, 3), (25, .iload_n 1, 1), (26, .aaload, 1), (27, .goto 4, 3), (30, .aconst_null, 1), (31, .areturn, 1)]
theorem kX11_workOf_1 : chkB cX11_workOf LX11_workOf_1 = true := by decide +kernel
theorem dX11_workOf_22 : decode cX11_workOf 22 = .ok (.getfield 51, 3) := getB' kX11_workOf_1 0 rfl
theorem dX11_workOf_25 : decode cX11_workOf 25 = .ok (.iload_n 1, 1) := getB' kX11_workOf_1 1 rfl
theorem dX11_workOf_26 : decode cX11_workOf 26 = .ok (.aaload, 1) := getB' kX11_workOf_1 2 rfl
theorem dX11_workOf_27 : decode cX11_workOf 27 = .ok (.goto 4, 3) := getB' kX11_workOf_1 3 rfl
theorem dX11_workOf_30 : decode cX11_workOf 30 = .ok (.aconst_null, 1) := getB' kX11_workOf_1 4 rfl
theorem dX11_workOf_31 : decode cX11_workOf 31 = .ok (.areturn, 1) := getB' kX11_workOf_1 5 rfl
def LX11_shipOf_0 : List (Nat × Instr × Nat) := [(0, .iload_n 1, 1), (1, .ifCond .lt 29, 3), (4, .iload_n 1, 1), (5, .aload_n 0, 1), (6, .getfield 64, 3), (9, .if_icmp .ge 21, 3), (12, .iload_n 1, 1), (13, .aload_n 0, 1), (14, .getfield 60, 3), (17, .arraylength, 1), (18, .if_icmp .ge 12, 3), (21, .aload_n 0, 1)]
theorem kX11_shipOf_0 : chkB cX11_shipOf LX11_shipOf_0 = true := by decide +kernel
theorem dX11_shipOf_0 : decode cX11_shipOf 0 = .ok (.iload_n 1, 1) := getB' kX11_shipOf_0 0 rfl
theorem dX11_shipOf_1 : decode cX11_shipOf 1 = .ok (.ifCond .lt 29, 3) := getB' kX11_shipOf_0 1 rfl
theorem dX11_shipOf_4 : decode cX11_shipOf 4 = .ok (.iload_n 1, 1) := getB' kX11_shipOf_0 2 rfl
theorem dX11_shipOf_5 : decode cX11_shipOf 5 = .ok (.aload_n 0, 1) := getB' kX11_shipOf_0 3 rfl
theorem dX11_shipOf_6 : decode cX11_shipOf 6 = .ok (.getfield 64, 3) := getB' kX11_shipOf_0 4 rfl
theorem dX11_shipOf_9 : decode cX11_shipOf 9 = .ok (.if_icmp .ge 21, 3) := getB' kX11_shipOf_0 5 rfl
theorem dX11_shipOf_12 : decode cX11_shipOf 12 = .ok (.iload_n 1, 1) := getB' kX11_shipOf_0 6 rfl
theorem dX11_shipOf_13 : decode cX11_shipOf 13 = .ok (.aload_n 0, 1) := getB' kX11_shipOf_0 7 rfl
theorem dX11_shipOf_14 : decode cX11_shipOf 14 = .ok (.getfield 60, 3) := getB' kX11_shipOf_0 8 rfl
theorem dX11_shipOf_17 : decode cX11_shipOf 17 = .ok (.arraylength, 1) := getB' kX11_shipOf_0 9 rfl
theorem dX11_shipOf_18 : decode cX11_shipOf 18 = .ok (.if_icmp .ge 12, 3) := getB' kX11_shipOf_0 10 rfl
theorem dX11_shipOf_21 : decode cX11_shipOf 21 = .ok (.aload_n 0, 1) := getB' kX11_shipOf_0 11 rfl
def LX11_shipOf_1 : List (Nat × Instr × Nat) := [(22, .getfield 60, 3), (25, .iload_n 1, 1), (26, .aaload, 1), (27, .goto 4, 3), (30, .aconst_null, 1), (31, .areturn, 1)]
theorem kX11_shipOf_1 : chkB cX11_shipOf LX11_shipOf_1 = true := by decide +kernel
theorem dX11_shipOf_22 : decode cX11_shipOf 22 = .ok (.getfield 60, 3) := getB' kX11_shipOf_1 0 rfl
theorem dX11_shipOf_25 : decode cX11_shipOf 25 = .ok (.iload_n 1, 1) := getB' kX11_shipOf_1 1 rfl
theorem dX11_shipOf_26 : decode cX11_shipOf 26 = .ok (.aaload, 1) := getB' kX11_shipOf_1 2 rfl
theorem dX11_shipOf_27 : decode cX11_shipOf 27 = .ok (.goto 4, 3) := getB' kX11_shipOf_1 3 rfl
theorem dX11_shipOf_30 : decode cX11_shipOf 30 = .ok (.aconst_null, 1) := getB' kX11_shipOf_1 4 rfl
theorem dX11_shipOf_31 : decode cX11_shipOf 31 = .ok (.areturn, 1) := getB' kX11_shipOf_1 5 rfl
def LX11_tally_0 : List (Nat × Instr × Nat) := [(0, .iload_n 1, 1), (1, .ifCond .lt 23, 3), (4, .iload_n 1, 1), (5, .aload_n 0, 1), (6, .getfield 98, 3), (9, .arraylength, 1), (10, .if_icmp .ge 14, 3), (13, .aload_n 0, 1), (14, .getfield 98, 3), (17, .iload_n 1, 1), (18, .dup2, 1), (19, .laload, 1)]
theorem kX11_tally_0 : chkB cX11_tally LX11_tally_0 = true := by decide +kernel
theorem dX11_tally_0 : decode cX11_tally 0 = .ok (.iload_n 1, 1) := getB' kX11_tally_0 0 rfl
theorem dX11_tally_1 : decode cX11_tally 1 = .ok (.ifCond .lt 23, 3) := getB' kX11_tally_0 1 rfl
theorem dX11_tally_4 : decode cX11_tally 4 = .ok (.iload_n 1, 1) := getB' kX11_tally_0 2 rfl
theorem dX11_tally_5 : decode cX11_tally 5 = .ok (.aload_n 0, 1) := getB' kX11_tally_0 3 rfl
theorem dX11_tally_6 : decode cX11_tally 6 = .ok (.getfield 98, 3) := getB' kX11_tally_0 4 rfl
theorem dX11_tally_9 : decode cX11_tally 9 = .ok (.arraylength, 1) := getB' kX11_tally_0 5 rfl
theorem dX11_tally_10 : decode cX11_tally 10 = .ok (.if_icmp .ge 14, 3) := getB' kX11_tally_0 6 rfl
theorem dX11_tally_13 : decode cX11_tally 13 = .ok (.aload_n 0, 1) := getB' kX11_tally_0 7 rfl
theorem dX11_tally_14 : decode cX11_tally 14 = .ok (.getfield 98, 3) := getB' kX11_tally_0 8 rfl
theorem dX11_tally_17 : decode cX11_tally 17 = .ok (.iload_n 1, 1) := getB' kX11_tally_0 9 rfl
theorem dX11_tally_18 : decode cX11_tally 18 = .ok (.dup2, 1) := getB' kX11_tally_0 10 rfl
theorem dX11_tally_19 : decode cX11_tally 19 = .ok (.laload, 1) := getB' kX11_tally_0 11 rfl
def LX11_tally_1 : List (Nat × Instr × Nat) := [(20, .iload_n 2, 1), (21, .i2l, 1), (22, .ladd, 1), (23, .lastore, 1), (24, .return_, 1)]
theorem kX11_tally_1 : chkB cX11_tally LX11_tally_1 = true := by decide +kernel
theorem dX11_tally_20 : decode cX11_tally 20 = .ok (.iload_n 2, 1) := getB' kX11_tally_1 0 rfl
theorem dX11_tally_21 : decode cX11_tally 21 = .ok (.i2l, 1) := getB' kX11_tally_1 1 rfl
theorem dX11_tally_22 : decode cX11_tally 22 = .ok (.ladd, 1) := getB' kX11_tally_1 2 rfl
theorem dX11_tally_23 : decode cX11_tally 23 = .ok (.lastore, 1) := getB' kX11_tally_1 3 rfl
theorem dX11_tally_24 : decode cX11_tally 24 = .ok (.return_, 1) := getB' kX11_tally_1 4 rfl
def LX11_between : List (Nat × Instr × Nat) := [(0, .iload_n 0, 1), (1, .iload_n 1, 1), (2, .if_icmp .lt 12, 3), (5, .iload_n 0, 1), (6, .iload_n 2, 1), (7, .if_icmp .gt 7, 3), (10, .iconst 1, 1), (11, .goto 4, 3), (14, .iconst 0, 1), (15, .ireturn, 1)]
theorem kX11_between : chkB cX11_between LX11_between = true := by decide +kernel
theorem dX11_between_0 : decode cX11_between 0 = .ok (.iload_n 0, 1) := getB' kX11_between 0 rfl
theorem dX11_between_1 : decode cX11_between 1 = .ok (.iload_n 1, 1) := getB' kX11_between 1 rfl
theorem dX11_between_2 : decode cX11_between 2 = .ok (.if_icmp .lt 12, 3) := getB' kX11_between 2 rfl
theorem dX11_between_5 : decode cX11_between 5 = .ok (.iload_n 0, 1) := getB' kX11_between 3 rfl
theorem dX11_between_6 : decode cX11_between 6 = .ok (.iload_n 2, 1) := getB' kX11_between 4 rfl
theorem dX11_between_7 : decode cX11_between 7 = .ok (.if_icmp .gt 7, 3) := getB' kX11_between 5 rfl
theorem dX11_between_10 : decode cX11_between 10 = .ok (.iconst 1, 1) := getB' kX11_between 6 rfl
theorem dX11_between_11 : decode cX11_between 11 = .ok (.goto 4, 3) := getB' kX11_between 7 rfl
theorem dX11_between_14 : decode cX11_between 14 = .ok (.iconst 0, 1) := getB' kX11_between 8 rfl
theorem dX11_between_15 : decode cX11_between 15 = .ok (.ireturn, 1) := getB' kX11_between 9 rfl
def LX11_isDay : List (Nat × Instr × Nat) := [(0, .iload_n 0, 1), (1, .iconst 0, 1), (2, .sipush 3599, 3), (5, .invokestatic 112, 3), (8, .ireturn, 1)]
theorem kX11_isDay : chkB cX11_isDay LX11_isDay = true := by decide +kernel
theorem dX11_isDay_0 : decode cX11_isDay 0 = .ok (.iload_n 0, 1) := getB' kX11_isDay 0 rfl
theorem dX11_isDay_1 : decode cX11_isDay 1 = .ok (.iconst 0, 1) := getB' kX11_isDay 1 rfl
theorem dX11_isDay_2 : decode cX11_isDay 2 = .ok (.sipush 3599, 3) := getB' kX11_isDay 2 rfl
theorem dX11_isDay_5 : decode cX11_isDay 5 = .ok (.invokestatic 112, 3) := getB' kX11_isDay 3 rfl
theorem dX11_isDay_8 : decode cX11_isDay 8 = .ok (.ireturn, 1) := getB' kX11_isDay 4 rfl
def LX11_areDays : List (Nat × Instr × Nat) := [(0, .iload_n 0, 1), (1, .ifCond .lt 19, 3), (4, .iload_n 0, 1), (5, .iload_n 1, 1), (6, .if_icmp .gt 14, 3), (9, .iload_n 1, 1), (10, .sipush 3600, 3), (13, .if_icmp .ge 7, 3), (16, .iconst 1, 1), (17, .goto 4, 3), (20, .iconst 0, 1), (21, .ireturn, 1)]
theorem kX11_areDays : chkB cX11_areDays LX11_areDays = true := by decide +kernel
theorem dX11_areDays_0 : decode cX11_areDays 0 = .ok (.iload_n 0, 1) := getB' kX11_areDays 0 rfl
theorem dX11_areDays_1 : decode cX11_areDays 1 = .ok (.ifCond .lt 19, 3) := getB' kX11_areDays 1 rfl
theorem dX11_areDays_4 : decode cX11_areDays 4 = .ok (.iload_n 0, 1) := getB' kX11_areDays 2 rfl
theorem dX11_areDays_5 : decode cX11_areDays 5 = .ok (.iload_n 1, 1) := getB' kX11_areDays 3 rfl
theorem dX11_areDays_6 : decode cX11_areDays 6 = .ok (.if_icmp .gt 14, 3) := getB' kX11_areDays 4 rfl
theorem dX11_areDays_9 : decode cX11_areDays 9 = .ok (.iload_n 1, 1) := getB' kX11_areDays 5 rfl
theorem dX11_areDays_10 : decode cX11_areDays 10 = .ok (.sipush 3600, 3) := getB' kX11_areDays 6 rfl
theorem dX11_areDays_13 : decode cX11_areDays 13 = .ok (.if_icmp .ge 7, 3) := getB' kX11_areDays 7 rfl
theorem dX11_areDays_16 : decode cX11_areDays 16 = .ok (.iconst 1, 1) := getB' kX11_areDays 8 rfl
theorem dX11_areDays_17 : decode cX11_areDays 17 = .ok (.goto 4, 3) := getB' kX11_areDays 9 rfl
theorem dX11_areDays_20 : decode cX11_areDays 20 = .ok (.iconst 0, 1) := getB' kX11_areDays 10 rfl
theorem dX11_areDays_21 : decode cX11_areDays 21 = .ok (.ireturn, 1) := getB' kX11_areDays 11 rfl
def LX11_areYearDays : List (Nat × Instr × Nat) := [(0, .iload_n 0, 1), (1, .ifCond .lt 19, 3), (4, .iload_n 0, 1), (5, .iload_n 1, 1), (6, .if_icmp .gt 14, 3), (9, .iload_n 1, 1), (10, .sipush 360, 3), (13, .if_icmp .ge 7, 3), (16, .iconst 1, 1), (17, .goto 4, 3), (20, .iconst 0, 1), (21, .ireturn, 1)]
theorem kX11_areYearDays : chkB cX11_areYearDays LX11_areYearDays = true := by decide +kernel
theorem dX11_areYearDays_0 : decode cX11_areYearDays 0 = .ok (.iload_n 0, 1) := getB' kX11_areYearDays 0 rfl
theorem dX11_areYearDays_1 : decode cX11_areYearDays 1 = .ok (.ifCond .lt 19, 3) := getB' kX11_areYearDays 1 rfl
theorem dX11_areYearDays_4 : decode cX11_areYearDays 4 = .ok (.iload_n 0, 1) := getB' kX11_areYearDays 2 rfl
theorem dX11_areYearDays_5 : decode cX11_areYearDays 5 = .ok (.iload_n 1, 1) := getB' kX11_areYearDays 3 rfl
theorem dX11_areYearDays_6 : decode cX11_areYearDays 6 = .ok (.if_icmp .gt 14, 3) := getB' kX11_areYearDays 4 rfl
theorem dX11_areYearDays_9 : decode cX11_areYearDays 9 = .ok (.iload_n 1, 1) := getB' kX11_areYearDays 5 rfl
theorem dX11_areYearDays_10 : decode cX11_areYearDays 10 = .ok (.sipush 360, 3) := getB' kX11_areYearDays 6 rfl
theorem dX11_areYearDays_13 : decode cX11_areYearDays 13 = .ok (.if_icmp .ge 7, 3) := getB' kX11_areYearDays 7 rfl
theorem dX11_areYearDays_16 : decode cX11_areYearDays 16 = .ok (.iconst 1, 1) := getB' kX11_areYearDays 8 rfl
theorem dX11_areYearDays_17 : decode cX11_areYearDays 17 = .ok (.goto 4, 3) := getB' kX11_areYearDays 9 rfl
theorem dX11_areYearDays_20 : decode cX11_areYearDays 20 = .ok (.iconst 0, 1) := getB' kX11_areYearDays 10 rfl
theorem dX11_areYearDays_21 : decode cX11_areYearDays 21 = .ok (.ireturn, 1) := getB' kX11_areYearDays 11 rfl
def LX11_isYear : List (Nat × Instr × Nat) := [(0, .iload_n 0, 1), (1, .iconst 0, 1), (2, .bipush 9, 2), (4, .invokestatic 112, 3), (7, .ireturn, 1)]
theorem kX11_isYear : chkB cX11_isYear LX11_isYear = true := by decide +kernel
theorem dX11_isYear_0 : decode cX11_isYear 0 = .ok (.iload_n 0, 1) := getB' kX11_isYear 0 rfl
theorem dX11_isYear_1 : decode cX11_isYear 1 = .ok (.iconst 0, 1) := getB' kX11_isYear 1 rfl
theorem dX11_isYear_2 : decode cX11_isYear 2 = .ok (.bipush 9, 2) := getB' kX11_isYear 2 rfl
theorem dX11_isYear_4 : decode cX11_isYear 4 = .ok (.invokestatic 112, 3) := getB' kX11_isYear 3 rfl
theorem dX11_isYear_7 : decode cX11_isYear 7 = .ok (.ireturn, 1) := getB' kX11_isYear 4 rfl
def LX11_isSea : List (Nat × Instr × Nat) := [(0, .iload_n 0, 1), (1, .iconst 0, 1), (2, .iconst 3, 1), (3, .invokestatic 112, 3), (6, .ireturn, 1)]
theorem kX11_isSea : chkB cX11_isSea LX11_isSea = true := by decide +kernel
theorem dX11_isSea_0 : decode cX11_isSea 0 = .ok (.iload_n 0, 1) := getB' kX11_isSea 0 rfl
theorem dX11_isSea_1 : decode cX11_isSea 1 = .ok (.iconst 0, 1) := getB' kX11_isSea 1 rfl
theorem dX11_isSea_2 : decode cX11_isSea 2 = .ok (.iconst 3, 1) := getB' kX11_isSea 2 rfl
theorem dX11_isSea_3 : decode cX11_isSea 3 = .ok (.invokestatic 112, 3) := getB' kX11_isSea 3 rfl
theorem dX11_isSea_6 : decode cX11_isSea 6 = .ok (.ireturn, 1) := getB' kX11_isSea 4 rfl
def LX12_in : List (Nat × Instr × Nat) := [(0, .iload_n 0, 1), (1, .iload_n 1, 1), (2, .if_icmp .lt 12, 3), (5, .iload_n 0, 1), (6, .iload_n 2, 1), (7, .if_icmp .gt 7, 3), (10, .iconst 1, 1), (11, .goto 4, 3), (14, .iconst 0, 1), (15, .ireturn, 1)]
theorem kX12_in : chkB cX12_in LX12_in = true := by decide +kernel
theorem dX12_in_0 : decode cX12_in 0 = .ok (.iload_n 0, 1) := getB' kX12_in 0 rfl
theorem dX12_in_1 : decode cX12_in 1 = .ok (.iload_n 1, 1) := getB' kX12_in 1 rfl
theorem dX12_in_2 : decode cX12_in 2 = .ok (.if_icmp .lt 12, 3) := getB' kX12_in 2 rfl
theorem dX12_in_5 : decode cX12_in 5 = .ok (.iload_n 0, 1) := getB' kX12_in 3 rfl
theorem dX12_in_6 : decode cX12_in 6 = .ok (.iload_n 2, 1) := getB' kX12_in 4 rfl
theorem dX12_in_7 : decode cX12_in 7 = .ok (.if_icmp .gt 7, 3) := getB' kX12_in 5 rfl
theorem dX12_in_10 : decode cX12_in 10 = .ok (.iconst 1, 1) := getB' kX12_in 6 rfl
theorem dX12_in_11 : decode cX12_in 11 = .ok (.goto 4, 3) := getB' kX12_in 7 rfl
theorem dX12_in_14 : decode cX12_in 14 = .ok (.iconst 0, 1) := getB' kX12_in 8 rfl
theorem dX12_in_15 : decode cX12_in 15 = .ok (.ireturn, 1) := getB' kX12_in 9 rfl
def LX12_size : List (Nat × Instr × Nat) := [(0, .iload_n 0, 1), (1, .ifCond .ge 8, 3), (4, .iload_n 0, 1), (5, .ineg, 1), (6, .goto 4, 3), (9, .iload_n 0, 1), (10, .ireturn, 1)]
theorem kX12_size : chkB cX12_size LX12_size = true := by decide +kernel
theorem dX12_size_0 : decode cX12_size 0 = .ok (.iload_n 0, 1) := getB' kX12_size 0 rfl
theorem dX12_size_1 : decode cX12_size 1 = .ok (.ifCond .ge 8, 3) := getB' kX12_size 1 rfl
theorem dX12_size_4 : decode cX12_size 4 = .ok (.iload_n 0, 1) := getB' kX12_size 2 rfl
theorem dX12_size_5 : decode cX12_size 5 = .ok (.ineg, 1) := getB' kX12_size 3 rfl
theorem dX12_size_6 : decode cX12_size 6 = .ok (.goto 4, 3) := getB' kX12_size 4 rfl
theorem dX12_size_9 : decode cX12_size 9 = .ok (.iload_n 0, 1) := getB' kX12_size 5 rfl
theorem dX12_size_10 : decode cX12_size 10 = .ok (.ireturn, 1) := getB' kX12_size 6 rfl
def LX12_begins_0 : List (Nat × Instr × Nat) := [(0, .aload_n 0, 1), (1, .iload_n 1, 1), (2, .putfield 365, 3), (5, .aload_n 0, 1), (6, .iload_n 2, 1), (7, .putfield 368, 3), (10, .iconst 0, 1), (11, .istore_n 3, 1), (12, .iload_n 3, 1), (13, .sipush 144, 3), (16, .if_icmp .ge 37, 3), (19, .aload_n 0, 1)]
theorem kX12_begins_0 : chkB cX12_begins LX12_begins_0 = true := by decide +kernel
theorem dX12_begins_0 : decode cX12_begins 0 = .ok (.aload_n 0, 1) := getB' kX12_begins_0 0 rfl
theorem dX12_begins_1 : decode cX12_begins 1 = .ok (.iload_n 1, 1) := getB' kX12_begins_0 1 rfl
theorem dX12_begins_2 : decode cX12_begins 2 = .ok (.putfield 365, 3) := getB' kX12_begins_0 2 rfl
theorem dX12_begins_5 : decode cX12_begins 5 = .ok (.aload_n 0, 1) := getB' kX12_begins_0 3 rfl
theorem dX12_begins_6 : decode cX12_begins 6 = .ok (.iload_n 2, 1) := getB' kX12_begins_0 4 rfl
theorem dX12_begins_7 : decode cX12_begins 7 = .ok (.putfield 368, 3) := getB' kX12_begins_0 5 rfl
theorem dX12_begins_10 : decode cX12_begins 10 = .ok (.iconst 0, 1) := getB' kX12_begins_0 6 rfl
theorem dX12_begins_11 : decode cX12_begins 11 = .ok (.istore_n 3, 1) := getB' kX12_begins_0 7 rfl
theorem dX12_begins_12 : decode cX12_begins 12 = .ok (.iload_n 3, 1) := getB' kX12_begins_0 8 rfl
theorem dX12_begins_13 : decode cX12_begins 13 = .ok (.sipush 144, 3) := getB' kX12_begins_0 9 rfl
theorem dX12_begins_16 : decode cX12_begins 16 = .ok (.if_icmp .ge 37, 3) := getB' kX12_begins_0 10 rfl
theorem dX12_begins_19 : decode cX12_begins 19 = .ok (.aload_n 0, 1) := getB' kX12_begins_0 11 rfl
def LX12_begins_1 : List (Nat × Instr × Nat) := [(20, .getfield 16, 3), (23, .iload_n 3, 1), (24, .iconst 0, 1), (25, .iastore, 1), (26, .aload_n 0, 1), (27, .getfield 20, 3), (30, .iload_n 3, 1), (31, .iconst 0, 1), (32, .iastore, 1), (33, .aload_n 0, 1), (34, .getfield 23, 3), (37, .iload_n 3, 1)]
theorem kX12_begins_1 : chkB cX12_begins LX12_begins_1 = true := by decide +kernel
theorem dX12_begins_20 : decode cX12_begins 20 = .ok (.getfield 16, 3) := getB' kX12_begins_1 0 rfl
theorem dX12_begins_23 : decode cX12_begins 23 = .ok (.iload_n 3, 1) := getB' kX12_begins_1 1 rfl
theorem dX12_begins_24 : decode cX12_begins 24 = .ok (.iconst 0, 1) := getB' kX12_begins_1 2 rfl
theorem dX12_begins_25 : decode cX12_begins 25 = .ok (.iastore, 1) := getB' kX12_begins_1 3 rfl
theorem dX12_begins_26 : decode cX12_begins 26 = .ok (.aload_n 0, 1) := getB' kX12_begins_1 4 rfl
theorem dX12_begins_27 : decode cX12_begins 27 = .ok (.getfield 20, 3) := getB' kX12_begins_1 5 rfl
theorem dX12_begins_30 : decode cX12_begins 30 = .ok (.iload_n 3, 1) := getB' kX12_begins_1 6 rfl
theorem dX12_begins_31 : decode cX12_begins 31 = .ok (.iconst 0, 1) := getB' kX12_begins_1 7 rfl
theorem dX12_begins_32 : decode cX12_begins 32 = .ok (.iastore, 1) := getB' kX12_begins_1 8 rfl
theorem dX12_begins_33 : decode cX12_begins 33 = .ok (.aload_n 0, 1) := getB' kX12_begins_1 9 rfl
theorem dX12_begins_34 : decode cX12_begins 34 = .ok (.getfield 23, 3) := getB' kX12_begins_1 10 rfl
theorem dX12_begins_37 : decode cX12_begins 37 = .ok (.iload_n 3, 1) := getB' kX12_begins_1 11 rfl
def LX12_begins_2 : List (Nat × Instr × Nat) := [(38, .iconst (-1), 1), (39, .iastore, 1), (40, .aload_n 0, 1), (41, .getfield 26, 3), (44, .iload_n 3, 1), (45, .iconst 0, 1), (46, .iastore, 1), (47, .iinc 3 1, 3), (50, .goto (-38), 3), (53, .return_, 1)]
theorem kX12_begins_2 : chkB cX12_begins LX12_begins_2 = true := by decide +kernel
theorem dX12_begins_38 : decode cX12_begins 38 = .ok (.iconst (-1), 1) := getB' kX12_begins_2 0 rfl
theorem dX12_begins_39 : decode cX12_begins 39 = .ok (.iastore, 1) := getB' kX12_begins_2 1 rfl
theorem dX12_begins_40 : decode cX12_begins 40 = .ok (.aload_n 0, 1) := getB' kX12_begins_2 2 rfl
theorem dX12_begins_41 : decode cX12_begins 41 = .ok (.getfield 26, 3) := getB' kX12_begins_2 3 rfl
theorem dX12_begins_44 : decode cX12_begins 44 = .ok (.iload_n 3, 1) := getB' kX12_begins_2 4 rfl
theorem dX12_begins_45 : decode cX12_begins 45 = .ok (.iconst 0, 1) := getB' kX12_begins_2 5 rfl
theorem dX12_begins_46 : decode cX12_begins 46 = .ok (.iastore, 1) := getB' kX12_begins_2 6 rfl
theorem dX12_begins_47 : decode cX12_begins 47 = .ok (.iinc 3 1, 3) := getB' kX12_begins_2 7 rfl
theorem dX12_begins_50 : decode cX12_begins 50 = .ok (.goto (-38), 3) := getB' kX12_begins_2 8 rfl
theorem dX12_begins_53 : decode cX12_begins 53 = .ok (.return_, 1) := getB' kX12_begins_2 9 rfl
def LX12_isCell_0 : List (Nat × Instr × Nat) := [(0, .iload_n 1, 1), (1, .ifCond .lt 20, 3), (4, .iload_n 1, 1), (5, .aload_n 0, 1), (6, .getfield 365, 3), (9, .aload_n 0, 1), (10, .getfield 368, 3), (13, .imul, 1), (14, .if_icmp .ge 7, 3), (17, .iconst 1, 1), (18, .goto 4, 3), (21, .iconst 0, 1)]
theorem kX12_isCell_0 : chkB cX12_isCell LX12_isCell_0 = true := by decide +kernel
theorem dX12_isCell_0 : decode cX12_isCell 0 = .ok (.iload_n 1, 1) := getB' kX12_isCell_0 0 rfl
theorem dX12_isCell_1 : decode cX12_isCell 1 = .ok (.ifCond .lt 20, 3) := getB' kX12_isCell_0 1 rfl
theorem dX12_isCell_4 : decode cX12_isCell 4 = .ok (.iload_n 1, 1) := getB' kX12_isCell_0 2 rfl
theorem dX12_isCell_5 : decode cX12_isCell 5 = .ok (.aload_n 0, 1) := getB' kX12_isCell_0 3 rfl
theorem dX12_isCell_6 : decode cX12_isCell 6 = .ok (.getfield 365, 3) := getB' kX12_isCell_0 4 rfl
theorem dX12_isCell_9 : decode cX12_isCell 9 = .ok (.aload_n 0, 1) := getB' kX12_isCell_0 5 rfl
theorem dX12_isCell_10 : decode cX12_isCell 10 = .ok (.getfield 368, 3) := getB' kX12_isCell_0 6 rfl
theorem dX12_isCell_13 : decode cX12_isCell 13 = .ok (.imul, 1) := getB' kX12_isCell_0 7 rfl
theorem dX12_isCell_14 : decode cX12_isCell 14 = .ok (.if_icmp .ge 7, 3) := getB' kX12_isCell_0 8 rfl
theorem dX12_isCell_17 : decode cX12_isCell 17 = .ok (.iconst 1, 1) := getB' kX12_isCell_0 9 rfl
theorem dX12_isCell_18 : decode cX12_isCell 18 = .ok (.goto 4, 3) := getB' kX12_isCell_0 10 rfl
theorem dX12_isCell_21 : decode cX12_isCell 21 = .ok (.iconst 0, 1) := getB' kX12_isCell_0 11 rfl
def LX12_isCell_1 : List (Nat × Instr × Nat) := [(22, .ireturn, 1)]
theorem kX12_isCell_1 : chkB cX12_isCell LX12_isCell_1 = true := by decide +kernel
theorem dX12_isCell_22 : decode cX12_isCell 22 = .ok (.ireturn, 1) := getB' kX12_isCell_1 0 rfl
def LX12_isDay : List (Nat × Instr × Nat) := [(0, .iload_n 0, 1), (1, .ifCond .lt 14, 3), (4, .iload_n 0, 1), (5, .sipush 3599, 3), (8, .if_icmp .gt 7, 3), (11, .iconst 1, 1), (12, .goto 4, 3), (15, .iconst 0, 1), (16, .ireturn, 1)]
theorem kX12_isDay : chkB cX12_isDay LX12_isDay = true := by decide +kernel
theorem dX12_isDay_0 : decode cX12_isDay 0 = .ok (.iload_n 0, 1) := getB' kX12_isDay 0 rfl
theorem dX12_isDay_1 : decode cX12_isDay 1 = .ok (.ifCond .lt 14, 3) := getB' kX12_isDay 1 rfl
theorem dX12_isDay_4 : decode cX12_isDay 4 = .ok (.iload_n 0, 1) := getB' kX12_isDay 2 rfl
theorem dX12_isDay_5 : decode cX12_isDay 5 = .ok (.sipush 3599, 3) := getB' kX12_isDay 3 rfl
theorem dX12_isDay_8 : decode cX12_isDay 8 = .ok (.if_icmp .gt 7, 3) := getB' kX12_isDay 4 rfl
theorem dX12_isDay_11 : decode cX12_isDay 11 = .ok (.iconst 1, 1) := getB' kX12_isDay 5 rfl
theorem dX12_isDay_12 : decode cX12_isDay 12 = .ok (.goto 4, 3) := getB' kX12_isDay 6 rfl
theorem dX12_isDay_15 : decode cX12_isDay 15 = .ok (.iconst 0, 1) := getB' kX12_isDay 7 rfl
theorem dX12_isDay_16 : decode cX12_isDay 16 = .ok (.ireturn, 1) := getB' kX12_isDay 8 rfl
def LX12_ice_0 : List (Nat × Instr × Nat) := [(0, .iload_n 1, 1), (1, .iconst 4, 1), (2, .bipush 12, 2), (4, .invokestatic 371, 3), (7, .ifCond .eq 27, 3), (10, .iload_n 2, 1), (11, .iconst 4, 1), (12, .bipush 12, 2), (14, .invokestatic 371, 3), (17, .ifCond .eq 17, 3), (20, .aload_n 0, 1), (21, .getfield 375, 3)]
theorem kX12_ice_0 : chkB cX12_ice LX12_ice_0 = true := by decide +kernel
theorem dX12_ice_0 : decode cX12_ice 0 = .ok (.iload_n 1, 1) := getB' kX12_ice_0 0 rfl
theorem dX12_ice_1 : decode cX12_ice 1 = .ok (.iconst 4, 1) := getB' kX12_ice_0 1 rfl
theorem dX12_ice_2 : decode cX12_ice 2 = .ok (.bipush 12, 2) := getB' kX12_ice_0 2 rfl
theorem dX12_ice_4 : decode cX12_ice 4 = .ok (.invokestatic 371, 3) := getB' kX12_ice_0 3 rfl
theorem dX12_ice_7 : decode cX12_ice 7 = .ok (.ifCond .eq 27, 3) := getB' kX12_ice_0 4 rfl
theorem dX12_ice_10 : decode cX12_ice 10 = .ok (.iload_n 2, 1) := getB' kX12_ice_0 5 rfl
theorem dX12_ice_11 : decode cX12_ice 11 = .ok (.iconst 4, 1) := getB' kX12_ice_0 6 rfl
theorem dX12_ice_12 : decode cX12_ice 12 = .ok (.bipush 12, 2) := getB' kX12_ice_0 7 rfl
theorem dX12_ice_14 : decode cX12_ice 14 = .ok (.invokestatic 371, 3) := getB' kX12_ice_0 8 rfl
theorem dX12_ice_17 : decode cX12_ice 17 = .ok (.ifCond .eq 17, 3) := getB' kX12_ice_0 9 rfl
theorem dX12_ice_20 : decode cX12_ice 20 = .ok (.aload_n 0, 1) := getB' kX12_ice_0 10 rfl
theorem dX12_ice_21 : decode cX12_ice 21 = .ok (.getfield 375, 3) := getB' kX12_ice_0 11 rfl
def LX12_ice_1 : List (Nat × Instr × Nat) := [(24, .ifCond .gt 10, 3), (27, .aload_n 0, 1), (28, .getfield 378, 3), (31, .ifCond .le 5, 3), (34, .iconst 0, 1), (35, .ireturn, 1), (36, .aload_n 0, 1), (37, .iload_n 1, 1), (38, .iload_n 2, 1), (39, .invokevirtual 361, 3), (42, .iconst 1, 1), (43, .ireturn, 1)]
theorem kX12_ice_1 : chkB cX12_ice LX12_ice_1 = true := by decide +kernel
theorem dX12_ice_24 : decode cX12_ice 24 = .ok (.ifCond .gt 10, 3) := getB' kX12_ice_1 0 rfl
theorem dX12_ice_27 : decode cX12_ice 27 = .ok (.aload_n 0, 1) := getB' kX12_ice_1 1 rfl
theorem dX12_ice_28 : decode cX12_ice 28 = .ok (.getfield 378, 3) := getB' kX12_ice_1 2 rfl
theorem dX12_ice_31 : decode cX12_ice 31 = .ok (.ifCond .le 5, 3) := getB' kX12_ice_1 3 rfl
theorem dX12_ice_34 : decode cX12_ice 34 = .ok (.iconst 0, 1) := getB' kX12_ice_1 4 rfl
theorem dX12_ice_35 : decode cX12_ice 35 = .ok (.ireturn, 1) := getB' kX12_ice_1 5 rfl
theorem dX12_ice_36 : decode cX12_ice 36 = .ok (.aload_n 0, 1) := getB' kX12_ice_1 6 rfl
theorem dX12_ice_37 : decode cX12_ice 37 = .ok (.iload_n 1, 1) := getB' kX12_ice_1 7 rfl
theorem dX12_ice_38 : decode cX12_ice 38 = .ok (.iload_n 2, 1) := getB' kX12_ice_1 8 rfl
theorem dX12_ice_39 : decode cX12_ice 39 = .ok (.invokevirtual 361, 3) := getB' kX12_ice_1 9 rfl
theorem dX12_ice_42 : decode cX12_ice 42 = .ok (.iconst 1, 1) := getB' kX12_ice_1 10 rfl
theorem dX12_ice_43 : decode cX12_ice 43 = .ok (.ireturn, 1) := getB' kX12_ice_1 11 rfl
def LX12_cell_0 : List (Nat × Instr × Nat) := [(0, .aload_n 0, 1), (1, .iload_n 1, 1), (2, .invokevirtual 381, 3), (5, .ifCond .eq 33, 3), (8, .iload_n 2, 1), (9, .iconst 0, 1), (10, .bipush 40, 2), (12, .invokestatic 371, 3), (15, .ifCond .eq 23, 3), (18, .iload_n 3, 1), (19, .iconst 0, 1), (20, .iconst 3, 1)]
theorem kX12_cell_0 : chkB cX12_cell LX12_cell_0 = true := by decide +kernel
theorem dX12_cell_0 : decode cX12_cell 0 = .ok (.aload_n 0, 1) := getB' kX12_cell_0 0 rfl
theorem dX12_cell_1 : decode cX12_cell 1 = .ok (.iload_n 1, 1) := getB' kX12_cell_0 1 rfl
theorem dX12_cell_2 : decode cX12_cell 2 = .ok (.invokevirtual 381, 3) := getB' kX12_cell_0 2 rfl
theorem dX12_cell_5 : decode cX12_cell 5 = .ok (.ifCond .eq 33, 3) := getB' kX12_cell_0 3 rfl
theorem dX12_cell_8 : decode cX12_cell 8 = .ok (.iload_n 2, 1) := getB' kX12_cell_0 4 rfl
theorem dX12_cell_9 : decode cX12_cell 9 = .ok (.iconst 0, 1) := getB' kX12_cell_0 5 rfl
theorem dX12_cell_10 : decode cX12_cell 10 = .ok (.bipush 40, 2) := getB' kX12_cell_0 6 rfl
theorem dX12_cell_12 : decode cX12_cell 12 = .ok (.invokestatic 371, 3) := getB' kX12_cell_0 7 rfl
theorem dX12_cell_15 : decode cX12_cell 15 = .ok (.ifCond .eq 23, 3) := getB' kX12_cell_0 8 rfl
theorem dX12_cell_18 : decode cX12_cell 18 = .ok (.iload_n 3, 1) := getB' kX12_cell_0 9 rfl
theorem dX12_cell_19 : decode cX12_cell 19 = .ok (.iconst 0, 1) := getB' kX12_cell_0 10 rfl
theorem dX12_cell_20 : decode cX12_cell 20 = .ok (.iconst 3, 1) := getB' kX12_cell_0 11 rfl
def LX12_cell_1 : List (Nat × Instr × Nat) := [(21, .invokestatic 371, 3), (24, .ifCond .eq 14, 3), (27, .iload 4, 2), (29, .iconst (-1), 1), (30, .bipush 7, 2), (32, .invokestatic 371, 3), (35, .ifCond .ne 5, 3), (38, .iconst 0, 1), (39, .ireturn, 1), (40, .iload 4, 2), (42, .iconst (-1), 1), (43, .if_icmp .ne 11, 3)]
theorem kX12_cell_1 : chkB cX12_cell LX12_cell_1 = true := by decide +kernel
theorem dX12_cell_21 : decode cX12_cell 21 = .ok (.invokestatic 371, 3) := getB' kX12_cell_1 0 rfl
theorem dX12_cell_24 : decode cX12_cell 24 = .ok (.ifCond .eq 14, 3) := getB' kX12_cell_1 1 rfl
theorem dX12_cell_27 : decode cX12_cell 27 = .ok (.iload 4, 2) := getB' kX12_cell_1 2 rfl
theorem dX12_cell_29 : decode cX12_cell 29 = .ok (.iconst (-1), 1) := getB' kX12_cell_1 3 rfl
theorem dX12_cell_30 : decode cX12_cell 30 = .ok (.bipush 7, 2) := getB' kX12_cell_1 4 rfl
theorem dX12_cell_32 : decode cX12_cell 32 = .ok (.invokestatic 371, 3) := getB' kX12_cell_1 5 rfl
theorem dX12_cell_35 : decode cX12_cell 35 = .ok (.ifCond .ne 5, 3) := getB' kX12_cell_1 6 rfl
theorem dX12_cell_38 : decode cX12_cell 38 = .ok (.iconst 0, 1) := getB' kX12_cell_1 7 rfl
theorem dX12_cell_39 : decode cX12_cell 39 = .ok (.ireturn, 1) := getB' kX12_cell_1 8 rfl
theorem dX12_cell_40 : decode cX12_cell 40 = .ok (.iload 4, 2) := getB' kX12_cell_1 9 rfl
theorem dX12_cell_42 : decode cX12_cell 42 = .ok (.iconst (-1), 1) := getB' kX12_cell_1 10 rfl
theorem dX12_cell_43 : decode cX12_cell 43 = .ok (.if_icmp .ne 11, 3) := getB' kX12_cell_1 11 rfl
def LX12_cell_2 : List (Nat × Instr × Nat) := [(46, .iload 5, 2), (48, .ifCond .eq 21, 3), (51, .goto 16, 3), (54, .iload 5, 2), (56, .bipush 10, 2), (58, .sipush 3600, 3), (61, .invokestatic 371, 3), (64, .ifCond .ne 5, 3), (67, .iconst 0, 1), (68, .ireturn, 1), (69, .aload_n 0, 1), (70, .getfield 16, 3)]
theorem kX12_cell_2 : chkB cX12_cell LX12_cell_2 = true := by decide +kernel
theorem dX12_cell_46 : decode cX12_cell 46 = .ok (.iload 5, 2) := getB' kX12_cell_2 0 rfl
theorem dX12_cell_48 : decode cX12_cell 48 = .ok (.ifCond .eq 21, 3) := getB' kX12_cell_2 1 rfl
theorem dX12_cell_51 : decode cX12_cell 51 = .ok (.goto 16, 3) := getB' kX12_cell_2 2 rfl
theorem dX12_cell_54 : decode cX12_cell 54 = .ok (.iload 5, 2) := getB' kX12_cell_2 3 rfl
theorem dX12_cell_56 : decode cX12_cell 56 = .ok (.bipush 10, 2) := getB' kX12_cell_2 4 rfl
theorem dX12_cell_58 : decode cX12_cell 58 = .ok (.sipush 3600, 3) := getB' kX12_cell_2 5 rfl
theorem dX12_cell_61 : decode cX12_cell 61 = .ok (.invokestatic 371, 3) := getB' kX12_cell_2 6 rfl
theorem dX12_cell_64 : decode cX12_cell 64 = .ok (.ifCond .ne 5, 3) := getB' kX12_cell_2 7 rfl
theorem dX12_cell_67 : decode cX12_cell 67 = .ok (.iconst 0, 1) := getB' kX12_cell_2 8 rfl
theorem dX12_cell_68 : decode cX12_cell 68 = .ok (.ireturn, 1) := getB' kX12_cell_2 9 rfl
theorem dX12_cell_69 : decode cX12_cell 69 = .ok (.aload_n 0, 1) := getB' kX12_cell_2 10 rfl
theorem dX12_cell_70 : decode cX12_cell 70 = .ok (.getfield 16, 3) := getB' kX12_cell_2 11 rfl
def LX12_cell_3 : List (Nat × Instr × Nat) := [(73, .iload_n 1, 1), (74, .iload_n 2, 1), (75, .iastore, 1), (76, .aload_n 0, 1), (77, .getfield 20, 3), (80, .iload_n 1, 1), (81, .iload_n 3, 1), (82, .iastore, 1), (83, .aload_n 0, 1), (84, .getfield 23, 3), (87, .iload_n 1, 1), (88, .iload 4, 2)]
theorem kX12_cell_3 : chkB cX12_cell LX12_cell_3 = true := by decide +kernel
theorem dX12_cell_73 : decode cX12_cell 73 = .ok (.iload_n 1, 1) := getB' kX12_cell_3 0 rfl
theorem dX12_cell_74 : decode cX12_cell 74 = .ok (.iload_n 2, 1) := getB' kX12_cell_3 1 rfl
theorem dX12_cell_75 : decode cX12_cell 75 = .ok (.iastore, 1) := getB' kX12_cell_3 2 rfl
theorem dX12_cell_76 : decode cX12_cell 76 = .ok (.aload_n 0, 1) := getB' kX12_cell_3 3 rfl
theorem dX12_cell_77 : decode cX12_cell 77 = .ok (.getfield 20, 3) := getB' kX12_cell_3 4 rfl
theorem dX12_cell_80 : decode cX12_cell 80 = .ok (.iload_n 1, 1) := getB' kX12_cell_3 5 rfl
theorem dX12_cell_81 : decode cX12_cell 81 = .ok (.iload_n 3, 1) := getB' kX12_cell_3 6 rfl
theorem dX12_cell_82 : decode cX12_cell 82 = .ok (.iastore, 1) := getB' kX12_cell_3 7 rfl
theorem dX12_cell_83 : decode cX12_cell 83 = .ok (.aload_n 0, 1) := getB' kX12_cell_3 8 rfl
theorem dX12_cell_84 : decode cX12_cell 84 = .ok (.getfield 23, 3) := getB' kX12_cell_3 9 rfl
theorem dX12_cell_87 : decode cX12_cell 87 = .ok (.iload_n 1, 1) := getB' kX12_cell_3 10 rfl
theorem dX12_cell_88 : decode cX12_cell 88 = .ok (.iload 4, 2) := getB' kX12_cell_3 11 rfl
def LX12_cell_4 : List (Nat × Instr × Nat) := [(90, .iastore, 1), (91, .aload_n 0, 1), (92, .getfield 26, 3), (95, .iload_n 1, 1), (96, .iload 5, 2), (98, .iastore, 1), (99, .iconst 1, 1), (100, .ireturn, 1)]
theorem kX12_cell_4 : chkB cX12_cell LX12_cell_4 = true := by decide +kernel
theorem dX12_cell_90 : decode cX12_cell 90 = .ok (.iastore, 1) := getB' kX12_cell_4 0 rfl
theorem dX12_cell_91 : decode cX12_cell 91 = .ok (.aload_n 0, 1) := getB' kX12_cell_4 1 rfl
theorem dX12_cell_92 : decode cX12_cell 92 = .ok (.getfield 26, 3) := getB' kX12_cell_4 2 rfl
theorem dX12_cell_95 : decode cX12_cell 95 = .ok (.iload_n 1, 1) := getB' kX12_cell_4 3 rfl
theorem dX12_cell_96 : decode cX12_cell 96 = .ok (.iload 5, 2) := getB' kX12_cell_4 4 rfl
theorem dX12_cell_98 : decode cX12_cell 98 = .ok (.iastore, 1) := getB' kX12_cell_4 5 rfl
theorem dX12_cell_99 : decode cX12_cell 99 = .ok (.iconst 1, 1) := getB' kX12_cell_4 6 rfl
theorem dX12_cell_100 : decode cX12_cell 100 = .ok (.ireturn, 1) := getB' kX12_cell_4 7 rfl
def LX12_dark_0 : List (Nat × Instr × Nat) := [(0, .iload_n 1, 1), (1, .iconst 0, 1), (2, .sipush 359, 3), (5, .invokestatic 371, 3), (8, .ifCond .eq 14, 3), (11, .iload_n 2, 1), (12, .iload_n 1, 1), (13, .sipush 359, 3), (16, .invokestatic 371, 3), (19, .ifCond .ne 5, 3), (22, .iconst 0, 1), (23, .ireturn, 1)]
theorem kX12_dark_0 : chkB cX12_dark LX12_dark_0 = true := by decide +kernel
theorem dX12_dark_0 : decode cX12_dark 0 = .ok (.iload_n 1, 1) := getB' kX12_dark_0 0 rfl
theorem dX12_dark_1 : decode cX12_dark 1 = .ok (.iconst 0, 1) := getB' kX12_dark_0 1 rfl
theorem dX12_dark_2 : decode cX12_dark 2 = .ok (.sipush 359, 3) := getB' kX12_dark_0 2 rfl
theorem dX12_dark_5 : decode cX12_dark 5 = .ok (.invokestatic 371, 3) := getB' kX12_dark_0 3 rfl
theorem dX12_dark_8 : decode cX12_dark 8 = .ok (.ifCond .eq 14, 3) := getB' kX12_dark_0 4 rfl
theorem dX12_dark_11 : decode cX12_dark 11 = .ok (.iload_n 2, 1) := getB' kX12_dark_0 5 rfl
theorem dX12_dark_12 : decode cX12_dark 12 = .ok (.iload_n 1, 1) := getB' kX12_dark_0 6 rfl
theorem dX12_dark_13 : decode cX12_dark 13 = .ok (.sipush 359, 3) := getB' kX12_dark_0 7 rfl
theorem dX12_dark_16 : decode cX12_dark 16 = .ok (.invokestatic 371, 3) := getB' kX12_dark_0 8 rfl
theorem dX12_dark_19 : decode cX12_dark 19 = .ok (.ifCond .ne 5, 3) := getB' kX12_dark_0 9 rfl
theorem dX12_dark_22 : decode cX12_dark 22 = .ok (.iconst 0, 1) := getB' kX12_dark_0 10 rfl
theorem dX12_dark_23 : decode cX12_dark 23 = .ok (.ireturn, 1) := getB' kX12_dark_0 11 rfl
def LX12_dark_1 : List (Nat × Instr × Nat) := [(24, .aload_n 0, 1), (25, .iload_n 1, 1), (26, .putfield 7, 3), (29, .aload_n 0, 1), (30, .iload_n 2, 1), (31, .putfield 13, 3), (34, .iconst 1, 1), (35, .ireturn, 1)]
theorem kX12_dark_1 : chkB cX12_dark LX12_dark_1 = true := by decide +kernel
theorem dX12_dark_24 : decode cX12_dark 24 = .ok (.aload_n 0, 1) := getB' kX12_dark_1 0 rfl
theorem dX12_dark_25 : decode cX12_dark 25 = .ok (.iload_n 1, 1) := getB' kX12_dark_1 1 rfl
theorem dX12_dark_26 : decode cX12_dark 26 = .ok (.putfield 7, 3) := getB' kX12_dark_1 2 rfl
theorem dX12_dark_29 : decode cX12_dark 29 = .ok (.aload_n 0, 1) := getB' kX12_dark_1 3 rfl
theorem dX12_dark_30 : decode cX12_dark 30 = .ok (.iload_n 2, 1) := getB' kX12_dark_1 4 rfl
theorem dX12_dark_31 : decode cX12_dark 31 = .ok (.putfield 13, 3) := getB' kX12_dark_1 5 rfl
theorem dX12_dark_34 : decode cX12_dark 34 = .ok (.iconst 1, 1) := getB' kX12_dark_1 6 rfl
theorem dX12_dark_35 : decode cX12_dark 35 = .ok (.ireturn, 1) := getB' kX12_dark_1 7 rfl
def LX12_isDark : List (Nat × Instr × Nat) := [(0, .iload_n 1, 1), (1, .sipush 360, 3), (4, .irem, 1), (5, .aload_n 0, 1), (6, .getfield 7, 3), (9, .aload_n 0, 1), (10, .getfield 13, 3), (13, .invokestatic 371, 3), (16, .ireturn, 1)]
theorem kX12_isDark : chkB cX12_isDark LX12_isDark = true := by decide +kernel
theorem dX12_isDark_0 : decode cX12_isDark 0 = .ok (.iload_n 1, 1) := getB' kX12_isDark 0 rfl
theorem dX12_isDark_1 : decode cX12_isDark 1 = .ok (.sipush 360, 3) := getB' kX12_isDark 1 rfl
theorem dX12_isDark_4 : decode cX12_isDark 4 = .ok (.irem, 1) := getB' kX12_isDark 2 rfl
theorem dX12_isDark_5 : decode cX12_isDark 5 = .ok (.aload_n 0, 1) := getB' kX12_isDark 3 rfl
theorem dX12_isDark_6 : decode cX12_isDark 6 = .ok (.getfield 7, 3) := getB' kX12_isDark 4 rfl
theorem dX12_isDark_9 : decode cX12_isDark 9 = .ok (.aload_n 0, 1) := getB' kX12_isDark 5 rfl
theorem dX12_isDark_10 : decode cX12_isDark 10 = .ok (.getfield 13, 3) := getB' kX12_isDark 6 rfl
theorem dX12_isDark_13 : decode cX12_isDark 13 = .ok (.invokestatic 371, 3) := getB' kX12_isDark 7 rfl
theorem dX12_isDark_16 : decode cX12_isDark 16 = .ok (.ireturn, 1) := getB' kX12_isDark 8 rfl
def LX12_far_0 : List (Nat × Instr × Nat) := [(0, .iload_n 1, 1), (1, .aload_n 0, 1), (2, .getfield 365, 3), (5, .idiv, 1), (6, .iload_n 2, 1), (7, .aload_n 0, 1), (8, .getfield 365, 3), (11, .idiv, 1), (12, .isub, 1), (13, .invokestatic 385, 3), (16, .istore_n 3, 1), (17, .iload_n 1, 1)]
theorem kX12_far_0 : chkB cX12_far LX12_far_0 = true := by decide +kernel
theorem dX12_far_0 : decode cX12_far 0 = .ok (.iload_n 1, 1) := getB' kX12_far_0 0 rfl
theorem dX12_far_1 : decode cX12_far 1 = .ok (.aload_n 0, 1) := getB' kX12_far_0 1 rfl
theorem dX12_far_2 : decode cX12_far 2 = .ok (.getfield 365, 3) := getB' kX12_far_0 2 rfl
theorem dX12_far_5 : decode cX12_far 5 = .ok (.idiv, 1) := getB' kX12_far_0 3 rfl
theorem dX12_far_6 : decode cX12_far 6 = .ok (.iload_n 2, 1) := getB' kX12_far_0 4 rfl
theorem dX12_far_7 : decode cX12_far 7 = .ok (.aload_n 0, 1) := getB' kX12_far_0 5 rfl
theorem dX12_far_8 : decode cX12_far 8 = .ok (.getfield 365, 3) := getB' kX12_far_0 6 rfl
theorem dX12_far_11 : decode cX12_far 11 = .ok (.idiv, 1) := getB' kX12_far_0 7 rfl
theorem dX12_far_12 : decode cX12_far 12 = .ok (.isub, 1) := getB' kX12_far_0 8 rfl
theorem dX12_far_13 : decode cX12_far 13 = .ok (.invokestatic 385, 3) := getB' kX12_far_0 9 rfl
theorem dX12_far_16 : decode cX12_far 16 = .ok (.istore_n 3, 1) := getB' kX12_far_0 10 rfl
theorem dX12_far_17 : decode cX12_far 17 = .ok (.iload_n 1, 1) := getB' kX12_far_0 11 rfl
def LX12_far_1 : List (Nat × Instr × Nat) := [(18, .aload_n 0, 1), (19, .getfield 365, 3), (22, .irem, 1), (23, .iload_n 2, 1), (24, .aload_n 0, 1), (25, .getfield 365, 3), (28, .irem, 1), (29, .isub, 1), (30, .invokestatic 385, 3), (33, .istore 4, 2), (35, .iload_n 3, 1), (36, .iload 4, 2)]
theorem kX12_far_1 : chkB cX12_far LX12_far_1 = true := by decide +kernel
theorem dX12_far_18 : decode cX12_far 18 = .ok (.aload_n 0, 1) := getB' kX12_far_1 0 rfl
theorem dX12_far_19 : decode cX12_far 19 = .ok (.getfield 365, 3) := getB' kX12_far_1 1 rfl
theorem dX12_far_22 : decode cX12_far 22 = .ok (.irem, 1) := getB' kX12_far_1 2 rfl
theorem dX12_far_23 : decode cX12_far 23 = .ok (.iload_n 2, 1) := getB' kX12_far_1 3 rfl
theorem dX12_far_24 : decode cX12_far 24 = .ok (.aload_n 0, 1) := getB' kX12_far_1 4 rfl
theorem dX12_far_25 : decode cX12_far 25 = .ok (.getfield 365, 3) := getB' kX12_far_1 5 rfl
theorem dX12_far_28 : decode cX12_far 28 = .ok (.irem, 1) := getB' kX12_far_1 6 rfl
theorem dX12_far_29 : decode cX12_far 29 = .ok (.isub, 1) := getB' kX12_far_1 7 rfl
theorem dX12_far_30 : decode cX12_far 30 = .ok (.invokestatic 385, 3) := getB' kX12_far_1 8 rfl
theorem dX12_far_33 : decode cX12_far 33 = .ok (.istore 4, 2) := getB' kX12_far_1 9 rfl
theorem dX12_far_35 : decode cX12_far 35 = .ok (.iload_n 3, 1) := getB' kX12_far_1 10 rfl
theorem dX12_far_36 : decode cX12_far 36 = .ok (.iload 4, 2) := getB' kX12_far_1 11 rfl
def LX12_far_2 : List (Nat × Instr × Nat) := [(38, .if_icmp .le 7, 3), (41, .iload_n 3, 1), (42, .goto 5, 3), (45, .iload 4, 2), (47, .ireturn, 1)]
theorem kX12_far_2 : chkB cX12_far LX12_far_2 = true := by decide +kernel
theorem dX12_far_38 : decode cX12_far 38 = .ok (.if_icmp .le 7, 3) := getB' kX12_far_2 0 rfl
theorem dX12_far_41 : decode cX12_far 41 = .ok (.iload_n 3, 1) := getB' kX12_far_2 1 rfl
theorem dX12_far_42 : decode cX12_far 42 = .ok (.goto 5, 3) := getB' kX12_far_2 2 rfl
theorem dX12_far_45 : decode cX12_far 45 = .ok (.iload 4, 2) := getB' kX12_far_2 3 rfl
theorem dX12_far_47 : decode cX12_far 47 = .ok (.ireturn, 1) := getB' kX12_far_2 4 rfl
def LX12_columnStep_0 : List (Nat × Instr × Nat) := [(0, .iload_n 0, 1), (1, .iconst 1, 1), (2, .iconst 3, 1), (3, .invokestatic 371, 3), (6, .ifCond .eq 7, 3), (9, .iconst 1, 1), (10, .goto 13, 3), (13, .iload_n 0, 1), (14, .iconst 5, 1), (15, .if_icmp .lt 7, 3), (18, .iconst (-1), 1), (19, .goto 4, 3)]
theorem kX12_columnStep_0 : chkB cX12_columnStep LX12_columnStep_0 = true := by decide +kernel
theorem dX12_columnStep_0 : decode cX12_columnStep 0 = .ok (.iload_n 0, 1) := getB' kX12_columnStep_0 0 rfl
theorem dX12_columnStep_1 : decode cX12_columnStep 1 = .ok (.iconst 1, 1) := getB' kX12_columnStep_0 1 rfl
theorem dX12_columnStep_2 : decode cX12_columnStep 2 = .ok (.iconst 3, 1) := getB' kX12_columnStep_0 2 rfl
theorem dX12_columnStep_3 : decode cX12_columnStep 3 = .ok (.invokestatic 371, 3) := getB' kX12_columnStep_0 3 rfl
theorem dX12_columnStep_6 : decode cX12_columnStep 6 = .ok (.ifCond .eq 7, 3) := getB' kX12_columnStep_0 4 rfl
theorem dX12_columnStep_9 : decode cX12_columnStep 9 = .ok (.iconst 1, 1) := getB' kX12_columnStep_0 5 rfl
theorem dX12_columnStep_10 : decode cX12_columnStep 10 = .ok (.goto 13, 3) := getB' kX12_columnStep_0 6 rfl
theorem dX12_columnStep_13 : decode cX12_columnStep 13 = .ok (.iload_n 0, 1) := getB' kX12_columnStep_0 7 rfl
theorem dX12_columnStep_14 : decode cX12_columnStep 14 = .ok (.iconst 5, 1) := getB' kX12_columnStep_0 8 rfl
theorem dX12_columnStep_15 : decode cX12_columnStep 15 = .ok (.if_icmp .lt 7, 3) := getB' kX12_columnStep_0 9 rfl
theorem dX12_columnStep_18 : decode cX12_columnStep 18 = .ok (.iconst (-1), 1) := getB' kX12_columnStep_0 10 rfl
theorem dX12_columnStep_19 : decode cX12_columnStep 19 = .ok (.goto 4, 3) := getB' kX12_columnStep_0 11 rfl
def LX12_columnStep_1 : List (Nat × Instr × Nat) := [(22, .iconst 0, 1), (23, .ireturn, 1)]
theorem kX12_columnStep_1 : chkB cX12_columnStep LX12_columnStep_1 = true := by decide +kernel
theorem dX12_columnStep_22 : decode cX12_columnStep 22 = .ok (.iconst 0, 1) := getB' kX12_columnStep_1 0 rfl
theorem dX12_columnStep_23 : decode cX12_columnStep 23 = .ok (.ireturn, 1) := getB' kX12_columnStep_1 1 rfl
def LX12_rowStep_0 : List (Nat × Instr × Nat) := [(0, .iload_n 0, 1), (1, .ifCond .eq 14, 3), (4, .iload_n 0, 1), (5, .iconst 1, 1), (6, .if_icmp .eq 9, 3), (9, .iload_n 0, 1), (10, .bipush 7, 2), (12, .if_icmp .ne 7, 3), (15, .iconst (-1), 1), (16, .goto 17, 3), (19, .iload_n 0, 1), (20, .iconst 3, 1)]
theorem kX12_rowStep_0 : chkB cX12_rowStep LX12_rowStep_0 = true := by decide +kernel
theorem dX12_rowStep_0 : decode cX12_rowStep 0 = .ok (.iload_n 0, 1) := getB' kX12_rowStep_0 0 rfl
theorem dX12_rowStep_1 : decode cX12_rowStep 1 = .ok (.ifCond .eq 14, 3) := getB' kX12_rowStep_0 1 rfl
theorem dX12_rowStep_4 : decode cX12_rowStep 4 = .ok (.iload_n 0, 1) := getB' kX12_rowStep_0 2 rfl
theorem dX12_rowStep_5 : decode cX12_rowStep 5 = .ok (.iconst 1, 1) := getB' kX12_rowStep_0 3 rfl
theorem dX12_rowStep_6 : decode cX12_rowStep 6 = .ok (.if_icmp .eq 9, 3) := getB' kX12_rowStep_0 4 rfl
theorem dX12_rowStep_9 : decode cX12_rowStep 9 = .ok (.iload_n 0, 1) := getB' kX12_rowStep_0 5 rfl
theorem dX12_rowStep_10 : decode cX12_rowStep 10 = .ok (.bipush 7, 2) := getB' kX12_rowStep_0 6 rfl
theorem dX12_rowStep_12 : decode cX12_rowStep 12 = .ok (.if_icmp .ne 7, 3) := getB' kX12_rowStep_0 7 rfl
theorem dX12_rowStep_15 : decode cX12_rowStep 15 = .ok (.iconst (-1), 1) := getB' kX12_rowStep_0 8 rfl
theorem dX12_rowStep_16 : decode cX12_rowStep 16 = .ok (.goto 17, 3) := getB' kX12_rowStep_0 9 rfl
theorem dX12_rowStep_19 : decode cX12_rowStep 19 = .ok (.iload_n 0, 1) := getB' kX12_rowStep_0 10 rfl
theorem dX12_rowStep_20 : decode cX12_rowStep 20 = .ok (.iconst 3, 1) := getB' kX12_rowStep_0 11 rfl
def LX12_rowStep_1 : List (Nat × Instr × Nat) := [(21, .iconst 5, 1), (22, .invokestatic 371, 3), (25, .ifCond .eq 7, 3), (28, .iconst 1, 1), (29, .goto 4, 3), (32, .iconst 0, 1), (33, .ireturn, 1)]
theorem kX12_rowStep_1 : chkB cX12_rowStep LX12_rowStep_1 = true := by decide +kernel
theorem dX12_rowStep_21 : decode cX12_rowStep 21 = .ok (.iconst 5, 1) := getB' kX12_rowStep_1 0 rfl
theorem dX12_rowStep_22 : decode cX12_rowStep 22 = .ok (.invokestatic 371, 3) := getB' kX12_rowStep_1 1 rfl
theorem dX12_rowStep_25 : decode cX12_rowStep 25 = .ok (.ifCond .eq 7, 3) := getB' kX12_rowStep_1 2 rfl
theorem dX12_rowStep_28 : decode cX12_rowStep 28 = .ok (.iconst 1, 1) := getB' kX12_rowStep_1 3 rfl
theorem dX12_rowStep_29 : decode cX12_rowStep 29 = .ok (.goto 4, 3) := getB' kX12_rowStep_1 4 rfl
theorem dX12_rowStep_32 : decode cX12_rowStep 32 = .ok (.iconst 0, 1) := getB' kX12_rowStep_1 5 rfl
theorem dX12_rowStep_33 : decode cX12_rowStep 33 = .ok (.ireturn, 1) := getB' kX12_rowStep_1 6 rfl
def LX12_moved_0 : List (Nat × Instr × Nat) := [(0, .iload_n 1, 1), (1, .aload_n 0, 1), (2, .getfield 365, 3), (5, .irem, 1), (6, .iload_n 2, 1), (7, .iadd, 1), (8, .istore 4, 2), (10, .iload_n 1, 1), (11, .aload_n 0, 1), (12, .getfield 365, 3), (15, .idiv, 1), (16, .iload_n 3, 1)]
theorem kX12_moved_0 : chkB cX12_moved LX12_moved_0 = true := by decide +kernel
theorem dX12_moved_0 : decode cX12_moved 0 = .ok (.iload_n 1, 1) := getB' kX12_moved_0 0 rfl
theorem dX12_moved_1 : decode cX12_moved 1 = .ok (.aload_n 0, 1) := getB' kX12_moved_0 1 rfl
theorem dX12_moved_2 : decode cX12_moved 2 = .ok (.getfield 365, 3) := getB' kX12_moved_0 2 rfl
theorem dX12_moved_5 : decode cX12_moved 5 = .ok (.irem, 1) := getB' kX12_moved_0 3 rfl
theorem dX12_moved_6 : decode cX12_moved 6 = .ok (.iload_n 2, 1) := getB' kX12_moved_0 4 rfl
theorem dX12_moved_7 : decode cX12_moved 7 = .ok (.iadd, 1) := getB' kX12_moved_0 5 rfl
theorem dX12_moved_8 : decode cX12_moved 8 = .ok (.istore 4, 2) := getB' kX12_moved_0 6 rfl
theorem dX12_moved_10 : decode cX12_moved 10 = .ok (.iload_n 1, 1) := getB' kX12_moved_0 7 rfl
theorem dX12_moved_11 : decode cX12_moved 11 = .ok (.aload_n 0, 1) := getB' kX12_moved_0 8 rfl
theorem dX12_moved_12 : decode cX12_moved 12 = .ok (.getfield 365, 3) := getB' kX12_moved_0 9 rfl
theorem dX12_moved_15 : decode cX12_moved 15 = .ok (.idiv, 1) := getB' kX12_moved_0 10 rfl
theorem dX12_moved_16 : decode cX12_moved 16 = .ok (.iload_n 3, 1) := getB' kX12_moved_0 11 rfl
def LX12_moved_1 : List (Nat × Instr × Nat) := [(17, .iadd, 1), (18, .istore 5, 2), (20, .iload 4, 2), (22, .iconst 0, 1), (23, .aload_n 0, 1), (24, .getfield 365, 3), (27, .iconst 1, 1), (28, .isub, 1), (29, .invokestatic 371, 3), (32, .ifCond .eq 31, 3), (35, .iload 5, 2), (37, .iconst 0, 1)]
theorem kX12_moved_1 : chkB cX12_moved LX12_moved_1 = true := by decide +kernel
theorem dX12_moved_17 : decode cX12_moved 17 = .ok (.iadd, 1) := getB' kX12_moved_1 0 rfl
theorem dX12_moved_18 : decode cX12_moved 18 = .ok (.istore 5, 2) := getB' kX12_moved_1 1 rfl
theorem dX12_moved_20 : decode cX12_moved 20 = .ok (.iload 4, 2) := getB' kX12_moved_1 2 rfl
theorem dX12_moved_22 : decode cX12_moved 22 = .ok (.iconst 0, 1) := getB' kX12_moved_1 3 rfl
theorem dX12_moved_23 : decode cX12_moved 23 = .ok (.aload_n 0, 1) := getB' kX12_moved_1 4 rfl
theorem dX12_moved_24 : decode cX12_moved 24 = .ok (.getfield 365, 3) := getB' kX12_moved_1 5 rfl
theorem dX12_moved_27 : decode cX12_moved 27 = .ok (.iconst 1, 1) := getB' kX12_moved_1 6 rfl
theorem dX12_moved_28 : decode cX12_moved 28 = .ok (.isub, 1) := getB' kX12_moved_1 7 rfl
theorem dX12_moved_29 : decode cX12_moved 29 = .ok (.invokestatic 371, 3) := getB' kX12_moved_1 8 rfl
theorem dX12_moved_32 : decode cX12_moved 32 = .ok (.ifCond .eq 31, 3) := getB' kX12_moved_1 9 rfl
theorem dX12_moved_35 : decode cX12_moved 35 = .ok (.iload 5, 2) := getB' kX12_moved_1 10 rfl
theorem dX12_moved_37 : decode cX12_moved 37 = .ok (.iconst 0, 1) := getB' kX12_moved_1 11 rfl
def LX12_moved_2 : List (Nat × Instr × Nat) := [(38, .aload_n 0, 1), (39, .getfield 368, 3), (42, .iconst 1, 1), (43, .isub, 1), (44, .invokestatic 371, 3), (47, .ifCond .eq 16, 3), (50, .aload_n 0, 1), (51, .getfield 365, 3), (54, .iload 5, 2), (56, .imul, 1), (57, .iload 4, 2), (59, .iadd, 1)]
theorem kX12_moved_2 : chkB cX12_moved LX12_moved_2 = true := by decide +kernel
theorem dX12_moved_38 : decode cX12_moved 38 = .ok (.aload_n 0, 1) := getB' kX12_moved_2 0 rfl
theorem dX12_moved_39 : decode cX12_moved 39 = .ok (.getfield 368, 3) := getB' kX12_moved_2 1 rfl
theorem dX12_moved_42 : decode cX12_moved 42 = .ok (.iconst 1, 1) := getB' kX12_moved_2 2 rfl
theorem dX12_moved_43 : decode cX12_moved 43 = .ok (.isub, 1) := getB' kX12_moved_2 3 rfl
theorem dX12_moved_44 : decode cX12_moved 44 = .ok (.invokestatic 371, 3) := getB' kX12_moved_2 4 rfl
theorem dX12_moved_47 : decode cX12_moved 47 = .ok (.ifCond .eq 16, 3) := getB' kX12_moved_2 5 rfl
theorem dX12_moved_50 : decode cX12_moved 50 = .ok (.aload_n 0, 1) := getB' kX12_moved_2 6 rfl
theorem dX12_moved_51 : decode cX12_moved 51 = .ok (.getfield 365, 3) := getB' kX12_moved_2 7 rfl
theorem dX12_moved_54 : decode cX12_moved 54 = .ok (.iload 5, 2) := getB' kX12_moved_2 8 rfl
theorem dX12_moved_56 : decode cX12_moved 56 = .ok (.imul, 1) := getB' kX12_moved_2 9 rfl
theorem dX12_moved_57 : decode cX12_moved 57 = .ok (.iload 4, 2) := getB' kX12_moved_2 10 rfl
theorem dX12_moved_59 : decode cX12_moved 59 = .ok (.iadd, 1) := getB' kX12_moved_2 11 rfl
def LX12_moved_3 : List (Nat × Instr × Nat) := [(60, .goto 4, 3), (63, .iconst (-1), 1), (64, .ireturn, 1)]
theorem kX12_moved_3 : chkB cX12_moved LX12_moved_3 = true := by decide +kernel
theorem dX12_moved_60 : decode cX12_moved 60 = .ok (.goto 4, 3) := getB' kX12_moved_3 0 rfl
theorem dX12_moved_63 : decode cX12_moved 63 = .ok (.iconst (-1), 1) := getB' kX12_moved_3 1 rfl
theorem dX12_moved_64 : decode cX12_moved 64 = .ok (.ireturn, 1) := getB' kX12_moved_3 2 rfl
def LX12_isLand : List (Nat × Instr × Nat) := [(0, .aload_n 0, 1), (1, .getfield 20, 3), (4, .iload_n 1, 1), (5, .iaload, 1), (6, .iconst 2, 1), (7, .if_icmp .ge 7, 3), (10, .iconst 1, 1), (11, .goto 4, 3), (14, .iconst 0, 1), (15, .ireturn, 1)]
theorem kX12_isLand : chkB cX12_isLand LX12_isLand = true := by decide +kernel
theorem dX12_isLand_0 : decode cX12_isLand 0 = .ok (.aload_n 0, 1) := getB' kX12_isLand 0 rfl
theorem dX12_isLand_1 : decode cX12_isLand 1 = .ok (.getfield 20, 3) := getB' kX12_isLand 1 rfl
theorem dX12_isLand_4 : decode cX12_isLand 4 = .ok (.iload_n 1, 1) := getB' kX12_isLand 2 rfl
theorem dX12_isLand_5 : decode cX12_isLand 5 = .ok (.iaload, 1) := getB' kX12_isLand 3 rfl
theorem dX12_isLand_6 : decode cX12_isLand 6 = .ok (.iconst 2, 1) := getB' kX12_isLand 4 rfl
theorem dX12_isLand_7 : decode cX12_isLand 7 = .ok (.if_icmp .ge 7, 3) := getB' kX12_isLand 5 rfl
theorem dX12_isLand_10 : decode cX12_isLand 10 = .ok (.iconst 1, 1) := getB' kX12_isLand 6 rfl
theorem dX12_isLand_11 : decode cX12_isLand 11 = .ok (.goto 4, 3) := getB' kX12_isLand 7 rfl
theorem dX12_isLand_14 : decode cX12_isLand 14 = .ok (.iconst 0, 1) := getB' kX12_isLand 8 rfl
theorem dX12_isLand_15 : decode cX12_isLand 15 = .ok (.ireturn, 1) := getB' kX12_isLand 9 rfl
def LX12_isNearSea_0 : List (Nat × Instr × Nat) := [(0, .iconst 0, 1), (1, .istore_n 2, 1), (2, .iload_n 2, 1), (3, .aload_n 0, 1), (4, .getfield 365, 3), (7, .aload_n 0, 1), (8, .getfield 368, 3), (11, .imul, 1), (12, .if_icmp .ge 31, 3), (15, .aload_n 0, 1), (16, .getfield 20, 3), (19, .iload_n 2, 1)]
theorem kX12_isNearSea_0 : chkB cX12_isNearSea LX12_isNearSea_0 = true := by decide +kernel
theorem dX12_isNearSea_0 : decode cX12_isNearSea 0 = .ok (.iconst 0, 1) := getB' kX12_isNearSea_0 0 rfl
theorem dX12_isNearSea_1 : decode cX12_isNearSea 1 = .ok (.istore_n 2, 1) := getB' kX12_isNearSea_0 1 rfl
theorem dX12_isNearSea_2 : decode cX12_isNearSea 2 = .ok (.iload_n 2, 1) := getB' kX12_isNearSea_0 2 rfl
theorem dX12_isNearSea_3 : decode cX12_isNearSea 3 = .ok (.aload_n 0, 1) := getB' kX12_isNearSea_0 3 rfl
theorem dX12_isNearSea_4 : decode cX12_isNearSea 4 = .ok (.getfield 365, 3) := getB' kX12_isNearSea_0 4 rfl
theorem dX12_isNearSea_7 : decode cX12_isNearSea 7 = .ok (.aload_n 0, 1) := getB' kX12_isNearSea_0 5 rfl
theorem dX12_isNearSea_8 : decode cX12_isNearSea 8 = .ok (.getfield 368, 3) := getB' kX12_isNearSea_0 6 rfl
theorem dX12_isNearSea_11 : decode cX12_isNearSea 11 = .ok (.imul, 1) := getB' kX12_isNearSea_0 7 rfl
theorem dX12_isNearSea_12 : decode cX12_isNearSea 12 = .ok (.if_icmp .ge 31, 3) := getB' kX12_isNearSea_0 8 rfl
theorem dX12_isNearSea_15 : decode cX12_isNearSea 15 = .ok (.aload_n 0, 1) := getB' kX12_isNearSea_0 9 rfl
theorem dX12_isNearSea_16 : decode cX12_isNearSea 16 = .ok (.getfield 20, 3) := getB' kX12_isNearSea_0 10 rfl
theorem dX12_isNearSea_19 : decode cX12_isNearSea 19 = .ok (.iload_n 2, 1) := getB' kX12_isNearSea_0 11 rfl
def LX12_isNearSea_1 : List (Nat × Instr × Nat) := [(20, .iaload, 1), (21, .iconst 2, 1), (22, .if_icmp .ne 15, 3), (25, .aload_n 0, 1), (26, .iload_n 2, 1), (27, .iload_n 1, 1), (28, .invokevirtual 389, 3), (31, .iconst 1, 1), (32, .if_icmp .gt 5, 3), (35, .iconst 1, 1), (36, .ireturn, 1), (37, .iinc 2 1, 3)]
theorem kX12_isNearSea_1 : chkB cX12_isNearSea LX12_isNearSea_1 = true := by decide +kernel
theorem dX12_isNearSea_20 : decode cX12_isNearSea 20 = .ok (.iaload, 1) := getB' kX12_isNearSea_1 0 rfl
theorem dX12_isNearSea_21 : decode cX12_isNearSea 21 = .ok (.iconst 2, 1) := getB' kX12_isNearSea_1 1 rfl
theorem dX12_isNearSea_22 : decode cX12_isNearSea 22 = .ok (.if_icmp .ne 15, 3) := getB' kX12_isNearSea_1 2 rfl
theorem dX12_isNearSea_25 : decode cX12_isNearSea 25 = .ok (.aload_n 0, 1) := getB' kX12_isNearSea_1 3 rfl
theorem dX12_isNearSea_26 : decode cX12_isNearSea 26 = .ok (.iload_n 2, 1) := getB' kX12_isNearSea_1 4 rfl
theorem dX12_isNearSea_27 : decode cX12_isNearSea 27 = .ok (.iload_n 1, 1) := getB' kX12_isNearSea_1 5 rfl
theorem dX12_isNearSea_28 : decode cX12_isNearSea 28 = .ok (.invokevirtual 389, 3) := getB' kX12_isNearSea_1 6 rfl
theorem dX12_isNearSea_31 : decode cX12_isNearSea 31 = .ok (.iconst 1, 1) := getB' kX12_isNearSea_1 7 rfl
theorem dX12_isNearSea_32 : decode cX12_isNearSea 32 = .ok (.if_icmp .gt 5, 3) := getB' kX12_isNearSea_1 8 rfl
theorem dX12_isNearSea_35 : decode cX12_isNearSea 35 = .ok (.iconst 1, 1) := getB' kX12_isNearSea_1 9 rfl
theorem dX12_isNearSea_36 : decode cX12_isNearSea 36 = .ok (.ireturn, 1) := getB' kX12_isNearSea_1 10 rfl
theorem dX12_isNearSea_37 : decode cX12_isNearSea 37 = .ok (.iinc 2 1, 3) := getB' kX12_isNearSea_1 11 rfl
def LX12_isNearSea_2 : List (Nat × Instr × Nat) := [(40, .goto (-38), 3), (43, .iconst 0, 1), (44, .ireturn, 1)]
theorem kX12_isNearSea_2 : chkB cX12_isNearSea LX12_isNearSea_2 = true := by decide +kernel
theorem dX12_isNearSea_40 : decode cX12_isNearSea 40 = .ok (.goto (-38), 3) := getB' kX12_isNearSea_2 0 rfl
theorem dX12_isNearSea_43 : decode cX12_isNearSea 43 = .ok (.iconst 0, 1) := getB' kX12_isNearSea_2 1 rfl
theorem dX12_isNearSea_44 : decode cX12_isNearSea 44 = .ok (.ireturn, 1) := getB' kX12_isNearSea_2 2 rfl
def LX12_party_0 : List (Nat × Instr × Nat) := [(0, .aload_n 0, 1), (1, .getfield 393, 3), (4, .bipush 9, 2), (6, .if_icmp .ne 5, 3), (9, .iconst (-1), 1), (10, .ireturn, 1), (11, .aload_n 0, 1), (12, .getfield 29, 3), (15, .aload_n 0, 1), (16, .getfield 393, 3), (19, .iload_n 1, 1), (20, .ifCond .eq 10, 3)]
theorem kX12_party_0 : chkB cX12_party LX12_party_0 = true := by decide +kernel
theorem dX12_party_0 : decode cX12_party 0 = .ok (.aload_n 0, 1) := getB' kX12_party_0 0 rfl
theorem dX12_party_1 : decode cX12_party 1 = .ok (.getfield 393, 3) := getB' kX12_party_0 1 rfl
theorem dX12_party_4 : decode cX12_party 4 = .ok (.bipush 9, 2) := getB' kX12_party_0 2 rfl
theorem dX12_party_6 : decode cX12_party 6 = .ok (.if_icmp .ne 5, 3) := getB' kX12_party_0 3 rfl
theorem dX12_party_9 : decode cX12_party 9 = .ok (.iconst (-1), 1) := getB' kX12_party_0 4 rfl
theorem dX12_party_10 : decode cX12_party 10 = .ok (.ireturn, 1) := getB' kX12_party_0 5 rfl
theorem dX12_party_11 : decode cX12_party 11 = .ok (.aload_n 0, 1) := getB' kX12_party_0 6 rfl
theorem dX12_party_12 : decode cX12_party 12 = .ok (.getfield 29, 3) := getB' kX12_party_0 7 rfl
theorem dX12_party_15 : decode cX12_party 15 = .ok (.aload_n 0, 1) := getB' kX12_party_0 8 rfl
theorem dX12_party_16 : decode cX12_party 16 = .ok (.getfield 393, 3) := getB' kX12_party_0 9 rfl
theorem dX12_party_19 : decode cX12_party 19 = .ok (.iload_n 1, 1) := getB' kX12_party_0 10 rfl
theorem dX12_party_20 : decode cX12_party 20 = .ok (.ifCond .eq 10, 3) := getB' kX12_party_0 11 rfl
def LX12_party_1 : List (Nat × Instr × Nat) := [(23, .aload_n 0, 1), (24, .getfield 396, 3), (27, .goto 4, 3), (30, .iconst (-1), 1), (31, .iastore, 1), (32, .aload_n 0, 1), (33, .aload_n 0, 1), (34, .getfield 393, 3), (37, .iconst 1, 1), (38, .iadd, 1), (39, .putfield 393, 3), (42, .aload_n 0, 1)]
theorem kX12_party_1 : chkB cX12_party LX12_party_1 = true := by decide +kernel
theorem dX12_party_23 : decode cX12_party 23 = .ok (.aload_n 0, 1) := getB' kX12_party_1 0 rfl
theorem dX12_party_24 : decode cX12_party 24 = .ok (.getfield 396, 3) := getB' kX12_party_1 1 rfl
theorem dX12_party_27 : decode cX12_party 27 = .ok (.goto 4, 3) := getB' kX12_party_1 2 rfl
theorem dX12_party_30 : decode cX12_party 30 = .ok (.iconst (-1), 1) := getB' kX12_party_1 3 rfl
theorem dX12_party_31 : decode cX12_party 31 = .ok (.iastore, 1) := getB' kX12_party_1 4 rfl
theorem dX12_party_32 : decode cX12_party 32 = .ok (.aload_n 0, 1) := getB' kX12_party_1 5 rfl
theorem dX12_party_33 : decode cX12_party 33 = .ok (.aload_n 0, 1) := getB' kX12_party_1 6 rfl
theorem dX12_party_34 : decode cX12_party 34 = .ok (.getfield 393, 3) := getB' kX12_party_1 7 rfl
theorem dX12_party_37 : decode cX12_party 37 = .ok (.iconst 1, 1) := getB' kX12_party_1 8 rfl
theorem dX12_party_38 : decode cX12_party 38 = .ok (.iadd, 1) := getB' kX12_party_1 9 rfl
theorem dX12_party_39 : decode cX12_party 39 = .ok (.putfield 393, 3) := getB' kX12_party_1 10 rfl
theorem dX12_party_42 : decode cX12_party 42 = .ok (.aload_n 0, 1) := getB' kX12_party_1 11 rfl
def LX12_party_2 : List (Nat × Instr × Nat) := [(43, .getfield 393, 3), (46, .iconst 1, 1), (47, .isub, 1), (48, .ireturn, 1)]
theorem kX12_party_2 : chkB cX12_party LX12_party_2 = true := by decide +kernel
theorem dX12_party_43 : decode cX12_party 43 = .ok (.getfield 393, 3) := getB' kX12_party_2 0 rfl
theorem dX12_party_46 : decode cX12_party 46 = .ok (.iconst 1, 1) := getB' kX12_party_2 1 rfl
theorem dX12_party_47 : decode cX12_party 47 = .ok (.isub, 1) := getB' kX12_party_2 2 rfl
theorem dX12_party_48 : decode cX12_party 48 = .ok (.ireturn, 1) := getB' kX12_party_2 3 rfl
def LX12_isParty : List (Nat × Instr × Nat) := [(0, .iload_n 1, 1), (1, .ifCond .lt 15, 3), (4, .iload_n 1, 1), (5, .aload_n 0, 1), (6, .getfield 393, 3), (9, .if_icmp .ge 7, 3), (12, .iconst 1, 1), (13, .goto 4, 3), (16, .iconst 0, 1), (17, .ireturn, 1)]
theorem kX12_isParty : chkB cX12_isParty LX12_isParty = true := by decide +kernel
theorem dX12_isParty_0 : decode cX12_isParty 0 = .ok (.iload_n 1, 1) := getB' kX12_isParty 0 rfl
theorem dX12_isParty_1 : decode cX12_isParty 1 = .ok (.ifCond .lt 15, 3) := getB' kX12_isParty 1 rfl
theorem dX12_isParty_4 : decode cX12_isParty 4 = .ok (.iload_n 1, 1) := getB' kX12_isParty 2 rfl
theorem dX12_isParty_5 : decode cX12_isParty 5 = .ok (.aload_n 0, 1) := getB' kX12_isParty 3 rfl
theorem dX12_isParty_6 : decode cX12_isParty 6 = .ok (.getfield 393, 3) := getB' kX12_isParty 4 rfl
theorem dX12_isParty_9 : decode cX12_isParty 9 = .ok (.if_icmp .ge 7, 3) := getB' kX12_isParty 5 rfl
theorem dX12_isParty_12 : decode cX12_isParty 12 = .ok (.iconst 1, 1) := getB' kX12_isParty 6 rfl
theorem dX12_isParty_13 : decode cX12_isParty 13 = .ok (.goto 4, 3) := getB' kX12_isParty 7 rfl
theorem dX12_isParty_16 : decode cX12_isParty 16 = .ok (.iconst 0, 1) := getB' kX12_isParty 8 rfl
theorem dX12_isParty_17 : decode cX12_isParty 17 = .ok (.ireturn, 1) := getB' kX12_isParty 9 rfl
def LX12_isPlace_0 : List (Nat × Instr × Nat) := [(0, .iload_n 1, 1), (1, .ifCond .lt 25, 3), (4, .iload_n 1, 1), (5, .aload_n 0, 1), (6, .getfield 375, 3), (9, .if_icmp .ge 17, 3), (12, .aload_n 0, 1), (13, .getfield 35, 3), (16, .iload_n 1, 1), (17, .iaload, 1), (18, .iload_n 2, 1), (19, .if_icmp .ne 7, 3)]
theorem kX12_isPlace_0 : chkB cX12_isPlace LX12_isPlace_0 = true := by decide +kernel
theorem dX12_isPlace_0 : decode cX12_isPlace 0 = .ok (.iload_n 1, 1) := getB' kX12_isPlace_0 0 rfl
theorem dX12_isPlace_1 : decode cX12_isPlace 1 = .ok (.ifCond .lt 25, 3) := getB' kX12_isPlace_0 1 rfl
theorem dX12_isPlace_4 : decode cX12_isPlace 4 = .ok (.iload_n 1, 1) := getB' kX12_isPlace_0 2 rfl
theorem dX12_isPlace_5 : decode cX12_isPlace 5 = .ok (.aload_n 0, 1) := getB' kX12_isPlace_0 3 rfl
theorem dX12_isPlace_6 : decode cX12_isPlace 6 = .ok (.getfield 375, 3) := getB' kX12_isPlace_0 4 rfl
theorem dX12_isPlace_9 : decode cX12_isPlace 9 = .ok (.if_icmp .ge 17, 3) := getB' kX12_isPlace_0 5 rfl
theorem dX12_isPlace_12 : decode cX12_isPlace 12 = .ok (.aload_n 0, 1) := getB' kX12_isPlace_0 6 rfl
theorem dX12_isPlace_13 : decode cX12_isPlace 13 = .ok (.getfield 35, 3) := getB' kX12_isPlace_0 7 rfl
theorem dX12_isPlace_16 : decode cX12_isPlace 16 = .ok (.iload_n 1, 1) := getB' kX12_isPlace_0 8 rfl
theorem dX12_isPlace_17 : decode cX12_isPlace 17 = .ok (.iaload, 1) := getB' kX12_isPlace_0 9 rfl
theorem dX12_isPlace_18 : decode cX12_isPlace 18 = .ok (.iload_n 2, 1) := getB' kX12_isPlace_0 10 rfl
theorem dX12_isPlace_19 : decode cX12_isPlace 19 = .ok (.if_icmp .ne 7, 3) := getB' kX12_isPlace_0 11 rfl
def LX12_isPlace_1 : List (Nat × Instr × Nat) := [(22, .iconst 1, 1), (23, .goto 4, 3), (26, .iconst 0, 1), (27, .ireturn, 1)]
theorem kX12_isPlace_1 : chkB cX12_isPlace LX12_isPlace_1 = true := by decide +kernel
theorem dX12_isPlace_22 : decode cX12_isPlace 22 = .ok (.iconst 1, 1) := getB' kX12_isPlace_1 0 rfl
theorem dX12_isPlace_23 : decode cX12_isPlace 23 = .ok (.goto 4, 3) := getB' kX12_isPlace_1 1 rfl
theorem dX12_isPlace_26 : decode cX12_isPlace 26 = .ok (.iconst 0, 1) := getB' kX12_isPlace_1 2 rfl
theorem dX12_isPlace_27 : decode cX12_isPlace 27 = .ok (.ireturn, 1) := getB' kX12_isPlace_1 3 rfl
def LX12_isStation : List (Nat × Instr × Nat) := [(0, .aload_n 0, 1), (1, .iload_n 1, 1), (2, .iconst 1, 1), (3, .invokevirtual 399, 3), (6, .ireturn, 1)]
theorem kX12_isStation : chkB cX12_isStation LX12_isStation = true := by decide +kernel
theorem dX12_isStation_0 : decode cX12_isStation 0 = .ok (.aload_n 0, 1) := getB' kX12_isStation 0 rfl
theorem dX12_isStation_1 : decode cX12_isStation 1 = .ok (.iload_n 1, 1) := getB' kX12_isStation 1 rfl
theorem dX12_isStation_2 : decode cX12_isStation 2 = .ok (.iconst 1, 1) := getB' kX12_isStation 2 rfl
theorem dX12_isStation_3 : decode cX12_isStation 3 = .ok (.invokevirtual 399, 3) := getB' kX12_isStation 3 rfl
theorem dX12_isStation_6 : decode cX12_isStation 6 = .ok (.ireturn, 1) := getB' kX12_isStation 4 rfl
def LX12_stands_0 : List (Nat × Instr × Nat) := [(0, .aload_n 0, 1), (1, .iload_n 1, 1), (2, .invokevirtual 403, 3), (5, .ifCond .eq 16, 3), (8, .aload_n 0, 1), (9, .getfield 80, 3), (12, .iload_n 1, 1), (13, .baload, 1), (14, .ifCond .ne 7, 3), (17, .iconst 1, 1), (18, .goto 4, 3), (21, .iconst 0, 1)]
theorem kX12_stands_0 : chkB cX12_stands LX12_stands_0 = true := by decide +kernel
theorem dX12_stands_0 : decode cX12_stands 0 = .ok (.aload_n 0, 1) := getB' kX12_stands_0 0 rfl
theorem dX12_stands_1 : decode cX12_stands 1 = .ok (.iload_n 1, 1) := getB' kX12_stands_0 1 rfl
theorem dX12_stands_2 : decode cX12_stands 2 = .ok (.invokevirtual 403, 3) := getB' kX12_stands_0 2 rfl
theorem dX12_stands_5 : decode cX12_stands 5 = .ok (.ifCond .eq 16, 3) := getB' kX12_stands_0 3 rfl
theorem dX12_stands_8 : decode cX12_stands 8 = .ok (.aload_n 0, 1) := getB' kX12_stands_0 4 rfl
theorem dX12_stands_9 : decode cX12_stands 9 = .ok (.getfield 80, 3) := getB' kX12_stands_0 5 rfl
theorem dX12_stands_12 : decode cX12_stands 12 = .ok (.iload_n 1, 1) := getB' kX12_stands_0 6 rfl
theorem dX12_stands_13 : decode cX12_stands 13 = .ok (.baload, 1) := getB' kX12_stands_0 7 rfl
theorem dX12_stands_14 : decode cX12_stands 14 = .ok (.ifCond .ne 7, 3) := getB' kX12_stands_0 8 rfl
theorem dX12_stands_17 : decode cX12_stands 17 = .ok (.iconst 1, 1) := getB' kX12_stands_0 9 rfl
theorem dX12_stands_18 : decode cX12_stands 18 = .ok (.goto 4, 3) := getB' kX12_stands_0 10 rfl
theorem dX12_stands_21 : decode cX12_stands 21 = .ok (.iconst 0, 1) := getB' kX12_stands_0 11 rfl
def LX12_stands_1 : List (Nat × Instr × Nat) := [(22, .ireturn, 1)]
theorem kX12_stands_1 : chkB cX12_stands LX12_stands_1 = true := by decide +kernel
theorem dX12_stands_22 : decode cX12_stands 22 = .ok (.ireturn, 1) := getB' kX12_stands_1 0 rfl
def LX12_decidesOn_0 : List (Nat × Instr × Nat) := [(0, .aload_n 0, 1), (1, .getfield 29, 3), (4, .iload_n 1, 1), (5, .iaload, 1), (6, .iconst (-1), 1), (7, .if_icmp .eq 17, 3), (10, .aload_n 0, 1), (11, .getfield 29, 3), (14, .iload_n 1, 1), (15, .iaload, 1), (16, .iload_n 2, 1), (17, .if_icmp .gt 7, 3)]
theorem kX12_decidesOn_0 : chkB cX12_decidesOn LX12_decidesOn_0 = true := by decide +kernel
theorem dX12_decidesOn_0 : decode cX12_decidesOn 0 = .ok (.aload_n 0, 1) := getB' kX12_decidesOn_0 0 rfl
theorem dX12_decidesOn_1 : decode cX12_decidesOn 1 = .ok (.getfield 29, 3) := getB' kX12_decidesOn_0 1 rfl
theorem dX12_decidesOn_4 : decode cX12_decidesOn 4 = .ok (.iload_n 1, 1) := getB' kX12_decidesOn_0 2 rfl
theorem dX12_decidesOn_5 : decode cX12_decidesOn 5 = .ok (.iaload, 1) := getB' kX12_decidesOn_0 3 rfl
theorem dX12_decidesOn_6 : decode cX12_decidesOn 6 = .ok (.iconst (-1), 1) := getB' kX12_decidesOn_0 4 rfl
theorem dX12_decidesOn_7 : decode cX12_decidesOn 7 = .ok (.if_icmp .eq 17, 3) := getB' kX12_decidesOn_0 5 rfl
theorem dX12_decidesOn_10 : decode cX12_decidesOn 10 = .ok (.aload_n 0, 1) := getB' kX12_decidesOn_0 6 rfl
theorem dX12_decidesOn_11 : decode cX12_decidesOn 11 = .ok (.getfield 29, 3) := getB' kX12_decidesOn_0 7 rfl
theorem dX12_decidesOn_14 : decode cX12_decidesOn 14 = .ok (.iload_n 1, 1) := getB' kX12_decidesOn_0 8 rfl
theorem dX12_decidesOn_15 : decode cX12_decidesOn 15 = .ok (.iaload, 1) := getB' kX12_decidesOn_0 9 rfl
theorem dX12_decidesOn_16 : decode cX12_decidesOn 16 = .ok (.iload_n 2, 1) := getB' kX12_decidesOn_0 10 rfl
theorem dX12_decidesOn_17 : decode cX12_decidesOn 17 = .ok (.if_icmp .gt 7, 3) := getB' kX12_decidesOn_0 11 rfl
def LX12_decidesOn_1 : List (Nat × Instr × Nat) := [(20, .iconst 1, 1), (21, .goto 4, 3), (24, .iconst 0, 1), (25, .ireturn, 1)]
theorem kX12_decidesOn_1 : chkB cX12_decidesOn LX12_decidesOn_1 = true := by decide +kernel
theorem dX12_decidesOn_20 : decode cX12_decidesOn 20 = .ok (.iconst 1, 1) := getB' kX12_decidesOn_1 0 rfl
theorem dX12_decidesOn_21 : decode cX12_decidesOn 21 = .ok (.goto 4, 3) := getB' kX12_decidesOn_1 1 rfl
theorem dX12_decidesOn_24 : decode cX12_decidesOn 24 = .ok (.iconst 0, 1) := getB' kX12_decidesOn_1 2 rfl
theorem dX12_decidesOn_25 : decode cX12_decidesOn 25 = .ok (.ireturn, 1) := getB' kX12_decidesOn_1 3 rfl
def LX12_decides_0 : List (Nat × Instr × Nat) := [(0, .aload_n 0, 1), (1, .iload_n 1, 1), (2, .invokevirtual 406, 3), (5, .ifCond .eq 10, 3), (8, .iload_n 2, 1), (9, .invokestatic 409, 3), (12, .ifCond .ne 5, 3), (15, .iconst (-1), 1), (16, .ireturn, 1), (17, .aload_n 0, 1), (18, .iload_n 1, 1), (19, .iload_n 2, 1)]
theorem kX12_decides_0 : chkB cX12_decides LX12_decides_0 = true := by decide +kernel
theorem dX12_decides_0 : decode cX12_decides 0 = .ok (.aload_n 0, 1) := getB' kX12_decides_0 0 rfl
theorem dX12_decides_1 : decode cX12_decides 1 = .ok (.iload_n 1, 1) := getB' kX12_decides_0 1 rfl
theorem dX12_decides_2 : decode cX12_decides 2 = .ok (.invokevirtual 406, 3) := getB' kX12_decides_0 2 rfl
theorem dX12_decides_5 : decode cX12_decides 5 = .ok (.ifCond .eq 10, 3) := getB' kX12_decides_0 3 rfl
theorem dX12_decides_8 : decode cX12_decides 8 = .ok (.iload_n 2, 1) := getB' kX12_decides_0 4 rfl
theorem dX12_decides_9 : decode cX12_decides 9 = .ok (.invokestatic 409, 3) := getB' kX12_decides_0 5 rfl
theorem dX12_decides_12 : decode cX12_decides 12 = .ok (.ifCond .ne 5, 3) := getB' kX12_decides_0 6 rfl
theorem dX12_decides_15 : decode cX12_decides 15 = .ok (.iconst (-1), 1) := getB' kX12_decides_0 7 rfl
theorem dX12_decides_16 : decode cX12_decides 16 = .ok (.ireturn, 1) := getB' kX12_decides_0 8 rfl
theorem dX12_decides_17 : decode cX12_decides 17 = .ok (.aload_n 0, 1) := getB' kX12_decides_0 9 rfl
theorem dX12_decides_18 : decode cX12_decides 18 = .ok (.iload_n 1, 1) := getB' kX12_decides_0 10 rfl
theorem dX12_decides_19 : decode cX12_decides 19 = .ok (.iload_n 2, 1) := getB' kX12_decides_0 11 rfl
def LX12_decides_1 : List (Nat × Instr × Nat) := [(20, .invokevirtual 412, 3), (23, .ifCond .eq 7, 3), (26, .iconst 1, 1), (27, .goto 4, 3), (30, .iconst 0, 1), (31, .ireturn, 1)]
theorem kX12_decides_1 : chkB cX12_decides LX12_decides_1 = true := by decide +kernel
theorem dX12_decides_20 : decode cX12_decides 20 = .ok (.invokevirtual 412, 3) := getB' kX12_decides_1 0 rfl
theorem dX12_decides_23 : decode cX12_decides 23 = .ok (.ifCond .eq 7, 3) := getB' kX12_decides_1 1 rfl
theorem dX12_decides_26 : decode cX12_decides 26 = .ok (.iconst 1, 1) := getB' kX12_decides_1 2 rfl
theorem dX12_decides_27 : decode cX12_decides 27 = .ok (.goto 4, 3) := getB' kX12_decides_1 3 rfl
theorem dX12_decides_30 : decode cX12_decides 30 = .ok (.iconst 0, 1) := getB' kX12_decides_1 4 rfl
theorem dX12_decides_31 : decode cX12_decides 31 = .ok (.ireturn, 1) := getB' kX12_decides_1 5 rfl
def LX12_place_0 : List (Nat × Instr × Nat) := [(0, .aload_n 0, 1), (1, .getfield 35, 3), (4, .aload_n 0, 1), (5, .getfield 375, 3), (8, .iload_n 1, 1), (9, .iastore, 1), (10, .aload_n 0, 1), (11, .getfield 38, 3), (14, .aload_n 0, 1), (15, .getfield 375, 3), (18, .iload_n 2, 1), (19, .iastore, 1)]
theorem kX12_place_0 : chkB cX12_place LX12_place_0 = true := by decide +kernel
theorem dX12_place_0 : decode cX12_place 0 = .ok (.aload_n 0, 1) := getB' kX12_place_0 0 rfl
theorem dX12_place_1 : decode cX12_place 1 = .ok (.getfield 35, 3) := getB' kX12_place_0 1 rfl
theorem dX12_place_4 : decode cX12_place 4 = .ok (.aload_n 0, 1) := getB' kX12_place_0 2 rfl
theorem dX12_place_5 : decode cX12_place 5 = .ok (.getfield 375, 3) := getB' kX12_place_0 3 rfl
theorem dX12_place_8 : decode cX12_place 8 = .ok (.iload_n 1, 1) := getB' kX12_place_0 4 rfl
theorem dX12_place_9 : decode cX12_place 9 = .ok (.iastore, 1) := getB' kX12_place_0 5 rfl
theorem dX12_place_10 : decode cX12_place 10 = .ok (.aload_n 0, 1) := getB' kX12_place_0 6 rfl
theorem dX12_place_11 : decode cX12_place 11 = .ok (.getfield 38, 3) := getB' kX12_place_0 7 rfl
theorem dX12_place_14 : decode cX12_place 14 = .ok (.aload_n 0, 1) := getB' kX12_place_0 8 rfl
theorem dX12_place_15 : decode cX12_place 15 = .ok (.getfield 375, 3) := getB' kX12_place_0 9 rfl
theorem dX12_place_18 : decode cX12_place 18 = .ok (.iload_n 2, 1) := getB' kX12_place_0 10 rfl
theorem dX12_place_19 : decode cX12_place 19 = .ok (.iastore, 1) := getB' kX12_place_0 11 rfl
def LX12_place_1 : List (Nat × Instr × Nat) := [(20, .aload_n 0, 1), (21, .getfield 41, 3), (24, .aload_n 0, 1), (25, .getfield 375, 3), (28, .iload_n 3, 1), (29, .iastore, 1), (30, .aload_n 0, 1), (31, .getfield 44, 3), (34, .aload_n 0, 1), (35, .getfield 375, 3), (38, .iload 4, 2), (40, .iastore, 1)]
theorem kX12_place_1 : chkB cX12_place LX12_place_1 = true := by decide +kernel
theorem dX12_place_20 : decode cX12_place 20 = .ok (.aload_n 0, 1) := getB' kX12_place_1 0 rfl
theorem dX12_place_21 : decode cX12_place 21 = .ok (.getfield 41, 3) := getB' kX12_place_1 1 rfl
theorem dX12_place_24 : decode cX12_place 24 = .ok (.aload_n 0, 1) := getB' kX12_place_1 2 rfl
theorem dX12_place_25 : decode cX12_place 25 = .ok (.getfield 375, 3) := getB' kX12_place_1 3 rfl
theorem dX12_place_28 : decode cX12_place 28 = .ok (.iload_n 3, 1) := getB' kX12_place_1 4 rfl
theorem dX12_place_29 : decode cX12_place 29 = .ok (.iastore, 1) := getB' kX12_place_1 5 rfl
theorem dX12_place_30 : decode cX12_place 30 = .ok (.aload_n 0, 1) := getB' kX12_place_1 6 rfl
theorem dX12_place_31 : decode cX12_place 31 = .ok (.getfield 44, 3) := getB' kX12_place_1 7 rfl
theorem dX12_place_34 : decode cX12_place 34 = .ok (.aload_n 0, 1) := getB' kX12_place_1 8 rfl
theorem dX12_place_35 : decode cX12_place 35 = .ok (.getfield 375, 3) := getB' kX12_place_1 9 rfl
theorem dX12_place_38 : decode cX12_place 38 = .ok (.iload 4, 2) := getB' kX12_place_1 10 rfl
theorem dX12_place_40 : decode cX12_place 40 = .ok (.iastore, 1) := getB' kX12_place_1 11 rfl
def LX12_place_2 : List (Nat × Instr × Nat) := [(41, .aload_n 0, 1), (42, .getfield 47, 3), (45, .aload_n 0, 1), (46, .getfield 375, 3), (49, .iload 5, 2), (51, .iastore, 1), (52, .aload_n 0, 1), (53, .getfield 50, 3), (56, .aload_n 0, 1), (57, .getfield 375, 3), (60, .aload_n 0, 1), (61, .getfield 396, 3)]
theorem kX12_place_2 : chkB cX12_place LX12_place_2 = true := by decide +kernel
theorem dX12_place_41 : decode cX12_place 41 = .ok (.aload_n 0, 1) := getB' kX12_place_2 0 rfl
theorem dX12_place_42 : decode cX12_place 42 = .ok (.getfield 47, 3) := getB' kX12_place_2 1 rfl
theorem dX12_place_45 : decode cX12_place 45 = .ok (.aload_n 0, 1) := getB' kX12_place_2 2 rfl
theorem dX12_place_46 : decode cX12_place 46 = .ok (.getfield 375, 3) := getB' kX12_place_2 3 rfl
theorem dX12_place_49 : decode cX12_place 49 = .ok (.iload 5, 2) := getB' kX12_place_2 4 rfl
theorem dX12_place_51 : decode cX12_place 51 = .ok (.iastore, 1) := getB' kX12_place_2 5 rfl
theorem dX12_place_52 : decode cX12_place 52 = .ok (.aload_n 0, 1) := getB' kX12_place_2 6 rfl
theorem dX12_place_53 : decode cX12_place 53 = .ok (.getfield 50, 3) := getB' kX12_place_2 7 rfl
theorem dX12_place_56 : decode cX12_place 56 = .ok (.aload_n 0, 1) := getB' kX12_place_2 8 rfl
theorem dX12_place_57 : decode cX12_place 57 = .ok (.getfield 375, 3) := getB' kX12_place_2 9 rfl
theorem dX12_place_60 : decode cX12_place 60 = .ok (.aload_n 0, 1) := getB' kX12_place_2 10 rfl
theorem dX12_place_61 : decode cX12_place 61 = .ok (.getfield 396, 3) := getB' kX12_place_2 11 rfl
def LX12_place_3 : List (Nat × Instr × Nat) := [(64, .iastore, 1), (65, .aload_n 0, 1), (66, .aload_n 0, 1), (67, .getfield 375, 3), (70, .iconst 1, 1), (71, .iadd, 1), (72, .putfield 375, 3), (75, .aload_n 0, 1), (76, .getfield 375, 3), (79, .iconst 1, 1), (80, .isub, 1), (81, .ireturn, 1)]
theorem kX12_place_3 : chkB cX12_place LX12_place_3 = true := by decide +kernel
theorem dX12_place_64 : decode cX12_place 64 = .ok (.iastore, 1) := getB' kX12_place_3 0 rfl
theorem dX12_place_65 : decode cX12_place 65 = .ok (.aload_n 0, 1) := getB' kX12_place_3 1 rfl
theorem dX12_place_66 : decode cX12_place 66 = .ok (.aload_n 0, 1) := getB' kX12_place_3 2 rfl
theorem dX12_place_67 : decode cX12_place 67 = .ok (.getfield 375, 3) := getB' kX12_place_3 3 rfl
theorem dX12_place_70 : decode cX12_place 70 = .ok (.iconst 1, 1) := getB' kX12_place_3 4 rfl
theorem dX12_place_71 : decode cX12_place 71 = .ok (.iadd, 1) := getB' kX12_place_3 5 rfl
theorem dX12_place_72 : decode cX12_place 72 = .ok (.putfield 375, 3) := getB' kX12_place_3 6 rfl
theorem dX12_place_75 : decode cX12_place 75 = .ok (.aload_n 0, 1) := getB' kX12_place_3 7 rfl
theorem dX12_place_76 : decode cX12_place 76 = .ok (.getfield 375, 3) := getB' kX12_place_3 8 rfl
theorem dX12_place_79 : decode cX12_place 79 = .ok (.iconst 1, 1) := getB' kX12_place_3 9 rfl
theorem dX12_place_80 : decode cX12_place 80 = .ok (.isub, 1) := getB' kX12_place_3 10 rfl
theorem dX12_place_81 : decode cX12_place 81 = .ok (.ireturn, 1) := getB' kX12_place_3 11 rfl
def LX12_isRectangle_0 : List (Nat × Instr × Nat) := [(0, .aload_n 0, 1), (1, .iload_n 1, 1), (2, .invokevirtual 381, 3), (5, .ifCond .eq 45, 3), (8, .aload_n 0, 1), (9, .iload_n 2, 1), (10, .invokevirtual 381, 3), (13, .ifCond .eq 37, 3), (16, .iload_n 1, 1), (17, .aload_n 0, 1), (18, .getfield 365, 3), (21, .irem, 1)]
theorem kX12_isRectangle_0 : chkB cX12_isRectangle LX12_isRectangle_0 = true := by decide +kernel
theorem dX12_isRectangle_0 : decode cX12_isRectangle 0 = .ok (.aload_n 0, 1) := getB' kX12_isRectangle_0 0 rfl
theorem dX12_isRectangle_1 : decode cX12_isRectangle 1 = .ok (.iload_n 1, 1) := getB' kX12_isRectangle_0 1 rfl
theorem dX12_isRectangle_2 : decode cX12_isRectangle 2 = .ok (.invokevirtual 381, 3) := getB' kX12_isRectangle_0 2 rfl
theorem dX12_isRectangle_5 : decode cX12_isRectangle 5 = .ok (.ifCond .eq 45, 3) := getB' kX12_isRectangle_0 3 rfl
theorem dX12_isRectangle_8 : decode cX12_isRectangle 8 = .ok (.aload_n 0, 1) := getB' kX12_isRectangle_0 4 rfl
theorem dX12_isRectangle_9 : decode cX12_isRectangle 9 = .ok (.iload_n 2, 1) := getB' kX12_isRectangle_0 5 rfl
theorem dX12_isRectangle_10 : decode cX12_isRectangle 10 = .ok (.invokevirtual 381, 3) := getB' kX12_isRectangle_0 6 rfl
theorem dX12_isRectangle_13 : decode cX12_isRectangle 13 = .ok (.ifCond .eq 37, 3) := getB' kX12_isRectangle_0 7 rfl
theorem dX12_isRectangle_16 : decode cX12_isRectangle 16 = .ok (.iload_n 1, 1) := getB' kX12_isRectangle_0 8 rfl
theorem dX12_isRectangle_17 : decode cX12_isRectangle 17 = .ok (.aload_n 0, 1) := getB' kX12_isRectangle_0 9 rfl
theorem dX12_isRectangle_18 : decode cX12_isRectangle 18 = .ok (.getfield 365, 3) := getB' kX12_isRectangle_0 10 rfl
theorem dX12_isRectangle_21 : decode cX12_isRectangle 21 = .ok (.irem, 1) := getB' kX12_isRectangle_0 11 rfl
def LX12_isRectangle_1 : List (Nat × Instr × Nat) := [(22, .iload_n 2, 1), (23, .aload_n 0, 1), (24, .getfield 365, 3), (27, .irem, 1), (28, .if_icmp .gt 22, 3), (31, .iload_n 1, 1), (32, .aload_n 0, 1), (33, .getfield 365, 3), (36, .idiv, 1), (37, .iload_n 2, 1), (38, .aload_n 0, 1), (39, .getfield 365, 3)]
theorem kX12_isRectangle_1 : chkB cX12_isRectangle LX12_isRectangle_1 = true := by decide +kernel
theorem dX12_isRectangle_22 : decode cX12_isRectangle 22 = .ok (.iload_n 2, 1) := getB' kX12_isRectangle_1 0 rfl
theorem dX12_isRectangle_23 : decode cX12_isRectangle 23 = .ok (.aload_n 0, 1) := getB' kX12_isRectangle_1 1 rfl
theorem dX12_isRectangle_24 : decode cX12_isRectangle 24 = .ok (.getfield 365, 3) := getB' kX12_isRectangle_1 2 rfl
theorem dX12_isRectangle_27 : decode cX12_isRectangle 27 = .ok (.irem, 1) := getB' kX12_isRectangle_1 3 rfl
theorem dX12_isRectangle_28 : decode cX12_isRectangle 28 = .ok (.if_icmp .gt 22, 3) := getB' kX12_isRectangle_1 4 rfl
theorem dX12_isRectangle_31 : decode cX12_isRectangle 31 = .ok (.iload_n 1, 1) := getB' kX12_isRectangle_1 5 rfl
theorem dX12_isRectangle_32 : decode cX12_isRectangle 32 = .ok (.aload_n 0, 1) := getB' kX12_isRectangle_1 6 rfl
theorem dX12_isRectangle_33 : decode cX12_isRectangle 33 = .ok (.getfield 365, 3) := getB' kX12_isRectangle_1 7 rfl
theorem dX12_isRectangle_36 : decode cX12_isRectangle 36 = .ok (.idiv, 1) := getB' kX12_isRectangle_1 8 rfl
theorem dX12_isRectangle_37 : decode cX12_isRectangle 37 = .ok (.iload_n 2, 1) := getB' kX12_isRectangle_1 9 rfl
theorem dX12_isRectangle_38 : decode cX12_isRectangle 38 = .ok (.aload_n 0, 1) := getB' kX12_isRectangle_1 10 rfl
theorem dX12_isRectangle_39 : decode cX12_isRectangle 39 = .ok (.getfield 365, 3) := getB' kX12_isRectangle_1 11 rfl
def LX12_isRectangle_2 : List (Nat × Instr × Nat) := [(42, .idiv, 1), (43, .if_icmp .gt 7, 3), (46, .iconst 1, 1), (47, .goto 4, 3), (50, .iconst 0, 1), (51, .ireturn, 1)]
theorem kX12_isRectangle_2 : chkB cX12_isRectangle LX12_isRectangle_2 = true := by decide +kernel
theorem dX12_isRectangle_42 : decode cX12_isRectangle 42 = .ok (.idiv, 1) := getB' kX12_isRectangle_2 0 rfl
theorem dX12_isRectangle_43 : decode cX12_isRectangle 43 = .ok (.if_icmp .gt 7, 3) := getB' kX12_isRectangle_2 1 rfl
theorem dX12_isRectangle_46 : decode cX12_isRectangle 46 = .ok (.iconst 1, 1) := getB' kX12_isRectangle_2 2 rfl
theorem dX12_isRectangle_47 : decode cX12_isRectangle 47 = .ok (.goto 4, 3) := getB' kX12_isRectangle_2 3 rfl
theorem dX12_isRectangle_50 : decode cX12_isRectangle 50 = .ok (.iconst 0, 1) := getB' kX12_isRectangle_2 4 rfl
theorem dX12_isRectangle_51 : decode cX12_isRectangle 51 = .ok (.ireturn, 1) := getB' kX12_isRectangle_2 5 rfl
def LX12_isIn_0 : List (Nat × Instr × Nat) := [(0, .iload_n 1, 1), (1, .aload_n 0, 1), (2, .getfield 365, 3), (5, .irem, 1), (6, .aload_n 0, 1), (7, .getfield 41, 3), (10, .iload_n 2, 1), (11, .iaload, 1), (12, .aload_n 0, 1), (13, .getfield 365, 3), (16, .irem, 1), (17, .aload_n 0, 1)]
theorem kX12_isIn_0 : chkB cX12_isIn LX12_isIn_0 = true := by decide +kernel
theorem dX12_isIn_0 : decode cX12_isIn 0 = .ok (.iload_n 1, 1) := getB' kX12_isIn_0 0 rfl
theorem dX12_isIn_1 : decode cX12_isIn 1 = .ok (.aload_n 0, 1) := getB' kX12_isIn_0 1 rfl
theorem dX12_isIn_2 : decode cX12_isIn 2 = .ok (.getfield 365, 3) := getB' kX12_isIn_0 2 rfl
theorem dX12_isIn_5 : decode cX12_isIn 5 = .ok (.irem, 1) := getB' kX12_isIn_0 3 rfl
theorem dX12_isIn_6 : decode cX12_isIn 6 = .ok (.aload_n 0, 1) := getB' kX12_isIn_0 4 rfl
theorem dX12_isIn_7 : decode cX12_isIn 7 = .ok (.getfield 41, 3) := getB' kX12_isIn_0 5 rfl
theorem dX12_isIn_10 : decode cX12_isIn 10 = .ok (.iload_n 2, 1) := getB' kX12_isIn_0 6 rfl
theorem dX12_isIn_11 : decode cX12_isIn 11 = .ok (.iaload, 1) := getB' kX12_isIn_0 7 rfl
theorem dX12_isIn_12 : decode cX12_isIn 12 = .ok (.aload_n 0, 1) := getB' kX12_isIn_0 8 rfl
theorem dX12_isIn_13 : decode cX12_isIn 13 = .ok (.getfield 365, 3) := getB' kX12_isIn_0 9 rfl
theorem dX12_isIn_16 : decode cX12_isIn 16 = .ok (.irem, 1) := getB' kX12_isIn_0 10 rfl
theorem dX12_isIn_17 : decode cX12_isIn 17 = .ok (.aload_n 0, 1) := getB' kX12_isIn_0 11 rfl
def LX12_isIn_1 : List (Nat × Instr × Nat) := [(18, .getfield 44, 3), (21, .iload_n 2, 1), (22, .iaload, 1), (23, .aload_n 0, 1), (24, .getfield 365, 3), (27, .irem, 1), (28, .invokestatic 371, 3), (31, .ifCond .eq 41, 3), (34, .iload_n 1, 1), (35, .aload_n 0, 1), (36, .getfield 365, 3), (39, .idiv, 1)]
theorem kX12_isIn_1 : chkB cX12_isIn LX12_isIn_1 = true := by decide +kernel
theorem dX12_isIn_18 : decode cX12_isIn 18 = .ok (.getfield 44, 3) := getB' kX12_isIn_1 0 rfl
theorem dX12_isIn_21 : decode cX12_isIn 21 = .ok (.iload_n 2, 1) := getB' kX12_isIn_1 1 rfl
theorem dX12_isIn_22 : decode cX12_isIn 22 = .ok (.iaload, 1) := getB' kX12_isIn_1 2 rfl
theorem dX12_isIn_23 : decode cX12_isIn 23 = .ok (.aload_n 0, 1) := getB' kX12_isIn_1 3 rfl
theorem dX12_isIn_24 : decode cX12_isIn 24 = .ok (.getfield 365, 3) := getB' kX12_isIn_1 4 rfl
theorem dX12_isIn_27 : decode cX12_isIn 27 = .ok (.irem, 1) := getB' kX12_isIn_1 5 rfl
theorem dX12_isIn_28 : decode cX12_isIn 28 = .ok (.invokestatic 371, 3) := getB' kX12_isIn_1 6 rfl
theorem dX12_isIn_31 : decode cX12_isIn 31 = .ok (.ifCond .eq 41, 3) := getB' kX12_isIn_1 7 rfl
theorem dX12_isIn_34 : decode cX12_isIn 34 = .ok (.iload_n 1, 1) := getB' kX12_isIn_1 8 rfl
theorem dX12_isIn_35 : decode cX12_isIn 35 = .ok (.aload_n 0, 1) := getB' kX12_isIn_1 9 rfl
theorem dX12_isIn_36 : decode cX12_isIn 36 = .ok (.getfield 365, 3) := getB' kX12_isIn_1 10 rfl
theorem dX12_isIn_39 : decode cX12_isIn 39 = .ok (.idiv, 1) := getB' kX12_isIn_1 11 rfl
def LX12_isIn_2 : List (Nat × Instr × Nat) := [(40, .aload_n 0, 1), (41, .getfield 41, 3), (44, .iload_n 2, 1), (45, .iaload, 1), (46, .aload_n 0, 1), (47, .getfield 365, 3), (50, .idiv, 1), (51, .aload_n 0, 1), (52, .getfield 44, 3), (55, .iload_n 2, 1), (56, .iaload, 1), (57, .aload_n 0, 1)]
theorem kX12_isIn_2 : chkB cX12_isIn LX12_isIn_2 = true := by decide +kernel
theorem dX12_isIn_40 : decode cX12_isIn 40 = .ok (.aload_n 0, 1) := getB' kX12_isIn_2 0 rfl
theorem dX12_isIn_41 : decode cX12_isIn 41 = .ok (.getfield 41, 3) := getB' kX12_isIn_2 1 rfl
theorem dX12_isIn_44 : decode cX12_isIn 44 = .ok (.iload_n 2, 1) := getB' kX12_isIn_2 2 rfl
theorem dX12_isIn_45 : decode cX12_isIn 45 = .ok (.iaload, 1) := getB' kX12_isIn_2 3 rfl
theorem dX12_isIn_46 : decode cX12_isIn 46 = .ok (.aload_n 0, 1) := getB' kX12_isIn_2 4 rfl
theorem dX12_isIn_47 : decode cX12_isIn 47 = .ok (.getfield 365, 3) := getB' kX12_isIn_2 5 rfl
theorem dX12_isIn_50 : decode cX12_isIn 50 = .ok (.idiv, 1) := getB' kX12_isIn_2 6 rfl
theorem dX12_isIn_51 : decode cX12_isIn 51 = .ok (.aload_n 0, 1) := getB' kX12_isIn_2 7 rfl
theorem dX12_isIn_52 : decode cX12_isIn 52 = .ok (.getfield 44, 3) := getB' kX12_isIn_2 8 rfl
theorem dX12_isIn_55 : decode cX12_isIn 55 = .ok (.iload_n 2, 1) := getB' kX12_isIn_2 9 rfl
theorem dX12_isIn_56 : decode cX12_isIn 56 = .ok (.iaload, 1) := getB' kX12_isIn_2 10 rfl
theorem dX12_isIn_57 : decode cX12_isIn 57 = .ok (.aload_n 0, 1) := getB' kX12_isIn_2 11 rfl
def LX12_isIn_3 : List (Nat × Instr × Nat) := [(58, .getfield 365, 3), (61, .idiv, 1), (62, .invokestatic 371, 3), (65, .ifCond .eq 7, 3), (68, .iconst 1, 1), (69, .goto 4, 3), (72, .iconst 0, 1), (73, .ireturn, 1)]
theorem kX12_isIn_3 : chkB cX12_isIn LX12_isIn_3 = true := by decide +kernel
theorem dX12_isIn_58 : decode cX12_isIn 58 = .ok (.getfield 365, 3) := getB' kX12_isIn_3 0 rfl
theorem dX12_isIn_61 : decode cX12_isIn 61 = .ok (.idiv, 1) := getB' kX12_isIn_3 1 rfl
theorem dX12_isIn_62 : decode cX12_isIn 62 = .ok (.invokestatic 371, 3) := getB' kX12_isIn_3 2 rfl
theorem dX12_isIn_65 : decode cX12_isIn 65 = .ok (.ifCond .eq 7, 3) := getB' kX12_isIn_3 3 rfl
theorem dX12_isIn_68 : decode cX12_isIn 68 = .ok (.iconst 1, 1) := getB' kX12_isIn_3 4 rfl
theorem dX12_isIn_69 : decode cX12_isIn 69 = .ok (.goto 4, 3) := getB' kX12_isIn_3 5 rfl
theorem dX12_isIn_72 : decode cX12_isIn 72 = .ok (.iconst 0, 1) := getB' kX12_isIn_3 6 rfl
theorem dX12_isIn_73 : decode cX12_isIn 73 = .ok (.ireturn, 1) := getB' kX12_isIn_3 7 rfl
def LX12_claim_0 : List (Nat × Instr × Nat) := [(0, .aload_n 0, 1), (1, .iload_n 1, 1), (2, .invokevirtual 406, 3), (5, .ifCond .eq 45, 3), (8, .aload_n 0, 1), (9, .iload_n 2, 1), (10, .iload_n 3, 1), (11, .invokevirtual 415, 3), (14, .ifCond .eq 36, 3), (17, .iload 4, 2), (19, .iconst 0, 1), (20, .sipush 999, 3)]
theorem kX12_claim_0 : chkB cX12_claim LX12_claim_0 = true := by decide +kernel
theorem dX12_claim_0 : decode cX12_claim 0 = .ok (.aload_n 0, 1) := getB' kX12_claim_0 0 rfl
theorem dX12_claim_1 : decode cX12_claim 1 = .ok (.iload_n 1, 1) := getB' kX12_claim_0 1 rfl
theorem dX12_claim_2 : decode cX12_claim 2 = .ok (.invokevirtual 406, 3) := getB' kX12_claim_0 2 rfl
theorem dX12_claim_5 : decode cX12_claim 5 = .ok (.ifCond .eq 45, 3) := getB' kX12_claim_0 3 rfl
theorem dX12_claim_8 : decode cX12_claim 8 = .ok (.aload_n 0, 1) := getB' kX12_claim_0 4 rfl
theorem dX12_claim_9 : decode cX12_claim 9 = .ok (.iload_n 2, 1) := getB' kX12_claim_0 5 rfl
theorem dX12_claim_10 : decode cX12_claim 10 = .ok (.iload_n 3, 1) := getB' kX12_claim_0 6 rfl
theorem dX12_claim_11 : decode cX12_claim 11 = .ok (.invokevirtual 415, 3) := getB' kX12_claim_0 7 rfl
theorem dX12_claim_14 : decode cX12_claim 14 = .ok (.ifCond .eq 36, 3) := getB' kX12_claim_0 8 rfl
theorem dX12_claim_17 : decode cX12_claim 17 = .ok (.iload 4, 2) := getB' kX12_claim_0 9 rfl
theorem dX12_claim_19 : decode cX12_claim 19 = .ok (.iconst 0, 1) := getB' kX12_claim_0 10 rfl
theorem dX12_claim_20 : decode cX12_claim 20 = .ok (.sipush 999, 3) := getB' kX12_claim_0 11 rfl
def LX12_claim_1 : List (Nat × Instr × Nat) := [(23, .invokestatic 371, 3), (26, .ifCond .eq 24, 3), (29, .aload_n 0, 1), (30, .getfield 375, 3), (33, .bipush 60, 2), (35, .if_icmp .eq 15, 3), (38, .aload_n 0, 1), (39, .iload_n 1, 1), (40, .aload_n 0, 1), (41, .getfield 396, 3), (44, .invokevirtual 418, 3), (47, .ifCond .eq 5, 3)]
theorem kX12_claim_1 : chkB cX12_claim LX12_claim_1 = true := by decide +kernel
theorem dX12_claim_23 : decode cX12_claim 23 = .ok (.invokestatic 371, 3) := getB' kX12_claim_1 0 rfl
theorem dX12_claim_26 : decode cX12_claim 26 = .ok (.ifCond .eq 24, 3) := getB' kX12_claim_1 1 rfl
theorem dX12_claim_29 : decode cX12_claim 29 = .ok (.aload_n 0, 1) := getB' kX12_claim_1 2 rfl
theorem dX12_claim_30 : decode cX12_claim 30 = .ok (.getfield 375, 3) := getB' kX12_claim_1 3 rfl
theorem dX12_claim_33 : decode cX12_claim 33 = .ok (.bipush 60, 2) := getB' kX12_claim_1 4 rfl
theorem dX12_claim_35 : decode cX12_claim 35 = .ok (.if_icmp .eq 15, 3) := getB' kX12_claim_1 5 rfl
theorem dX12_claim_38 : decode cX12_claim 38 = .ok (.aload_n 0, 1) := getB' kX12_claim_1 6 rfl
theorem dX12_claim_39 : decode cX12_claim 39 = .ok (.iload_n 1, 1) := getB' kX12_claim_1 7 rfl
theorem dX12_claim_40 : decode cX12_claim 40 = .ok (.aload_n 0, 1) := getB' kX12_claim_1 8 rfl
theorem dX12_claim_41 : decode cX12_claim 41 = .ok (.getfield 396, 3) := getB' kX12_claim_1 9 rfl
theorem dX12_claim_44 : decode cX12_claim 44 = .ok (.invokevirtual 418, 3) := getB' kX12_claim_1 10 rfl
theorem dX12_claim_47 : decode cX12_claim 47 = .ok (.ifCond .eq 5, 3) := getB' kX12_claim_1 11 rfl
def LX12_claim_2 : List (Nat × Instr × Nat) := [(50, .iconst (-1), 1), (51, .ireturn, 1), (52, .aload_n 0, 1), (53, .iconst 0, 1), (54, .iload_n 1, 1), (55, .iload_n 2, 1), (56, .iload_n 3, 1), (57, .iload 4, 2), (59, .invokevirtual 421, 3), (62, .ireturn, 1)]
theorem kX12_claim_2 : chkB cX12_claim LX12_claim_2 = true := by decide +kernel
theorem dX12_claim_50 : decode cX12_claim 50 = .ok (.iconst (-1), 1) := getB' kX12_claim_2 0 rfl
theorem dX12_claim_51 : decode cX12_claim 51 = .ok (.ireturn, 1) := getB' kX12_claim_2 1 rfl
theorem dX12_claim_52 : decode cX12_claim 52 = .ok (.aload_n 0, 1) := getB' kX12_claim_2 2 rfl
theorem dX12_claim_53 : decode cX12_claim 53 = .ok (.iconst 0, 1) := getB' kX12_claim_2 3 rfl
theorem dX12_claim_54 : decode cX12_claim 54 = .ok (.iload_n 1, 1) := getB' kX12_claim_2 4 rfl
theorem dX12_claim_55 : decode cX12_claim 55 = .ok (.iload_n 2, 1) := getB' kX12_claim_2 5 rfl
theorem dX12_claim_56 : decode cX12_claim 56 = .ok (.iload_n 3, 1) := getB' kX12_claim_2 6 rfl
theorem dX12_claim_57 : decode cX12_claim 57 = .ok (.iload 4, 2) := getB' kX12_claim_2 7 rfl
theorem dX12_claim_59 : decode cX12_claim 59 = .ok (.invokevirtual 421, 3) := getB' kX12_claim_2 8 rfl
theorem dX12_claim_62 : decode cX12_claim 62 = .ok (.ireturn, 1) := getB' kX12_claim_2 9 rfl
def LX12_title_0 : List (Nat × Instr × Nat) := [(0, .aload_n 0, 1), (1, .iload_n 1, 1), (2, .iconst 0, 1), (3, .invokevirtual 399, 3), (6, .ifCond .eq 41, 3), (9, .iload_n 2, 1), (10, .iconst 0, 1), (11, .sipush 999, 3), (14, .invokestatic 371, 3), (17, .ifCond .eq 30, 3), (20, .iload_n 2, 1), (21, .aload_n 0, 1)]
theorem kX12_title_0 : chkB cX12_title LX12_title_0 = true := by decide +kernel
theorem dX12_title_0 : decode cX12_title 0 = .ok (.aload_n 0, 1) := getB' kX12_title_0 0 rfl
theorem dX12_title_1 : decode cX12_title 1 = .ok (.iload_n 1, 1) := getB' kX12_title_0 1 rfl
theorem dX12_title_2 : decode cX12_title 2 = .ok (.iconst 0, 1) := getB' kX12_title_0 2 rfl
theorem dX12_title_3 : decode cX12_title 3 = .ok (.invokevirtual 399, 3) := getB' kX12_title_0 3 rfl
theorem dX12_title_6 : decode cX12_title 6 = .ok (.ifCond .eq 41, 3) := getB' kX12_title_0 4 rfl
theorem dX12_title_9 : decode cX12_title 9 = .ok (.iload_n 2, 1) := getB' kX12_title_0 5 rfl
theorem dX12_title_10 : decode cX12_title 10 = .ok (.iconst 0, 1) := getB' kX12_title_0 6 rfl
theorem dX12_title_11 : decode cX12_title 11 = .ok (.sipush 999, 3) := getB' kX12_title_0 7 rfl
theorem dX12_title_14 : decode cX12_title 14 = .ok (.invokestatic 371, 3) := getB' kX12_title_0 8 rfl
theorem dX12_title_17 : decode cX12_title 17 = .ok (.ifCond .eq 30, 3) := getB' kX12_title_0 9 rfl
theorem dX12_title_20 : decode cX12_title 20 = .ok (.iload_n 2, 1) := getB' kX12_title_0 10 rfl
theorem dX12_title_21 : decode cX12_title 21 = .ok (.aload_n 0, 1) := getB' kX12_title_0 11 rfl
def LX12_title_1 : List (Nat × Instr × Nat) := [(22, .getfield 47, 3), (25, .iload_n 1, 1), (26, .iaload, 1), (27, .if_icmp .le 22, 3), (30, .aload_n 0, 1), (31, .aload_n 0, 1), (32, .getfield 38, 3), (35, .iload_n 1, 1), (36, .iaload, 1), (37, .aload_n 0, 1), (38, .getfield 396, 3), (41, .invokevirtual 418, 3)]
theorem kX12_title_1 : chkB cX12_title LX12_title_1 = true := by decide +kernel
theorem dX12_title_22 : decode cX12_title 22 = .ok (.getfield 47, 3) := getB' kX12_title_1 0 rfl
theorem dX12_title_25 : decode cX12_title 25 = .ok (.iload_n 1, 1) := getB' kX12_title_1 1 rfl
theorem dX12_title_26 : decode cX12_title 26 = .ok (.iaload, 1) := getB' kX12_title_1 2 rfl
theorem dX12_title_27 : decode cX12_title 27 = .ok (.if_icmp .le 22, 3) := getB' kX12_title_1 3 rfl
theorem dX12_title_30 : decode cX12_title 30 = .ok (.aload_n 0, 1) := getB' kX12_title_1 4 rfl
theorem dX12_title_31 : decode cX12_title 31 = .ok (.aload_n 0, 1) := getB' kX12_title_1 5 rfl
theorem dX12_title_32 : decode cX12_title 32 = .ok (.getfield 38, 3) := getB' kX12_title_1 6 rfl
theorem dX12_title_35 : decode cX12_title 35 = .ok (.iload_n 1, 1) := getB' kX12_title_1 7 rfl
theorem dX12_title_36 : decode cX12_title 36 = .ok (.iaload, 1) := getB' kX12_title_1 8 rfl
theorem dX12_title_37 : decode cX12_title 37 = .ok (.aload_n 0, 1) := getB' kX12_title_1 9 rfl
theorem dX12_title_38 : decode cX12_title 38 = .ok (.getfield 396, 3) := getB' kX12_title_1 10 rfl
theorem dX12_title_41 : decode cX12_title 41 = .ok (.invokevirtual 418, 3) := getB' kX12_title_1 11 rfl
def LX12_title_2 : List (Nat × Instr × Nat) := [(44, .ifCond .eq 5, 3), (47, .iconst 0, 1), (48, .ireturn, 1), (49, .aload_n 0, 1), (50, .getfield 47, 3), (53, .iload_n 1, 1), (54, .iload_n 2, 1), (55, .iastore, 1), (56, .iconst 1, 1), (57, .ireturn, 1)]
theorem kX12_title_2 : chkB cX12_title LX12_title_2 = true := by decide +kernel
theorem dX12_title_44 : decode cX12_title 44 = .ok (.ifCond .eq 5, 3) := getB' kX12_title_2 0 rfl
theorem dX12_title_47 : decode cX12_title 47 = .ok (.iconst 0, 1) := getB' kX12_title_2 1 rfl
theorem dX12_title_48 : decode cX12_title 48 = .ok (.ireturn, 1) := getB' kX12_title_2 2 rfl
theorem dX12_title_49 : decode cX12_title 49 = .ok (.aload_n 0, 1) := getB' kX12_title_2 3 rfl
theorem dX12_title_50 : decode cX12_title 50 = .ok (.getfield 47, 3) := getB' kX12_title_2 4 rfl
theorem dX12_title_53 : decode cX12_title 53 = .ok (.iload_n 1, 1) := getB' kX12_title_2 5 rfl
theorem dX12_title_54 : decode cX12_title 54 = .ok (.iload_n 2, 1) := getB' kX12_title_2 6 rfl
theorem dX12_title_55 : decode cX12_title 55 = .ok (.iastore, 1) := getB' kX12_title_2 7 rfl
theorem dX12_title_56 : decode cX12_title 56 = .ok (.iconst 1, 1) := getB' kX12_title_2 8 rfl
theorem dX12_title_57 : decode cX12_title 57 = .ok (.ireturn, 1) := getB' kX12_title_2 9 rfl
def LX12_station_0 : List (Nat × Instr × Nat) := [(0, .aload_n 0, 1), (1, .iload_n 1, 1), (2, .invokevirtual 406, 3), (5, .ifCond .eq 51, 3), (8, .aload_n 0, 1), (9, .iload_n 2, 1), (10, .invokevirtual 381, 3), (13, .ifCond .eq 43, 3), (16, .aload_n 0, 1), (17, .iload_n 2, 1), (18, .invokevirtual 425, 3), (21, .ifCond .eq 35, 3)]
theorem kX12_station_0 : chkB cX12_station LX12_station_0 = true := by decide +kernel
theorem dX12_station_0 : decode cX12_station 0 = .ok (.aload_n 0, 1) := getB' kX12_station_0 0 rfl
theorem dX12_station_1 : decode cX12_station 1 = .ok (.iload_n 1, 1) := getB' kX12_station_0 1 rfl
theorem dX12_station_2 : decode cX12_station 2 = .ok (.invokevirtual 406, 3) := getB' kX12_station_0 2 rfl
theorem dX12_station_5 : decode cX12_station 5 = .ok (.ifCond .eq 51, 3) := getB' kX12_station_0 3 rfl
theorem dX12_station_8 : decode cX12_station 8 = .ok (.aload_n 0, 1) := getB' kX12_station_0 4 rfl
theorem dX12_station_9 : decode cX12_station 9 = .ok (.iload_n 2, 1) := getB' kX12_station_0 5 rfl
theorem dX12_station_10 : decode cX12_station 10 = .ok (.invokevirtual 381, 3) := getB' kX12_station_0 6 rfl
theorem dX12_station_13 : decode cX12_station 13 = .ok (.ifCond .eq 43, 3) := getB' kX12_station_0 7 rfl
theorem dX12_station_16 : decode cX12_station 16 = .ok (.aload_n 0, 1) := getB' kX12_station_0 8 rfl
theorem dX12_station_17 : decode cX12_station 17 = .ok (.iload_n 2, 1) := getB' kX12_station_0 9 rfl
theorem dX12_station_18 : decode cX12_station 18 = .ok (.invokevirtual 425, 3) := getB' kX12_station_0 10 rfl
theorem dX12_station_21 : decode cX12_station 21 = .ok (.ifCond .eq 35, 3) := getB' kX12_station_0 11 rfl
def LX12_station_1 : List (Nat × Instr × Nat) := [(24, .iload_n 3, 1), (25, .iconst 0, 1), (26, .sipush 500, 3), (29, .invokestatic 371, 3), (32, .ifCond .eq 24, 3), (35, .iload 4, 2), (37, .iconst 0, 1), (38, .ldc_w 428, 3), (41, .invokestatic 371, 3), (44, .ifCond .eq 12, 3), (47, .aload_n 0, 1), (48, .getfield 375, 3)]
theorem kX12_station_1 : chkB cX12_station LX12_station_1 = true := by decide +kernel
theorem dX12_station_24 : decode cX12_station 24 = .ok (.iload_n 3, 1) := getB' kX12_station_1 0 rfl
theorem dX12_station_25 : decode cX12_station 25 = .ok (.iconst 0, 1) := getB' kX12_station_1 1 rfl
theorem dX12_station_26 : decode cX12_station 26 = .ok (.sipush 500, 3) := getB' kX12_station_1 2 rfl
theorem dX12_station_29 : decode cX12_station 29 = .ok (.invokestatic 371, 3) := getB' kX12_station_1 3 rfl
theorem dX12_station_32 : decode cX12_station 32 = .ok (.ifCond .eq 24, 3) := getB' kX12_station_1 4 rfl
theorem dX12_station_35 : decode cX12_station 35 = .ok (.iload 4, 2) := getB' kX12_station_1 5 rfl
theorem dX12_station_37 : decode cX12_station 37 = .ok (.iconst 0, 1) := getB' kX12_station_1 6 rfl
theorem dX12_station_38 : decode cX12_station 38 = .ok (.ldc_w 428, 3) := getB' kX12_station_1 7 rfl
theorem dX12_station_41 : decode cX12_station 41 = .ok (.invokestatic 371, 3) := getB' kX12_station_1 8 rfl
theorem dX12_station_44 : decode cX12_station 44 = .ok (.ifCond .eq 12, 3) := getB' kX12_station_1 9 rfl
theorem dX12_station_47 : decode cX12_station 47 = .ok (.aload_n 0, 1) := getB' kX12_station_1 10 rfl
theorem dX12_station_48 : decode cX12_station 48 = .ok (.getfield 375, 3) := getB' kX12_station_1 11 rfl
def LX12_station_2 : List (Nat × Instr × Nat) := [(51, .bipush 60, 2), (53, .if_icmp .ne 5, 3), (56, .iconst (-1), 1), (57, .ireturn, 1), (58, .aload_n 0, 1), (59, .getfield 53, 3), (62, .aload_n 0, 1), (63, .getfield 375, 3), (66, .iload_n 3, 1), (67, .iastore, 1), (68, .aload_n 0, 1), (69, .getfield 56, 3)]
theorem kX12_station_2 : chkB cX12_station LX12_station_2 = true := by decide +kernel
theorem dX12_station_51 : decode cX12_station 51 = .ok (.bipush 60, 2) := getB' kX12_station_2 0 rfl
theorem dX12_station_53 : decode cX12_station 53 = .ok (.if_icmp .ne 5, 3) := getB' kX12_station_2 1 rfl
theorem dX12_station_56 : decode cX12_station 56 = .ok (.iconst (-1), 1) := getB' kX12_station_2 2 rfl
theorem dX12_station_57 : decode cX12_station 57 = .ok (.ireturn, 1) := getB' kX12_station_2 3 rfl
theorem dX12_station_58 : decode cX12_station 58 = .ok (.aload_n 0, 1) := getB' kX12_station_2 4 rfl
theorem dX12_station_59 : decode cX12_station 59 = .ok (.getfield 53, 3) := getB' kX12_station_2 5 rfl
theorem dX12_station_62 : decode cX12_station 62 = .ok (.aload_n 0, 1) := getB' kX12_station_2 6 rfl
theorem dX12_station_63 : decode cX12_station 63 = .ok (.getfield 375, 3) := getB' kX12_station_2 7 rfl
theorem dX12_station_66 : decode cX12_station 66 = .ok (.iload_n 3, 1) := getB' kX12_station_2 8 rfl
theorem dX12_station_67 : decode cX12_station 67 = .ok (.iastore, 1) := getB' kX12_station_2 9 rfl
theorem dX12_station_68 : decode cX12_station 68 = .ok (.aload_n 0, 1) := getB' kX12_station_2 10 rfl
theorem dX12_station_69 : decode cX12_station 69 = .ok (.getfield 56, 3) := getB' kX12_station_2 11 rfl
def LX12_station_3 : List (Nat × Instr × Nat) := [(72, .aload_n 0, 1), (73, .getfield 375, 3), (76, .iload 4, 2), (78, .iastore, 1), (79, .aload_n 0, 1), (80, .aload_n 0, 1), (81, .getfield 429, 3), (84, .iload 4, 2), (86, .i2l, 1), (87, .ladd, 1), (88, .putfield 429, 3), (91, .aload_n 0, 1)]
theorem kX12_station_3 : chkB cX12_station LX12_station_3 = true := by decide +kernel
theorem dX12_station_72 : decode cX12_station 72 = .ok (.aload_n 0, 1) := getB' kX12_station_3 0 rfl
theorem dX12_station_73 : decode cX12_station 73 = .ok (.getfield 375, 3) := getB' kX12_station_3 1 rfl
theorem dX12_station_76 : decode cX12_station 76 = .ok (.iload 4, 2) := getB' kX12_station_3 2 rfl
theorem dX12_station_78 : decode cX12_station 78 = .ok (.iastore, 1) := getB' kX12_station_3 3 rfl
theorem dX12_station_79 : decode cX12_station 79 = .ok (.aload_n 0, 1) := getB' kX12_station_3 4 rfl
theorem dX12_station_80 : decode cX12_station 80 = .ok (.aload_n 0, 1) := getB' kX12_station_3 5 rfl
theorem dX12_station_81 : decode cX12_station 81 = .ok (.getfield 429, 3) := getB' kX12_station_3 6 rfl
theorem dX12_station_84 : decode cX12_station 84 = .ok (.iload 4, 2) := getB' kX12_station_3 7 rfl
theorem dX12_station_86 : decode cX12_station 86 = .ok (.i2l, 1) := getB' kX12_station_3 8 rfl
theorem dX12_station_87 : decode cX12_station 87 = .ok (.ladd, 1) := getB' kX12_station_3 9 rfl
theorem dX12_station_88 : decode cX12_station 88 = .ok (.putfield 429, 3) := getB' kX12_station_3 10 rfl
theorem dX12_station_91 : decode cX12_station 91 = .ok (.aload_n 0, 1) := getB' kX12_station_3 11 rfl
def LX12_station_4 : List (Nat × Instr × Nat) := [(92, .iconst 1, 1), (93, .iload_n 1, 1), (94, .iload_n 2, 1), (95, .iconst (-1), 1), (96, .iconst 0, 1), (97, .invokevirtual 421, 3), (100, .ireturn, 1)]
theorem kX12_station_4 : chkB cX12_station LX12_station_4 = true := by decide +kernel
theorem dX12_station_92 : decode cX12_station 92 = .ok (.iconst 1, 1) := getB' kX12_station_4 0 rfl
theorem dX12_station_93 : decode cX12_station 93 = .ok (.iload_n 1, 1) := getB' kX12_station_4 1 rfl
theorem dX12_station_94 : decode cX12_station 94 = .ok (.iload_n 2, 1) := getB' kX12_station_4 2 rfl
theorem dX12_station_95 : decode cX12_station 95 = .ok (.iconst (-1), 1) := getB' kX12_station_4 3 rfl
theorem dX12_station_96 : decode cX12_station 96 = .ok (.iconst 0, 1) := getB' kX12_station_4 4 rfl
theorem dX12_station_97 : decode cX12_station 97 = .ok (.invokevirtual 421, 3) := getB' kX12_station_4 5 rfl
theorem dX12_station_100 : decode cX12_station 100 = .ok (.ireturn, 1) := getB' kX12_station_4 6 rfl
def LX12_field_0 : List (Nat × Instr × Nat) := [(0, .aload_n 0, 1), (1, .iload_n 1, 1), (2, .invokevirtual 433, 3), (5, .ifCond .eq 28, 3), (8, .aload_n 0, 1), (9, .iload_n 2, 1), (10, .invokevirtual 381, 3), (13, .ifCond .eq 20, 3), (16, .aload_n 0, 1), (17, .iload_n 2, 1), (18, .invokevirtual 425, 3), (21, .ifCond .eq 12, 3)]
theorem kX12_field_0 : chkB cX12_field LX12_field_0 = true := by decide +kernel
theorem dX12_field_0 : decode cX12_field 0 = .ok (.aload_n 0, 1) := getB' kX12_field_0 0 rfl
theorem dX12_field_1 : decode cX12_field 1 = .ok (.iload_n 1, 1) := getB' kX12_field_0 1 rfl
theorem dX12_field_2 : decode cX12_field 2 = .ok (.invokevirtual 433, 3) := getB' kX12_field_0 2 rfl
theorem dX12_field_5 : decode cX12_field 5 = .ok (.ifCond .eq 28, 3) := getB' kX12_field_0 3 rfl
theorem dX12_field_8 : decode cX12_field 8 = .ok (.aload_n 0, 1) := getB' kX12_field_0 4 rfl
theorem dX12_field_9 : decode cX12_field 9 = .ok (.iload_n 2, 1) := getB' kX12_field_0 5 rfl
theorem dX12_field_10 : decode cX12_field 10 = .ok (.invokevirtual 381, 3) := getB' kX12_field_0 6 rfl
theorem dX12_field_13 : decode cX12_field 13 = .ok (.ifCond .eq 20, 3) := getB' kX12_field_0 7 rfl
theorem dX12_field_16 : decode cX12_field 16 = .ok (.aload_n 0, 1) := getB' kX12_field_0 8 rfl
theorem dX12_field_17 : decode cX12_field 17 = .ok (.iload_n 2, 1) := getB' kX12_field_0 9 rfl
theorem dX12_field_18 : decode cX12_field 18 = .ok (.invokevirtual 425, 3) := getB' kX12_field_0 10 rfl
theorem dX12_field_21 : decode cX12_field 21 = .ok (.ifCond .eq 12, 3) := getB' kX12_field_0 11 rfl
def LX12_field_1 : List (Nat × Instr × Nat) := [(24, .aload_n 0, 1), (25, .getfield 375, 3), (28, .bipush 60, 2), (30, .if_icmp .ne 5, 3), (33, .iconst (-1), 1), (34, .ireturn, 1), (35, .aload_n 0, 1), (36, .iconst 2, 1), (37, .aload_n 0, 1), (38, .getfield 38, 3), (41, .iload_n 1, 1), (42, .iaload, 1)]
theorem kX12_field_1 : chkB cX12_field LX12_field_1 = true := by decide +kernel
theorem dX12_field_24 : decode cX12_field 24 = .ok (.aload_n 0, 1) := getB' kX12_field_1 0 rfl
theorem dX12_field_25 : decode cX12_field 25 = .ok (.getfield 375, 3) := getB' kX12_field_1 1 rfl
theorem dX12_field_28 : decode cX12_field 28 = .ok (.bipush 60, 2) := getB' kX12_field_1 2 rfl
theorem dX12_field_30 : decode cX12_field 30 = .ok (.if_icmp .ne 5, 3) := getB' kX12_field_1 3 rfl
theorem dX12_field_33 : decode cX12_field 33 = .ok (.iconst (-1), 1) := getB' kX12_field_1 4 rfl
theorem dX12_field_34 : decode cX12_field 34 = .ok (.ireturn, 1) := getB' kX12_field_1 5 rfl
theorem dX12_field_35 : decode cX12_field 35 = .ok (.aload_n 0, 1) := getB' kX12_field_1 6 rfl
theorem dX12_field_36 : decode cX12_field 36 = .ok (.iconst 2, 1) := getB' kX12_field_1 7 rfl
theorem dX12_field_37 : decode cX12_field 37 = .ok (.aload_n 0, 1) := getB' kX12_field_1 8 rfl
theorem dX12_field_38 : decode cX12_field 38 = .ok (.getfield 38, 3) := getB' kX12_field_1 9 rfl
theorem dX12_field_41 : decode cX12_field 41 = .ok (.iload_n 1, 1) := getB' kX12_field_1 10 rfl
theorem dX12_field_42 : decode cX12_field 42 = .ok (.iaload, 1) := getB' kX12_field_1 11 rfl
def LX12_field_2 : List (Nat × Instr × Nat) := [(43, .iload_n 2, 1), (44, .iconst (-1), 1), (45, .iload_n 1, 1), (46, .invokevirtual 421, 3), (49, .ireturn, 1)]
theorem kX12_field_2 : chkB cX12_field LX12_field_2 = true := by decide +kernel
theorem dX12_field_43 : decode cX12_field 43 = .ok (.iload_n 2, 1) := getB' kX12_field_2 0 rfl
theorem dX12_field_44 : decode cX12_field 44 = .ok (.iconst (-1), 1) := getB' kX12_field_2 1 rfl
theorem dX12_field_45 : decode cX12_field 45 = .ok (.iload_n 1, 1) := getB' kX12_field_2 2 rfl
theorem dX12_field_46 : decode cX12_field 46 = .ok (.invokevirtual 421, 3) := getB' kX12_field_2 3 rfl
theorem dX12_field_49 : decode cX12_field 49 = .ok (.ireturn, 1) := getB' kX12_field_2 4 rfl
def LX12_reserve_0 : List (Nat × Instr × Nat) := [(0, .aload_n 0, 1), (1, .iload_n 1, 1), (2, .iload_n 2, 1), (3, .invokevirtual 415, 3), (6, .ifCond .eq 22, 3), (9, .iload_n 3, 1), (10, .iconst 1, 1), (11, .bipush 9, 2), (13, .invokestatic 371, 3), (16, .ifCond .eq 12, 3), (19, .aload_n 0, 1), (20, .getfield 375, 3)]
theorem kX12_reserve_0 : chkB cX12_reserve LX12_reserve_0 = true := by decide +kernel
theorem dX12_reserve_0 : decode cX12_reserve 0 = .ok (.aload_n 0, 1) := getB' kX12_reserve_0 0 rfl
theorem dX12_reserve_1 : decode cX12_reserve 1 = .ok (.iload_n 1, 1) := getB' kX12_reserve_0 1 rfl
theorem dX12_reserve_2 : decode cX12_reserve 2 = .ok (.iload_n 2, 1) := getB' kX12_reserve_0 2 rfl
theorem dX12_reserve_3 : decode cX12_reserve 3 = .ok (.invokevirtual 415, 3) := getB' kX12_reserve_0 3 rfl
theorem dX12_reserve_6 : decode cX12_reserve 6 = .ok (.ifCond .eq 22, 3) := getB' kX12_reserve_0 4 rfl
theorem dX12_reserve_9 : decode cX12_reserve 9 = .ok (.iload_n 3, 1) := getB' kX12_reserve_0 5 rfl
theorem dX12_reserve_10 : decode cX12_reserve 10 = .ok (.iconst 1, 1) := getB' kX12_reserve_0 6 rfl
theorem dX12_reserve_11 : decode cX12_reserve 11 = .ok (.bipush 9, 2) := getB' kX12_reserve_0 7 rfl
theorem dX12_reserve_13 : decode cX12_reserve 13 = .ok (.invokestatic 371, 3) := getB' kX12_reserve_0 8 rfl
theorem dX12_reserve_16 : decode cX12_reserve 16 = .ok (.ifCond .eq 12, 3) := getB' kX12_reserve_0 9 rfl
theorem dX12_reserve_19 : decode cX12_reserve 19 = .ok (.aload_n 0, 1) := getB' kX12_reserve_0 10 rfl
theorem dX12_reserve_20 : decode cX12_reserve 20 = .ok (.getfield 375, 3) := getB' kX12_reserve_0 11 rfl
def LX12_reserve_1 : List (Nat × Instr × Nat) := [(23, .bipush 60, 2), (25, .if_icmp .ne 5, 3), (28, .iconst (-1), 1), (29, .ireturn, 1), (30, .aload_n 0, 1), (31, .iconst 3, 1), (32, .iconst (-1), 1), (33, .iload_n 1, 1), (34, .iload_n 2, 1), (35, .iload_n 3, 1), (36, .invokevirtual 421, 3), (39, .ireturn, 1)]
theorem kX12_reserve_1 : chkB cX12_reserve LX12_reserve_1 = true := by decide +kernel
theorem dX12_reserve_23 : decode cX12_reserve 23 = .ok (.bipush 60, 2) := getB' kX12_reserve_1 0 rfl
theorem dX12_reserve_25 : decode cX12_reserve 25 = .ok (.if_icmp .ne 5, 3) := getB' kX12_reserve_1 1 rfl
theorem dX12_reserve_28 : decode cX12_reserve 28 = .ok (.iconst (-1), 1) := getB' kX12_reserve_1 2 rfl
theorem dX12_reserve_29 : decode cX12_reserve 29 = .ok (.ireturn, 1) := getB' kX12_reserve_1 3 rfl
theorem dX12_reserve_30 : decode cX12_reserve 30 = .ok (.aload_n 0, 1) := getB' kX12_reserve_1 4 rfl
theorem dX12_reserve_31 : decode cX12_reserve 31 = .ok (.iconst 3, 1) := getB' kX12_reserve_1 5 rfl
theorem dX12_reserve_32 : decode cX12_reserve 32 = .ok (.iconst (-1), 1) := getB' kX12_reserve_1 6 rfl
theorem dX12_reserve_33 : decode cX12_reserve 33 = .ok (.iload_n 1, 1) := getB' kX12_reserve_1 7 rfl
theorem dX12_reserve_34 : decode cX12_reserve 34 = .ok (.iload_n 2, 1) := getB' kX12_reserve_1 8 rfl
theorem dX12_reserve_35 : decode cX12_reserve 35 = .ok (.iload_n 3, 1) := getB' kX12_reserve_1 9 rfl
theorem dX12_reserve_36 : decode cX12_reserve 36 = .ok (.invokevirtual 421, 3) := getB' kX12_reserve_1 10 rfl
theorem dX12_reserve_39 : decode cX12_reserve 39 = .ok (.ireturn, 1) := getB' kX12_reserve_1 11 rfl
def LX12_site_0 : List (Nat × Instr × Nat) := [(0, .aload_n 0, 1), (1, .iload_n 1, 1), (2, .invokevirtual 381, 3), (5, .ifCond .eq 12, 3), (8, .aload_n 0, 1), (9, .getfield 375, 3), (12, .bipush 60, 2), (14, .if_icmp .ne 5, 3), (17, .iconst (-1), 1), (18, .ireturn, 1), (19, .aload_n 0, 1), (20, .iload_n 2, 1)]
theorem kX12_site_0 : chkB cX12_site LX12_site_0 = true := by decide +kernel
theorem dX12_site_0 : decode cX12_site 0 = .ok (.aload_n 0, 1) := getB' kX12_site_0 0 rfl
theorem dX12_site_1 : decode cX12_site 1 = .ok (.iload_n 1, 1) := getB' kX12_site_0 1 rfl
theorem dX12_site_2 : decode cX12_site 2 = .ok (.invokevirtual 381, 3) := getB' kX12_site_0 2 rfl
theorem dX12_site_5 : decode cX12_site 5 = .ok (.ifCond .eq 12, 3) := getB' kX12_site_0 3 rfl
theorem dX12_site_8 : decode cX12_site 8 = .ok (.aload_n 0, 1) := getB' kX12_site_0 4 rfl
theorem dX12_site_9 : decode cX12_site 9 = .ok (.getfield 375, 3) := getB' kX12_site_0 5 rfl
theorem dX12_site_12 : decode cX12_site 12 = .ok (.bipush 60, 2) := getB' kX12_site_0 6 rfl
theorem dX12_site_14 : decode cX12_site 14 = .ok (.if_icmp .ne 5, 3) := getB' kX12_site_0 7 rfl
theorem dX12_site_17 : decode cX12_site 17 = .ok (.iconst (-1), 1) := getB' kX12_site_0 8 rfl
theorem dX12_site_18 : decode cX12_site 18 = .ok (.ireturn, 1) := getB' kX12_site_0 9 rfl
theorem dX12_site_19 : decode cX12_site 19 = .ok (.aload_n 0, 1) := getB' kX12_site_0 10 rfl
theorem dX12_site_20 : decode cX12_site 20 = .ok (.iload_n 2, 1) := getB' kX12_site_0 11 rfl
def LX12_site_1 : List (Nat × Instr × Nat) := [(21, .ifCond .eq 7, 3), (24, .iconst 5, 1), (25, .goto 4, 3), (28, .iconst 4, 1), (29, .iconst (-1), 1), (30, .iload_n 1, 1), (31, .iconst (-1), 1), (32, .iconst 0, 1), (33, .invokevirtual 421, 3), (36, .ireturn, 1)]
theorem kX12_site_1 : chkB cX12_site LX12_site_1 = true := by decide +kernel
theorem dX12_site_21 : decode cX12_site 21 = .ok (.ifCond .eq 7, 3) := getB' kX12_site_1 0 rfl
theorem dX12_site_24 : decode cX12_site 24 = .ok (.iconst 5, 1) := getB' kX12_site_1 1 rfl
theorem dX12_site_25 : decode cX12_site 25 = .ok (.goto 4, 3) := getB' kX12_site_1 2 rfl
theorem dX12_site_28 : decode cX12_site 28 = .ok (.iconst 4, 1) := getB' kX12_site_1 3 rfl
theorem dX12_site_29 : decode cX12_site 29 = .ok (.iconst (-1), 1) := getB' kX12_site_1 4 rfl
theorem dX12_site_30 : decode cX12_site 30 = .ok (.iload_n 1, 1) := getB' kX12_site_1 5 rfl
theorem dX12_site_31 : decode cX12_site 31 = .ok (.iconst (-1), 1) := getB' kX12_site_1 6 rfl
theorem dX12_site_32 : decode cX12_site 32 = .ok (.iconst 0, 1) := getB' kX12_site_1 7 rfl
theorem dX12_site_33 : decode cX12_site 33 = .ok (.invokevirtual 421, 3) := getB' kX12_site_1 8 rfl
theorem dX12_site_36 : decode cX12_site 36 = .ok (.ireturn, 1) := getB' kX12_site_1 9 rfl
def LX12_types_0 : List (Nat × Instr × Nat) := [(0, .iconst 3, 1), (1, .istore_n 2, 1), (2, .iload_n 2, 1), (3, .ifCond .lt 35, 3), (6, .aload_n 0, 1), (7, .getfield 84, 3), (10, .aload_n 0, 1), (11, .getfield 436, 3), (14, .iload_n 1, 1), (15, .bipush 8, 2), (17, .iload_n 2, 1), (18, .imul, 1)]
theorem kX12_types_0 : chkB cX12_types LX12_types_0 = true := by decide +kernel
theorem dX12_types_0 : decode cX12_types 0 = .ok (.iconst 3, 1) := getB' kX12_types_0 0 rfl
theorem dX12_types_1 : decode cX12_types 1 = .ok (.istore_n 2, 1) := getB' kX12_types_0 1 rfl
theorem dX12_types_2 : decode cX12_types 2 = .ok (.iload_n 2, 1) := getB' kX12_types_0 2 rfl
theorem dX12_types_3 : decode cX12_types 3 = .ok (.ifCond .lt 35, 3) := getB' kX12_types_0 3 rfl
theorem dX12_types_6 : decode cX12_types 6 = .ok (.aload_n 0, 1) := getB' kX12_types_0 4 rfl
theorem dX12_types_7 : decode cX12_types 7 = .ok (.getfield 84, 3) := getB' kX12_types_0 5 rfl
theorem dX12_types_10 : decode cX12_types 10 = .ok (.aload_n 0, 1) := getB' kX12_types_0 6 rfl
theorem dX12_types_11 : decode cX12_types 11 = .ok (.getfield 436, 3) := getB' kX12_types_0 7 rfl
theorem dX12_types_14 : decode cX12_types 14 = .ok (.iload_n 1, 1) := getB' kX12_types_0 8 rfl
theorem dX12_types_15 : decode cX12_types 15 = .ok (.bipush 8, 2) := getB' kX12_types_0 9 rfl
theorem dX12_types_17 : decode cX12_types 17 = .ok (.iload_n 2, 1) := getB' kX12_types_0 10 rfl
theorem dX12_types_18 : decode cX12_types 18 = .ok (.imul, 1) := getB' kX12_types_0 11 rfl
def LX12_types_1 : List (Nat × Instr × Nat) := [(19, .ishr, 1), (20, .i2b, 1), (21, .bastore, 1), (22, .aload_n 0, 1), (23, .aload_n 0, 1), (24, .getfield 436, 3), (27, .iconst 1, 1), (28, .iadd, 1), (29, .putfield 436, 3), (32, .iinc 2 (-1), 3), (35, .goto (-33), 3), (38, .return_, 1)]
theorem kX12_types_1 : chkB cX12_types LX12_types_1 = true := by decide +kernel
theorem dX12_types_19 : decode cX12_types 19 = .ok (.ishr, 1) := getB' kX12_types_1 0 rfl
theorem dX12_types_20 : decode cX12_types 20 = .ok (.i2b, 1) := getB' kX12_types_1 1 rfl
theorem dX12_types_21 : decode cX12_types 21 = .ok (.bastore, 1) := getB' kX12_types_1 2 rfl
theorem dX12_types_22 : decode cX12_types 22 = .ok (.aload_n 0, 1) := getB' kX12_types_1 3 rfl
theorem dX12_types_23 : decode cX12_types 23 = .ok (.aload_n 0, 1) := getB' kX12_types_1 4 rfl
theorem dX12_types_24 : decode cX12_types 24 = .ok (.getfield 436, 3) := getB' kX12_types_1 5 rfl
theorem dX12_types_27 : decode cX12_types 27 = .ok (.iconst 1, 1) := getB' kX12_types_1 6 rfl
theorem dX12_types_28 : decode cX12_types 28 = .ok (.iadd, 1) := getB' kX12_types_1 7 rfl
theorem dX12_types_29 : decode cX12_types 29 = .ok (.putfield 436, 3) := getB' kX12_types_1 8 rfl
theorem dX12_types_32 : decode cX12_types 32 = .ok (.iinc 2 (-1), 3) := getB' kX12_types_1 9 rfl
theorem dX12_types_35 : decode cX12_types 35 = .ok (.goto (-33), 3) := getB' kX12_types_1 10 rfl
theorem dX12_types_38 : decode cX12_types 38 = .ok (.return_, 1) := getB' kX12_types_1 11 rfl
def LX12_feed_0 : List (Nat × Instr × Nat) := [(0, .aload_n 0, 1), (1, .getfield 436, 3), (4, .bipush 20, 2), (6, .iadd, 1), (7, .sipush 400, 3), (10, .if_icmp .le 5, 3), (13, .iconst (-1), 1), (14, .ireturn, 1), (15, .aload_n 0, 1), (16, .iload_n 1, 1), (17, .invokevirtual 439, 3), (20, .aload_n 0, 1)]
theorem kX12_feed_0 : chkB cX12_feed LX12_feed_0 = true := by decide +kernel
theorem dX12_feed_0 : decode cX12_feed 0 = .ok (.aload_n 0, 1) := getB' kX12_feed_0 0 rfl
theorem dX12_feed_1 : decode cX12_feed 1 = .ok (.getfield 436, 3) := getB' kX12_feed_0 1 rfl
theorem dX12_feed_4 : decode cX12_feed 4 = .ok (.bipush 20, 2) := getB' kX12_feed_0 2 rfl
theorem dX12_feed_6 : decode cX12_feed 6 = .ok (.iadd, 1) := getB' kX12_feed_0 3 rfl
theorem dX12_feed_7 : decode cX12_feed 7 = .ok (.sipush 400, 3) := getB' kX12_feed_0 4 rfl
theorem dX12_feed_10 : decode cX12_feed 10 = .ok (.if_icmp .le 5, 3) := getB' kX12_feed_0 5 rfl
theorem dX12_feed_13 : decode cX12_feed 13 = .ok (.iconst (-1), 1) := getB' kX12_feed_0 6 rfl
theorem dX12_feed_14 : decode cX12_feed 14 = .ok (.ireturn, 1) := getB' kX12_feed_0 7 rfl
theorem dX12_feed_15 : decode cX12_feed 15 = .ok (.aload_n 0, 1) := getB' kX12_feed_0 8 rfl
theorem dX12_feed_16 : decode cX12_feed 16 = .ok (.iload_n 1, 1) := getB' kX12_feed_0 9 rfl
theorem dX12_feed_17 : decode cX12_feed 17 = .ok (.invokevirtual 439, 3) := getB' kX12_feed_0 10 rfl
theorem dX12_feed_20 : decode cX12_feed 20 = .ok (.aload_n 0, 1) := getB' kX12_feed_0 11 rfl
def LX12_feed_1 : List (Nat × Instr × Nat) := [(21, .iload_n 2, 1), (22, .invokevirtual 439, 3), (25, .aload_n 0, 1), (26, .iload_n 3, 1), (27, .invokevirtual 439, 3), (30, .aload_n 0, 1), (31, .iload 4, 2), (33, .invokevirtual 439, 3), (36, .aload_n 0, 1), (37, .iload 5, 2), (39, .invokevirtual 439, 3), (42, .aload_n 0, 1)]
theorem kX12_feed_1 : chkB cX12_feed LX12_feed_1 = true := by decide +kernel
theorem dX12_feed_21 : decode cX12_feed 21 = .ok (.iload_n 2, 1) := getB' kX12_feed_1 0 rfl
theorem dX12_feed_22 : decode cX12_feed 22 = .ok (.invokevirtual 439, 3) := getB' kX12_feed_1 1 rfl
theorem dX12_feed_25 : decode cX12_feed 25 = .ok (.aload_n 0, 1) := getB' kX12_feed_1 2 rfl
theorem dX12_feed_26 : decode cX12_feed 26 = .ok (.iload_n 3, 1) := getB' kX12_feed_1 3 rfl
theorem dX12_feed_27 : decode cX12_feed 27 = .ok (.invokevirtual 439, 3) := getB' kX12_feed_1 4 rfl
theorem dX12_feed_30 : decode cX12_feed 30 = .ok (.aload_n 0, 1) := getB' kX12_feed_1 5 rfl
theorem dX12_feed_31 : decode cX12_feed 31 = .ok (.iload 4, 2) := getB' kX12_feed_1 6 rfl
theorem dX12_feed_33 : decode cX12_feed 33 = .ok (.invokevirtual 439, 3) := getB' kX12_feed_1 7 rfl
theorem dX12_feed_36 : decode cX12_feed 36 = .ok (.aload_n 0, 1) := getB' kX12_feed_1 8 rfl
theorem dX12_feed_37 : decode cX12_feed 37 = .ok (.iload 5, 2) := getB' kX12_feed_1 9 rfl
theorem dX12_feed_39 : decode cX12_feed 39 = .ok (.invokevirtual 439, 3) := getB' kX12_feed_1 10 rfl
theorem dX12_feed_42 : decode cX12_feed 42 = .ok (.aload_n 0, 1) := getB' kX12_feed_1 11 rfl
def LX12_feed_2 : List (Nat × Instr × Nat) := [(43, .getfield 436, 3), (46, .ireturn, 1)]
theorem kX12_feed_2 : chkB cX12_feed LX12_feed_2 = true := by decide +kernel
theorem dX12_feed_43 : decode cX12_feed 43 = .ok (.getfield 436, 3) := getB' kX12_feed_2 0 rfl
theorem dX12_feed_46 : decode cX12_feed 46 = .ok (.ireturn, 1) := getB' kX12_feed_2 1 rfl
def LX12_sign_0 : List (Nat × Instr × Nat) := [(0, .aload_n 0, 1), (1, .getfield 443, 3), (4, .aload_n 0, 1), (5, .getfield 446, 3), (8, .if_icmp .ge 19, 3), (11, .aload_n 0, 1), (12, .getfield 84, 3), (15, .aload_n 0, 1), (16, .getfield 443, 3), (19, .baload, 1), (20, .sipush 255, 3), (23, .iand, 1)]
theorem kX12_sign_0 : chkB cX12_sign LX12_sign_0 = true := by decide +kernel
theorem dX12_sign_0 : decode cX12_sign 0 = .ok (.aload_n 0, 1) := getB' kX12_sign_0 0 rfl
theorem dX12_sign_1 : decode cX12_sign 1 = .ok (.getfield 443, 3) := getB' kX12_sign_0 1 rfl
theorem dX12_sign_4 : decode cX12_sign 4 = .ok (.aload_n 0, 1) := getB' kX12_sign_0 2 rfl
theorem dX12_sign_5 : decode cX12_sign 5 = .ok (.getfield 446, 3) := getB' kX12_sign_0 3 rfl
theorem dX12_sign_8 : decode cX12_sign 8 = .ok (.if_icmp .ge 19, 3) := getB' kX12_sign_0 4 rfl
theorem dX12_sign_11 : decode cX12_sign 11 = .ok (.aload_n 0, 1) := getB' kX12_sign_0 5 rfl
theorem dX12_sign_12 : decode cX12_sign 12 = .ok (.getfield 84, 3) := getB' kX12_sign_0 6 rfl
theorem dX12_sign_15 : decode cX12_sign 15 = .ok (.aload_n 0, 1) := getB' kX12_sign_0 7 rfl
theorem dX12_sign_16 : decode cX12_sign 16 = .ok (.getfield 443, 3) := getB' kX12_sign_0 8 rfl
theorem dX12_sign_19 : decode cX12_sign 19 = .ok (.baload, 1) := getB' kX12_sign_0 9 rfl
theorem dX12_sign_20 : decode cX12_sign 20 = .ok (.sipush 255, 3) := getB' kX12_sign_0 10 rfl
theorem dX12_sign_23 : decode cX12_sign 23 = .ok (.iand, 1) := getB' kX12_sign_0 11 rfl
def LX12_sign_1 : List (Nat × Instr × Nat) := [(24, .goto 4, 3), (27, .iconst (-1), 1), (28, .ireturn, 1)]
theorem kX12_sign_1 : chkB cX12_sign LX12_sign_1 = true := by decide +kernel
theorem dX12_sign_24 : decode cX12_sign 24 = .ok (.goto 4, 3) := getB' kX12_sign_1 0 rfl
theorem dX12_sign_27 : decode cX12_sign 27 = .ok (.iconst (-1), 1) := getB' kX12_sign_1 1 rfl
theorem dX12_sign_28 : decode cX12_sign 28 = .ok (.ireturn, 1) := getB' kX12_sign_1 2 rfl
def LX12_isDigit : List (Nat × Instr × Nat) := [(0, .aload_n 0, 1), (1, .invokevirtual 449, 3), (4, .bipush 48, 2), (6, .if_icmp .lt 16, 3), (9, .aload_n 0, 1), (10, .invokevirtual 449, 3), (13, .bipush 57, 2), (15, .if_icmp .gt 7, 3), (18, .iconst 1, 1), (19, .goto 4, 3), (22, .iconst 0, 1), (23, .ireturn, 1)]
theorem kX12_isDigit : chkB cX12_isDigit LX12_isDigit = true := by decide +kernel
theorem dX12_isDigit_0 : decode cX12_isDigit 0 = .ok (.aload_n 0, 1) := getB' kX12_isDigit 0 rfl
theorem dX12_isDigit_1 : decode cX12_isDigit 1 = .ok (.invokevirtual 449, 3) := getB' kX12_isDigit 1 rfl
theorem dX12_isDigit_4 : decode cX12_isDigit 4 = .ok (.bipush 48, 2) := getB' kX12_isDigit 2 rfl
theorem dX12_isDigit_6 : decode cX12_isDigit 6 = .ok (.if_icmp .lt 16, 3) := getB' kX12_isDigit 3 rfl
theorem dX12_isDigit_9 : decode cX12_isDigit 9 = .ok (.aload_n 0, 1) := getB' kX12_isDigit 4 rfl
theorem dX12_isDigit_10 : decode cX12_isDigit 10 = .ok (.invokevirtual 449, 3) := getB' kX12_isDigit 5 rfl
theorem dX12_isDigit_13 : decode cX12_isDigit 13 = .ok (.bipush 57, 2) := getB' kX12_isDigit 6 rfl
theorem dX12_isDigit_15 : decode cX12_isDigit 15 = .ok (.if_icmp .gt 7, 3) := getB' kX12_isDigit 7 rfl
theorem dX12_isDigit_18 : decode cX12_isDigit 18 = .ok (.iconst 1, 1) := getB' kX12_isDigit 8 rfl
theorem dX12_isDigit_19 : decode cX12_isDigit 19 = .ok (.goto 4, 3) := getB' kX12_isDigit 9 rfl
theorem dX12_isDigit_22 : decode cX12_isDigit 22 = .ok (.iconst 0, 1) := getB' kX12_isDigit 10 rfl
theorem dX12_isDigit_23 : decode cX12_isDigit 23 = .ok (.ireturn, 1) := getB' kX12_isDigit 11 rfl
def LX12_wrong : List (Nat × Instr × Nat) := [(0, .aload_n 0, 1), (1, .sipush (-1000), 3), (4, .iload_n 1, 1), (5, .imul, 1), (6, .iload_n 2, 1), (7, .isub, 1), (8, .putfield 453, 3), (11, .iconst 0, 1), (12, .ireturn, 1)]
theorem kX12_wrong : chkB cX12_wrong LX12_wrong = true := by decide +kernel
theorem dX12_wrong_0 : decode cX12_wrong 0 = .ok (.aload_n 0, 1) := getB' kX12_wrong 0 rfl
theorem dX12_wrong_1 : decode cX12_wrong 1 = .ok (.sipush (-1000), 3) := getB' kX12_wrong 1 rfl
theorem dX12_wrong_4 : decode cX12_wrong 4 = .ok (.iload_n 1, 1) := getB' kX12_wrong 2 rfl
theorem dX12_wrong_5 : decode cX12_wrong 5 = .ok (.imul, 1) := getB' kX12_wrong 3 rfl
theorem dX12_wrong_6 : decode cX12_wrong 6 = .ok (.iload_n 2, 1) := getB' kX12_wrong 4 rfl
theorem dX12_wrong_7 : decode cX12_wrong 7 = .ok (.isub, 1) := getB' kX12_wrong 5 rfl
theorem dX12_wrong_8 : decode cX12_wrong 8 = .ok (.putfield 453, 3) := getB' kX12_wrong 6 rfl
theorem dX12_wrong_11 : decode cX12_wrong 11 = .ok (.iconst 0, 1) := getB' kX12_wrong 7 rfl
theorem dX12_wrong_12 : decode cX12_wrong 12 = .ok (.ireturn, 1) := getB' kX12_wrong 8 rfl
def LX12_takes_0 : List (Nat × Instr × Nat) := [(0, .aload_n 0, 1), (1, .invokevirtual 449, 3), (4, .iload_n 1, 1), (5, .if_icmp .eq 13, 3), (8, .aload_n 0, 1), (9, .iconst 1, 1), (10, .aload_n 0, 1), (11, .getfield 443, 3), (14, .invokevirtual 456, 3), (17, .ireturn, 1), (18, .aload_n 0, 1), (19, .aload_n 0, 1)]
theorem kX12_takes_0 : chkB cX12_takes LX12_takes_0 = true := by decide +kernel
theorem dX12_takes_0 : decode cX12_takes 0 = .ok (.aload_n 0, 1) := getB' kX12_takes_0 0 rfl
theorem dX12_takes_1 : decode cX12_takes 1 = .ok (.invokevirtual 449, 3) := getB' kX12_takes_0 1 rfl
theorem dX12_takes_4 : decode cX12_takes 4 = .ok (.iload_n 1, 1) := getB' kX12_takes_0 2 rfl
theorem dX12_takes_5 : decode cX12_takes 5 = .ok (.if_icmp .eq 13, 3) := getB' kX12_takes_0 3 rfl
theorem dX12_takes_8 : decode cX12_takes 8 = .ok (.aload_n 0, 1) := getB' kX12_takes_0 4 rfl
theorem dX12_takes_9 : decode cX12_takes 9 = .ok (.iconst 1, 1) := getB' kX12_takes_0 5 rfl
theorem dX12_takes_10 : decode cX12_takes 10 = .ok (.aload_n 0, 1) := getB' kX12_takes_0 6 rfl
theorem dX12_takes_11 : decode cX12_takes 11 = .ok (.getfield 443, 3) := getB' kX12_takes_0 7 rfl
theorem dX12_takes_14 : decode cX12_takes 14 = .ok (.invokevirtual 456, 3) := getB' kX12_takes_0 8 rfl
theorem dX12_takes_17 : decode cX12_takes 17 = .ok (.ireturn, 1) := getB' kX12_takes_0 9 rfl
theorem dX12_takes_18 : decode cX12_takes 18 = .ok (.aload_n 0, 1) := getB' kX12_takes_0 10 rfl
theorem dX12_takes_19 : decode cX12_takes 19 = .ok (.aload_n 0, 1) := getB' kX12_takes_0 11 rfl
def LX12_takes_1 : List (Nat × Instr × Nat) := [(20, .getfield 443, 3), (23, .iconst 1, 1), (24, .iadd, 1), (25, .putfield 443, 3), (28, .iconst 1, 1), (29, .ireturn, 1)]
theorem kX12_takes_1 : chkB cX12_takes LX12_takes_1 = true := by decide +kernel
theorem dX12_takes_20 : decode cX12_takes 20 = .ok (.getfield 443, 3) := getB' kX12_takes_1 0 rfl
theorem dX12_takes_23 : decode cX12_takes 23 = .ok (.iconst 1, 1) := getB' kX12_takes_1 1 rfl
theorem dX12_takes_24 : decode cX12_takes 24 = .ok (.iadd, 1) := getB' kX12_takes_1 2 rfl
theorem dX12_takes_25 : decode cX12_takes 25 = .ok (.putfield 443, 3) := getB' kX12_takes_1 3 rfl
theorem dX12_takes_28 : decode cX12_takes 28 = .ok (.iconst 1, 1) := getB' kX12_takes_1 4 rfl
theorem dX12_takes_29 : decode cX12_takes 29 = .ok (.ireturn, 1) := getB' kX12_takes_1 5 rfl
def LX12_readsNumber_0 : List (Nat × Instr × Nat) := [(0, .aload_n 0, 1), (1, .getfield 443, 3), (4, .istore_n 2, 1), (5, .aload_n 0, 1), (6, .iconst 0, 1), (7, .putfield 459, 3), (10, .aload_n 0, 1), (11, .invokevirtual 462, 3), (14, .ifCond .ne 13, 3), (17, .aload_n 0, 1), (18, .iconst 1, 1), (19, .aload_n 0, 1)]
theorem kX12_readsNumber_0 : chkB cX12_readsNumber LX12_readsNumber_0 = true := by decide +kernel
theorem dX12_readsNumber_0 : decode cX12_readsNumber 0 = .ok (.aload_n 0, 1) := getB' kX12_readsNumber_0 0 rfl
theorem dX12_readsNumber_1 : decode cX12_readsNumber 1 = .ok (.getfield 443, 3) := getB' kX12_readsNumber_0 1 rfl
theorem dX12_readsNumber_4 : decode cX12_readsNumber 4 = .ok (.istore_n 2, 1) := getB' kX12_readsNumber_0 2 rfl
theorem dX12_readsNumber_5 : decode cX12_readsNumber 5 = .ok (.aload_n 0, 1) := getB' kX12_readsNumber_0 3 rfl
theorem dX12_readsNumber_6 : decode cX12_readsNumber 6 = .ok (.iconst 0, 1) := getB' kX12_readsNumber_0 4 rfl
theorem dX12_readsNumber_7 : decode cX12_readsNumber 7 = .ok (.putfield 459, 3) := getB' kX12_readsNumber_0 5 rfl
theorem dX12_readsNumber_10 : decode cX12_readsNumber 10 = .ok (.aload_n 0, 1) := getB' kX12_readsNumber_0 6 rfl
theorem dX12_readsNumber_11 : decode cX12_readsNumber 11 = .ok (.invokevirtual 462, 3) := getB' kX12_readsNumber_0 7 rfl
theorem dX12_readsNumber_14 : decode cX12_readsNumber 14 = .ok (.ifCond .ne 13, 3) := getB' kX12_readsNumber_0 8 rfl
theorem dX12_readsNumber_17 : decode cX12_readsNumber 17 = .ok (.aload_n 0, 1) := getB' kX12_readsNumber_0 9 rfl
theorem dX12_readsNumber_18 : decode cX12_readsNumber 18 = .ok (.iconst 1, 1) := getB' kX12_readsNumber_0 10 rfl
theorem dX12_readsNumber_19 : decode cX12_readsNumber 19 = .ok (.aload_n 0, 1) := getB' kX12_readsNumber_0 11 rfl
def LX12_readsNumber_1 : List (Nat × Instr × Nat) := [(20, .getfield 443, 3), (23, .invokevirtual 456, 3), (26, .ireturn, 1), (27, .aload_n 0, 1), (28, .invokevirtual 462, 3), (31, .ifCond .eq 56, 3), (34, .aload_n 0, 1), (35, .getfield 443, 3), (38, .iload_n 2, 1), (39, .bipush 6, 2), (41, .iadd, 1), (42, .if_icmp .ne 13, 3)]
theorem kX12_readsNumber_1 : chkB cX12_readsNumber LX12_readsNumber_1 = true := by decide +kernel
theorem dX12_readsNumber_20 : decode cX12_readsNumber 20 = .ok (.getfield 443, 3) := getB' kX12_readsNumber_1 0 rfl
theorem dX12_readsNumber_23 : decode cX12_readsNumber 23 = .ok (.invokevirtual 456, 3) := getB' kX12_readsNumber_1 1 rfl
theorem dX12_readsNumber_26 : decode cX12_readsNumber 26 = .ok (.ireturn, 1) := getB' kX12_readsNumber_1 2 rfl
theorem dX12_readsNumber_27 : decode cX12_readsNumber 27 = .ok (.aload_n 0, 1) := getB' kX12_readsNumber_1 3 rfl
theorem dX12_readsNumber_28 : decode cX12_readsNumber 28 = .ok (.invokevirtual 462, 3) := getB' kX12_readsNumber_1 4 rfl
theorem dX12_readsNumber_31 : decode cX12_readsNumber 31 = .ok (.ifCond .eq 56, 3) := getB' kX12_readsNumber_1 5 rfl
theorem dX12_readsNumber_34 : decode cX12_readsNumber 34 = .ok (.aload_n 0, 1) := getB' kX12_readsNumber_1 6 rfl
theorem dX12_readsNumber_35 : decode cX12_readsNumber 35 = .ok (.getfield 443, 3) := getB' kX12_readsNumber_1 7 rfl
theorem dX12_readsNumber_38 : decode cX12_readsNumber 38 = .ok (.iload_n 2, 1) := getB' kX12_readsNumber_1 8 rfl
theorem dX12_readsNumber_39 : decode cX12_readsNumber 39 = .ok (.bipush 6, 2) := getB' kX12_readsNumber_1 9 rfl
theorem dX12_readsNumber_41 : decode cX12_readsNumber 41 = .ok (.iadd, 1) := getB' kX12_readsNumber_1 10 rfl
theorem dX12_readsNumber_42 : decode cX12_readsNumber 42 = .ok (.if_icmp .ne 13, 3) := getB' kX12_readsNumber_1 11 rfl
def LX12_readsNumber_2 : List (Nat × Instr × Nat) := [(45, .aload_n 0, 1), (46, .iconst 2, 1), (47, .aload_n 0, 1), (48, .getfield 443, 3), (51, .invokevirtual 456, 3), (54, .ireturn, 1), (55, .aload_n 0, 1), (56, .bipush 10, 2), (58, .aload_n 0, 1), (59, .getfield 459, 3), (62, .imul, 1), (63, .aload_n 0, 1)]
theorem kX12_readsNumber_2 : chkB cX12_readsNumber LX12_readsNumber_2 = true := by decide +kernel
theorem dX12_readsNumber_45 : decode cX12_readsNumber 45 = .ok (.aload_n 0, 1) := getB' kX12_readsNumber_2 0 rfl
theorem dX12_readsNumber_46 : decode cX12_readsNumber 46 = .ok (.iconst 2, 1) := getB' kX12_readsNumber_2 1 rfl
theorem dX12_readsNumber_47 : decode cX12_readsNumber 47 = .ok (.aload_n 0, 1) := getB' kX12_readsNumber_2 2 rfl
theorem dX12_readsNumber_48 : decode cX12_readsNumber 48 = .ok (.getfield 443, 3) := getB' kX12_readsNumber_2 3 rfl
theorem dX12_readsNumber_51 : decode cX12_readsNumber 51 = .ok (.invokevirtual 456, 3) := getB' kX12_readsNumber_2 4 rfl
theorem dX12_readsNumber_54 : decode cX12_readsNumber 54 = .ok (.ireturn, 1) := getB' kX12_readsNumber_2 5 rfl
theorem dX12_readsNumber_55 : decode cX12_readsNumber 55 = .ok (.aload_n 0, 1) := getB' kX12_readsNumber_2 6 rfl
theorem dX12_readsNumber_56 : decode cX12_readsNumber 56 = .ok (.bipush 10, 2) := getB' kX12_readsNumber_2 7 rfl
theorem dX12_readsNumber_58 : decode cX12_readsNumber 58 = .ok (.aload_n 0, 1) := getB' kX12_readsNumber_2 8 rfl
theorem dX12_readsNumber_59 : decode cX12_readsNumber 59 = .ok (.getfield 459, 3) := getB' kX12_readsNumber_2 9 rfl
theorem dX12_readsNumber_62 : decode cX12_readsNumber 62 = .ok (.imul, 1) := getB' kX12_readsNumber_2 10 rfl
theorem dX12_readsNumber_63 : decode cX12_readsNumber 63 = .ok (.aload_n 0, 1) := getB' kX12_readsNumber_2 11 rfl
def LX12_readsNumber_3 : List (Nat × Instr × Nat) := [(64, .invokevirtual 449, 3), (67, .iadd, 1), (68, .bipush 48, 2), (70, .isub, 1), (71, .putfield 459, 3), (74, .aload_n 0, 1), (75, .aload_n 0, 1), (76, .getfield 443, 3), (79, .iconst 1, 1), (80, .iadd, 1), (81, .putfield 443, 3), (84, .goto (-57), 3)]
theorem kX12_readsNumber_3 : chkB cX12_readsNumber LX12_readsNumber_3 = true := by decide +kernel
theorem dX12_readsNumber_64 : decode cX12_readsNumber 64 = .ok (.invokevirtual 449, 3) := getB' kX12_readsNumber_3 0 rfl
theorem dX12_readsNumber_67 : decode cX12_readsNumber 67 = .ok (.iadd, 1) := getB' kX12_readsNumber_3 1 rfl
theorem dX12_readsNumber_68 : decode cX12_readsNumber 68 = .ok (.bipush 48, 2) := getB' kX12_readsNumber_3 2 rfl
theorem dX12_readsNumber_70 : decode cX12_readsNumber 70 = .ok (.isub, 1) := getB' kX12_readsNumber_3 3 rfl
theorem dX12_readsNumber_71 : decode cX12_readsNumber 71 = .ok (.putfield 459, 3) := getB' kX12_readsNumber_3 4 rfl
theorem dX12_readsNumber_74 : decode cX12_readsNumber 74 = .ok (.aload_n 0, 1) := getB' kX12_readsNumber_3 5 rfl
theorem dX12_readsNumber_75 : decode cX12_readsNumber 75 = .ok (.aload_n 0, 1) := getB' kX12_readsNumber_3 6 rfl
theorem dX12_readsNumber_76 : decode cX12_readsNumber 76 = .ok (.getfield 443, 3) := getB' kX12_readsNumber_3 7 rfl
theorem dX12_readsNumber_79 : decode cX12_readsNumber 79 = .ok (.iconst 1, 1) := getB' kX12_readsNumber_3 8 rfl
theorem dX12_readsNumber_80 : decode cX12_readsNumber 80 = .ok (.iadd, 1) := getB' kX12_readsNumber_3 9 rfl
theorem dX12_readsNumber_81 : decode cX12_readsNumber 81 = .ok (.putfield 443, 3) := getB' kX12_readsNumber_3 10 rfl
theorem dX12_readsNumber_84 : decode cX12_readsNumber 84 = .ok (.goto (-57), 3) := getB' kX12_readsNumber_3 11 rfl
def LX12_readsNumber_4 : List (Nat × Instr × Nat) := [(87, .aload_n 0, 1), (88, .getfield 459, 3), (91, .iload_n 1, 1), (92, .if_icmp .le 12, 3), (95, .aload_n 0, 1), (96, .iconst 3, 1), (97, .iload_n 2, 1), (98, .invokevirtual 456, 3), (101, .ifCond .eq 7, 3), (104, .iconst 1, 1), (105, .goto 4, 3), (108, .iconst 0, 1)]
theorem kX12_readsNumber_4 : chkB cX12_readsNumber LX12_readsNumber_4 = true := by decide +kernel
theorem dX12_readsNumber_87 : decode cX12_readsNumber 87 = .ok (.aload_n 0, 1) := getB' kX12_readsNumber_4 0 rfl
theorem dX12_readsNumber_88 : decode cX12_readsNumber 88 = .ok (.getfield 459, 3) := getB' kX12_readsNumber_4 1 rfl
theorem dX12_readsNumber_91 : decode cX12_readsNumber 91 = .ok (.iload_n 1, 1) := getB' kX12_readsNumber_4 2 rfl
theorem dX12_readsNumber_92 : decode cX12_readsNumber 92 = .ok (.if_icmp .le 12, 3) := getB' kX12_readsNumber_4 3 rfl
theorem dX12_readsNumber_95 : decode cX12_readsNumber 95 = .ok (.aload_n 0, 1) := getB' kX12_readsNumber_4 4 rfl
theorem dX12_readsNumber_96 : decode cX12_readsNumber 96 = .ok (.iconst 3, 1) := getB' kX12_readsNumber_4 5 rfl
theorem dX12_readsNumber_97 : decode cX12_readsNumber 97 = .ok (.iload_n 2, 1) := getB' kX12_readsNumber_4 6 rfl
theorem dX12_readsNumber_98 : decode cX12_readsNumber 98 = .ok (.invokevirtual 456, 3) := getB' kX12_readsNumber_4 7 rfl
theorem dX12_readsNumber_101 : decode cX12_readsNumber 101 = .ok (.ifCond .eq 7, 3) := getB' kX12_readsNumber_4 8 rfl
theorem dX12_readsNumber_104 : decode cX12_readsNumber 104 = .ok (.iconst 1, 1) := getB' kX12_readsNumber_4 9 rfl
theorem dX12_readsNumber_105 : decode cX12_readsNumber 105 = .ok (.goto 4, 3) := getB' kX12_readsNumber_4 10 rfl
theorem dX12_readsNumber_108 : decode cX12_readsNumber 108 = .ok (.iconst 0, 1) := getB' kX12_readsNumber_4 11 rfl
def LX12_readsNumber_5 : List (Nat × Instr × Nat) := [(109, .ireturn, 1)]
theorem kX12_readsNumber_5 : chkB cX12_readsNumber LX12_readsNumber_5 = true := by decide +kernel
theorem dX12_readsNumber_109 : decode cX12_readsNumber 109 = .ok (.ireturn, 1) := getB' kX12_readsNumber_5 0 rfl
def LX12_says_0 : List (Nat × Instr × Nat) := [(0, .aload_n 0, 1), (1, .getfield 88, 3), (4, .aload_n 0, 1), (5, .getfield 466, 3), (8, .ldc_w 469, 3), (11, .iload_n 1, 1), (12, .imul, 1), (13, .iload_n 2, 1), (14, .iadd, 1), (15, .iastore, 1), (16, .aload_n 0, 1), (17, .aload_n 0, 1)]
theorem kX12_says_0 : chkB cX12_says LX12_says_0 = true := by decide +kernel
theorem dX12_says_0 : decode cX12_says 0 = .ok (.aload_n 0, 1) := getB' kX12_says_0 0 rfl
theorem dX12_says_1 : decode cX12_says 1 = .ok (.getfield 88, 3) := getB' kX12_says_0 1 rfl
theorem dX12_says_4 : decode cX12_says 4 = .ok (.aload_n 0, 1) := getB' kX12_says_0 2 rfl
theorem dX12_says_5 : decode cX12_says 5 = .ok (.getfield 466, 3) := getB' kX12_says_0 3 rfl
theorem dX12_says_8 : decode cX12_says 8 = .ok (.ldc_w 469, 3) := getB' kX12_says_0 4 rfl
theorem dX12_says_11 : decode cX12_says 11 = .ok (.iload_n 1, 1) := getB' kX12_says_0 5 rfl
theorem dX12_says_12 : decode cX12_says 12 = .ok (.imul, 1) := getB' kX12_says_0 6 rfl
theorem dX12_says_13 : decode cX12_says 13 = .ok (.iload_n 2, 1) := getB' kX12_says_0 7 rfl
theorem dX12_says_14 : decode cX12_says 14 = .ok (.iadd, 1) := getB' kX12_says_0 8 rfl
theorem dX12_says_15 : decode cX12_says 15 = .ok (.iastore, 1) := getB' kX12_says_0 9 rfl
theorem dX12_says_16 : decode cX12_says 16 = .ok (.aload_n 0, 1) := getB' kX12_says_0 10 rfl
theorem dX12_says_17 : decode cX12_says 17 = .ok (.aload_n 0, 1) := getB' kX12_says_0 11 rfl
def LX12_says_1 : List (Nat × Instr × Nat) := [(18, .getfield 466, 3), (21, .iconst 1, 1), (22, .iadd, 1), (23, .putfield 466, 3), (26, .return_, 1)]
theorem kX12_says_1 : chkB cX12_says LX12_says_1 = true := by decide +kernel
theorem dX12_says_18 : decode cX12_says 18 = .ok (.getfield 466, 3) := getB' kX12_says_1 0 rfl
theorem dX12_says_21 : decode cX12_says 21 = .ok (.iconst 1, 1) := getB' kX12_says_1 1 rfl
theorem dX12_says_22 : decode cX12_says 22 = .ok (.iadd, 1) := getB' kX12_says_1 2 rfl
theorem dX12_says_23 : decode cX12_says 23 = .ok (.putfield 466, 3) := getB' kX12_says_1 3 rfl
theorem dX12_says_26 : decode cX12_says 26 = .ok (.return_, 1) := getB' kX12_says_1 4 rfl
def LX12_opens_0 : List (Nat × Instr × Nat) := [(0, .aload_n 0, 1), (1, .getfield 470, 3), (4, .bipush 8, 2), (6, .if_icmp .ne 13, 3), (9, .aload_n 0, 1), (10, .iconst 5, 1), (11, .aload_n 0, 1), (12, .getfield 443, 3), (15, .invokevirtual 456, 3), (18, .ireturn, 1), (19, .aload_n 0, 1), (20, .aload_n 0, 1)]
theorem kX12_opens_0 : chkB cX12_opens LX12_opens_0 = true := by decide +kernel
theorem dX12_opens_0 : decode cX12_opens 0 = .ok (.aload_n 0, 1) := getB' kX12_opens_0 0 rfl
theorem dX12_opens_1 : decode cX12_opens 1 = .ok (.getfield 470, 3) := getB' kX12_opens_0 1 rfl
theorem dX12_opens_4 : decode cX12_opens 4 = .ok (.bipush 8, 2) := getB' kX12_opens_0 2 rfl
theorem dX12_opens_6 : decode cX12_opens 6 = .ok (.if_icmp .ne 13, 3) := getB' kX12_opens_0 3 rfl
theorem dX12_opens_9 : decode cX12_opens 9 = .ok (.aload_n 0, 1) := getB' kX12_opens_0 4 rfl
theorem dX12_opens_10 : decode cX12_opens 10 = .ok (.iconst 5, 1) := getB' kX12_opens_0 5 rfl
theorem dX12_opens_11 : decode cX12_opens 11 = .ok (.aload_n 0, 1) := getB' kX12_opens_0 6 rfl
theorem dX12_opens_12 : decode cX12_opens 12 = .ok (.getfield 443, 3) := getB' kX12_opens_0 7 rfl
theorem dX12_opens_15 : decode cX12_opens 15 = .ok (.invokevirtual 456, 3) := getB' kX12_opens_0 8 rfl
theorem dX12_opens_18 : decode cX12_opens 18 = .ok (.ireturn, 1) := getB' kX12_opens_0 9 rfl
theorem dX12_opens_19 : decode cX12_opens 19 = .ok (.aload_n 0, 1) := getB' kX12_opens_0 10 rfl
theorem dX12_opens_20 : decode cX12_opens 20 = .ok (.aload_n 0, 1) := getB' kX12_opens_0 11 rfl
def LX12_opens_1 : List (Nat × Instr × Nat) := [(21, .getfield 470, 3), (24, .iconst 1, 1), (25, .iadd, 1), (26, .putfield 470, 3), (29, .aload_n 0, 1), (30, .getfield 91, 3), (33, .aload_n 0, 1), (34, .getfield 473, 3), (37, .ldc_w 469, 3), (40, .iload_n 1, 1), (41, .imul, 1), (42, .iastore, 1)]
theorem kX12_opens_1 : chkB cX12_opens LX12_opens_1 = true := by decide +kernel
theorem dX12_opens_21 : decode cX12_opens 21 = .ok (.getfield 470, 3) := getB' kX12_opens_1 0 rfl
theorem dX12_opens_24 : decode cX12_opens 24 = .ok (.iconst 1, 1) := getB' kX12_opens_1 1 rfl
theorem dX12_opens_25 : decode cX12_opens 25 = .ok (.iadd, 1) := getB' kX12_opens_1 2 rfl
theorem dX12_opens_26 : decode cX12_opens 26 = .ok (.putfield 470, 3) := getB' kX12_opens_1 3 rfl
theorem dX12_opens_29 : decode cX12_opens 29 = .ok (.aload_n 0, 1) := getB' kX12_opens_1 4 rfl
theorem dX12_opens_30 : decode cX12_opens 30 = .ok (.getfield 91, 3) := getB' kX12_opens_1 5 rfl
theorem dX12_opens_33 : decode cX12_opens 33 = .ok (.aload_n 0, 1) := getB' kX12_opens_1 6 rfl
theorem dX12_opens_34 : decode cX12_opens 34 = .ok (.getfield 473, 3) := getB' kX12_opens_1 7 rfl
theorem dX12_opens_37 : decode cX12_opens 37 = .ok (.ldc_w 469, 3) := getB' kX12_opens_1 8 rfl
theorem dX12_opens_40 : decode cX12_opens 40 = .ok (.iload_n 1, 1) := getB' kX12_opens_1 9 rfl
theorem dX12_opens_41 : decode cX12_opens 41 = .ok (.imul, 1) := getB' kX12_opens_1 10 rfl
theorem dX12_opens_42 : decode cX12_opens 42 = .ok (.iastore, 1) := getB' kX12_opens_1 11 rfl
def LX12_opens_2 : List (Nat × Instr × Nat) := [(43, .aload_n 0, 1), (44, .aload_n 0, 1), (45, .getfield 473, 3), (48, .iconst 1, 1), (49, .iadd, 1), (50, .putfield 473, 3), (53, .aload_n 0, 1), (54, .aload_n 0, 1), (55, .getfield 443, 3), (58, .iconst 1, 1), (59, .iadd, 1), (60, .putfield 443, 3)]
theorem kX12_opens_2 : chkB cX12_opens LX12_opens_2 = true := by decide +kernel
theorem dX12_opens_43 : decode cX12_opens 43 = .ok (.aload_n 0, 1) := getB' kX12_opens_2 0 rfl
theorem dX12_opens_44 : decode cX12_opens 44 = .ok (.aload_n 0, 1) := getB' kX12_opens_2 1 rfl
theorem dX12_opens_45 : decode cX12_opens 45 = .ok (.getfield 473, 3) := getB' kX12_opens_2 2 rfl
theorem dX12_opens_48 : decode cX12_opens 48 = .ok (.iconst 1, 1) := getB' kX12_opens_2 3 rfl
theorem dX12_opens_49 : decode cX12_opens 49 = .ok (.iadd, 1) := getB' kX12_opens_2 4 rfl
theorem dX12_opens_50 : decode cX12_opens 50 = .ok (.putfield 473, 3) := getB' kX12_opens_2 5 rfl
theorem dX12_opens_53 : decode cX12_opens 53 = .ok (.aload_n 0, 1) := getB' kX12_opens_2 6 rfl
theorem dX12_opens_54 : decode cX12_opens 54 = .ok (.aload_n 0, 1) := getB' kX12_opens_2 7 rfl
theorem dX12_opens_55 : decode cX12_opens 55 = .ok (.getfield 443, 3) := getB' kX12_opens_2 8 rfl
theorem dX12_opens_58 : decode cX12_opens 58 = .ok (.iconst 1, 1) := getB' kX12_opens_2 9 rfl
theorem dX12_opens_59 : decode cX12_opens 59 = .ok (.iadd, 1) := getB' kX12_opens_2 10 rfl
theorem dX12_opens_60 : decode cX12_opens 60 = .ok (.putfield 443, 3) := getB' kX12_opens_2 11 rfl
def LX12_opens_3 : List (Nat × Instr × Nat) := [(63, .iconst 1, 1), (64, .ireturn, 1)]
theorem kX12_opens_3 : chkB cX12_opens LX12_opens_3 = true := by decide +kernel
theorem dX12_opens_63 : decode cX12_opens 63 = .ok (.iconst 1, 1) := getB' kX12_opens_3 0 rfl
theorem dX12_opens_64 : decode cX12_opens 64 = .ok (.ireturn, 1) := getB' kX12_opens_3 1 rfl
def LX12_top_0 : List (Nat × Instr × Nat) := [(0, .aload_n 0, 1), (1, .getfield 473, 3), (4, .ifCond .ne 7, 3), (7, .iconst (-1), 1), (8, .goto 18, 3), (11, .aload_n 0, 1), (12, .getfield 91, 3), (15, .aload_n 0, 1), (16, .getfield 473, 3), (19, .iconst 1, 1), (20, .isub, 1), (21, .iaload, 1)]
theorem kX12_top_0 : chkB cX12_top LX12_top_0 = true := by decide +kernel
theorem dX12_top_0 : decode cX12_top 0 = .ok (.aload_n 0, 1) := getB' kX12_top_0 0 rfl
theorem dX12_top_1 : decode cX12_top 1 = .ok (.getfield 473, 3) := getB' kX12_top_0 1 rfl
theorem dX12_top_4 : decode cX12_top 4 = .ok (.ifCond .ne 7, 3) := getB' kX12_top_0 2 rfl
theorem dX12_top_7 : decode cX12_top 7 = .ok (.iconst (-1), 1) := getB' kX12_top_0 3 rfl
theorem dX12_top_8 : decode cX12_top 8 = .ok (.goto 18, 3) := getB' kX12_top_0 4 rfl
theorem dX12_top_11 : decode cX12_top 11 = .ok (.aload_n 0, 1) := getB' kX12_top_0 5 rfl
theorem dX12_top_12 : decode cX12_top 12 = .ok (.getfield 91, 3) := getB' kX12_top_0 6 rfl
theorem dX12_top_15 : decode cX12_top 15 = .ok (.aload_n 0, 1) := getB' kX12_top_0 7 rfl
theorem dX12_top_16 : decode cX12_top 16 = .ok (.getfield 473, 3) := getB' kX12_top_0 8 rfl
theorem dX12_top_19 : decode cX12_top 19 = .ok (.iconst 1, 1) := getB' kX12_top_0 9 rfl
theorem dX12_top_20 : decode cX12_top 20 = .ok (.isub, 1) := getB' kX12_top_0 10 rfl
theorem dX12_top_21 : decode cX12_top 21 = .ok (.iaload, 1) := getB' kX12_top_0 11 rfl
def LX12_top_1 : List (Nat × Instr × Nat) := [(22, .ldc_w 469, 3), (25, .idiv, 1), (26, .ireturn, 1)]
theorem kX12_top_1 : chkB cX12_top LX12_top_1 = true := by decide +kernel
theorem dX12_top_22 : decode cX12_top 22 = .ok (.ldc_w 469, 3) := getB' kX12_top_1 0 rfl
theorem dX12_top_25 : decode cX12_top 25 = .ok (.idiv, 1) := getB' kX12_top_1 1 rfl
theorem dX12_top_26 : decode cX12_top 26 = .ok (.ireturn, 1) := getB' kX12_top_1 2 rfl
def LX12_letterNumber_0 : List (Nat × Instr × Nat) := [(0, .iload_n 0, 1), (1, .tableswitch 151 97 121 #[115, 119, 151, 142, 139, 151, 151, 121, 123, 151, 151, 151, 148, 130, 133, 117, 151, 125, 127, 136, 151, 151, 151, 151, 145], 115), (116, .iconst 0, 1), (117, .ireturn, 1), (118, .iconst 1, 1), (119, .ireturn, 1), (120, .iconst 2, 1), (121, .ireturn, 1), (122, .iconst 3, 1), (123, .ireturn, 1), (124, .iconst 4, 1), (125, .ireturn, 1)]
theorem kX12_letterNumber_0 : chkB cX12_letterNumber LX12_letterNumber_0 = true := by decide +kernel
theorem dX12_letterNumber_0 : decode cX12_letterNumber 0 = .ok (.iload_n 0, 1) := getB' kX12_letterNumber_0 0 rfl
theorem dX12_letterNumber_1 : decode cX12_letterNumber 1 = .ok (.tableswitch 151 97 121 #[115, 119, 151, 142, 139, 151, 151, 121, 123, 151, 151, 151, 148, 130, 133, 117, 151, 125, 127, 136, 151, 151, 151, 151, 145], 115) := getB' kX12_letterNumber_0 1 rfl
theorem dX12_letterNumber_116 : decode cX12_letterNumber 116 = .ok (.iconst 0, 1) := getB' kX12_letterNumber_0 2 rfl
theorem dX12_letterNumber_117 : decode cX12_letterNumber 117 = .ok (.ireturn, 1) := getB' kX12_letterNumber_0 3 rfl
theorem dX12_letterNumber_118 : decode cX12_letterNumber 118 = .ok (.iconst 1, 1) := getB' kX12_letterNumber_0 4 rfl
theorem dX12_letterNumber_119 : decode cX12_letterNumber 119 = .ok (.ireturn, 1) := getB' kX12_letterNumber_0 5 rfl
theorem dX12_letterNumber_120 : decode cX12_letterNumber 120 = .ok (.iconst 2, 1) := getB' kX12_letterNumber_0 6 rfl
theorem dX12_letterNumber_121 : decode cX12_letterNumber 121 = .ok (.ireturn, 1) := getB' kX12_letterNumber_0 7 rfl
theorem dX12_letterNumber_122 : decode cX12_letterNumber 122 = .ok (.iconst 3, 1) := getB' kX12_letterNumber_0 8 rfl
theorem dX12_letterNumber_123 : decode cX12_letterNumber 123 = .ok (.ireturn, 1) := getB' kX12_letterNumber_0 9 rfl
theorem dX12_letterNumber_124 : decode cX12_letterNumber 124 = .ok (.iconst 4, 1) := getB' kX12_letterNumber_0 10 rfl
theorem dX12_letterNumber_125 : decode cX12_letterNumber 125 = .ok (.ireturn, 1) := getB' kX12_letterNumber_0 11 rfl
def LX12_letterNumber_1 : List (Nat × Instr × Nat) := [(126, .iconst 5, 1), (127, .ireturn, 1), (128, .bipush 6, 2), (130, .ireturn, 1), (131, .bipush 7, 2), (133, .ireturn, 1), (134, .bipush 8, 2), (136, .ireturn, 1), (137, .bipush 9, 2), (139, .ireturn, 1), (140, .bipush 10, 2), (142, .ireturn, 1)]
theorem kX12_letterNumber_1 : chkB cX12_letterNumber LX12_letterNumber_1 = true := by decide +kernel
theorem dX12_letterNumber_126 : decode cX12_letterNumber 126 = .ok (.iconst 5, 1) := getB' kX12_letterNumber_1 0 rfl
theorem dX12_letterNumber_127 : decode cX12_letterNumber 127 = .ok (.ireturn, 1) := getB' kX12_letterNumber_1 1 rfl
theorem dX12_letterNumber_128 : decode cX12_letterNumber 128 = .ok (.bipush 6, 2) := getB' kX12_letterNumber_1 2 rfl
theorem dX12_letterNumber_130 : decode cX12_letterNumber 130 = .ok (.ireturn, 1) := getB' kX12_letterNumber_1 3 rfl
theorem dX12_letterNumber_131 : decode cX12_letterNumber 131 = .ok (.bipush 7, 2) := getB' kX12_letterNumber_1 4 rfl
theorem dX12_letterNumber_133 : decode cX12_letterNumber 133 = .ok (.ireturn, 1) := getB' kX12_letterNumber_1 5 rfl
theorem dX12_letterNumber_134 : decode cX12_letterNumber 134 = .ok (.bipush 8, 2) := getB' kX12_letterNumber_1 6 rfl
theorem dX12_letterNumber_136 : decode cX12_letterNumber 136 = .ok (.ireturn, 1) := getB' kX12_letterNumber_1 7 rfl
theorem dX12_letterNumber_137 : decode cX12_letterNumber 137 = .ok (.bipush 9, 2) := getB' kX12_letterNumber_1 8 rfl
theorem dX12_letterNumber_139 : decode cX12_letterNumber 139 = .ok (.ireturn, 1) := getB' kX12_letterNumber_1 9 rfl
theorem dX12_letterNumber_140 : decode cX12_letterNumber 140 = .ok (.bipush 10, 2) := getB' kX12_letterNumber_1 10 rfl
theorem dX12_letterNumber_142 : decode cX12_letterNumber 142 = .ok (.ireturn, 1) := getB' kX12_letterNumber_1 11 rfl
def LX12_letterNumber_2 : List (Nat × Instr × Nat) := [(143, .bipush 11, 2), (145, .ireturn, 1), (146, .bipush 12, 2), (148, .ireturn, 1), (149, .bipush 13, 2), (151, .ireturn, 1), (152, .iconst (-1), 1), (153, .ireturn, 1)]
theorem kX12_letterNumber_2 : chkB cX12_letterNumber LX12_letterNumber_2 = true := by decide +kernel
theorem dX12_letterNumber_143 : decode cX12_letterNumber 143 = .ok (.bipush 11, 2) := getB' kX12_letterNumber_2 0 rfl
theorem dX12_letterNumber_145 : decode cX12_letterNumber 145 = .ok (.ireturn, 1) := getB' kX12_letterNumber_2 1 rfl
theorem dX12_letterNumber_146 : decode cX12_letterNumber 146 = .ok (.bipush 12, 2) := getB' kX12_letterNumber_2 2 rfl
theorem dX12_letterNumber_148 : decode cX12_letterNumber 148 = .ok (.ireturn, 1) := getB' kX12_letterNumber_2 3 rfl
theorem dX12_letterNumber_149 : decode cX12_letterNumber 149 = .ok (.bipush 13, 2) := getB' kX12_letterNumber_2 4 rfl
theorem dX12_letterNumber_151 : decode cX12_letterNumber 151 = .ok (.ireturn, 1) := getB' kX12_letterNumber_2 5 rfl
theorem dX12_letterNumber_152 : decode cX12_letterNumber 152 = .ok (.iconst (-1), 1) := getB' kX12_letterNumber_2 6 rfl
theorem dX12_letterNumber_153 : decode cX12_letterNumber 153 = .ok (.ireturn, 1) := getB' kX12_letterNumber_2 7 rfl
def LX12_sumSign_0 : List (Nat × Instr × Nat) := [(0, .iload_n 0, 1), (1, .bipush 43, 2), (3, .if_icmp .ne 7, 3), (6, .iconst 2, 1), (7, .goto 45, 3), (10, .iload_n 0, 1), (11, .bipush 45, 2), (13, .if_icmp .ne 7, 3), (16, .iconst 3, 1), (17, .goto 35, 3), (20, .iload_n 0, 1), (21, .bipush 42, 2)]
theorem kX12_sumSign_0 : chkB cX12_sumSign LX12_sumSign_0 = true := by decide +kernel
theorem dX12_sumSign_0 : decode cX12_sumSign 0 = .ok (.iload_n 0, 1) := getB' kX12_sumSign_0 0 rfl
theorem dX12_sumSign_1 : decode cX12_sumSign 1 = .ok (.bipush 43, 2) := getB' kX12_sumSign_0 1 rfl
theorem dX12_sumSign_3 : decode cX12_sumSign 3 = .ok (.if_icmp .ne 7, 3) := getB' kX12_sumSign_0 2 rfl
theorem dX12_sumSign_6 : decode cX12_sumSign 6 = .ok (.iconst 2, 1) := getB' kX12_sumSign_0 3 rfl
theorem dX12_sumSign_7 : decode cX12_sumSign 7 = .ok (.goto 45, 3) := getB' kX12_sumSign_0 4 rfl
theorem dX12_sumSign_10 : decode cX12_sumSign 10 = .ok (.iload_n 0, 1) := getB' kX12_sumSign_0 5 rfl
theorem dX12_sumSign_11 : decode cX12_sumSign 11 = .ok (.bipush 45, 2) := getB' kX12_sumSign_0 6 rfl
theorem dX12_sumSign_13 : decode cX12_sumSign 13 = .ok (.if_icmp .ne 7, 3) := getB' kX12_sumSign_0 7 rfl
theorem dX12_sumSign_16 : decode cX12_sumSign 16 = .ok (.iconst 3, 1) := getB' kX12_sumSign_0 8 rfl
theorem dX12_sumSign_17 : decode cX12_sumSign 17 = .ok (.goto 35, 3) := getB' kX12_sumSign_0 9 rfl
theorem dX12_sumSign_20 : decode cX12_sumSign 20 = .ok (.iload_n 0, 1) := getB' kX12_sumSign_0 10 rfl
theorem dX12_sumSign_21 : decode cX12_sumSign 21 = .ok (.bipush 42, 2) := getB' kX12_sumSign_0 11 rfl
def LX12_sumSign_1 : List (Nat × Instr × Nat) := [(23, .if_icmp .ne 7, 3), (26, .iconst 4, 1), (27, .goto 25, 3), (30, .iload_n 0, 1), (31, .bipush 47, 2), (33, .if_icmp .ne 7, 3), (36, .iconst 5, 1), (37, .goto 15, 3), (40, .iload_n 0, 1), (41, .bipush 37, 2), (43, .if_icmp .ne 8, 3), (46, .bipush 6, 2)]
theorem kX12_sumSign_1 : chkB cX12_sumSign LX12_sumSign_1 = true := by decide +kernel
theorem dX12_sumSign_23 : decode cX12_sumSign 23 = .ok (.if_icmp .ne 7, 3) := getB' kX12_sumSign_1 0 rfl
theorem dX12_sumSign_26 : decode cX12_sumSign 26 = .ok (.iconst 4, 1) := getB' kX12_sumSign_1 1 rfl
theorem dX12_sumSign_27 : decode cX12_sumSign 27 = .ok (.goto 25, 3) := getB' kX12_sumSign_1 2 rfl
theorem dX12_sumSign_30 : decode cX12_sumSign 30 = .ok (.iload_n 0, 1) := getB' kX12_sumSign_1 3 rfl
theorem dX12_sumSign_31 : decode cX12_sumSign 31 = .ok (.bipush 47, 2) := getB' kX12_sumSign_1 4 rfl
theorem dX12_sumSign_33 : decode cX12_sumSign 33 = .ok (.if_icmp .ne 7, 3) := getB' kX12_sumSign_1 5 rfl
theorem dX12_sumSign_36 : decode cX12_sumSign 36 = .ok (.iconst 5, 1) := getB' kX12_sumSign_1 6 rfl
theorem dX12_sumSign_37 : decode cX12_sumSign 37 = .ok (.goto 15, 3) := getB' kX12_sumSign_1 7 rfl
theorem dX12_sumSign_40 : decode cX12_sumSign 40 = .ok (.iload_n 0, 1) := getB' kX12_sumSign_1 8 rfl
theorem dX12_sumSign_41 : decode cX12_sumSign 41 = .ok (.bipush 37, 2) := getB' kX12_sumSign_1 9 rfl
theorem dX12_sumSign_43 : decode cX12_sumSign 43 = .ok (.if_icmp .ne 8, 3) := getB' kX12_sumSign_1 10 rfl
theorem dX12_sumSign_46 : decode cX12_sumSign 46 = .ok (.bipush 6, 2) := getB' kX12_sumSign_1 11 rfl
def LX12_sumSign_2 : List (Nat × Instr × Nat) := [(48, .goto 4, 3), (51, .iconst (-1), 1), (52, .ireturn, 1)]
theorem kX12_sumSign_2 : chkB cX12_sumSign LX12_sumSign_2 = true := by decide +kernel
theorem dX12_sumSign_48 : decode cX12_sumSign 48 = .ok (.goto 4, 3) := getB' kX12_sumSign_2 0 rfl
theorem dX12_sumSign_51 : decode cX12_sumSign 51 = .ok (.iconst (-1), 1) := getB' kX12_sumSign_2 1 rfl
theorem dX12_sumSign_52 : decode cX12_sumSign 52 = .ok (.ireturn, 1) := getB' kX12_sumSign_2 2 rfl
