def LX5_isClauseLetter : List (Nat × Instr × Nat) := [(0, .iload_n 0, 1), (1, .tableswitch 121 97 122 #[119, 121, 119, 121, 121, 119, 119, 121, 121, 121, 119, 119, 121, 119, 121, 121, 119, 121, 119, 121, 121, 121, 121, 119, 121, 119], 119), (120, .iconst 1, 1), (121, .ireturn, 1), (122, .iconst 0, 1), (123, .ireturn, 1)]
theorem kX5_isClauseLetter : chkB cX5_isClauseLetter LX5_isClauseLetter = true := by decide +kernel
theorem dX5_isClauseLetter_0 : decode cX5_isClauseLetter 0 = .ok (.iload_n 0, 1) := getB' kX5_isClauseLetter 0 rfl
theorem dX5_isClauseLetter_1 : decode cX5_isClauseLetter 1 = .ok (.tableswitch 121 97 122 #[119, 121, 119, 121, 121, 119, 119, 121, 121, 121, 119, 119, 121, 119, 121, 121, 119, 121, 119, 121, 121, 121, 121, 119, 121, 119], 119) := getB' kX5_isClauseLetter 1 rfl
theorem dX5_isClauseLetter_120 : decode cX5_isClauseLetter 120 = .ok (.iconst 1, 1) := getB' kX5_isClauseLetter 2 rfl
theorem dX5_isClauseLetter_121 : decode cX5_isClauseLetter 121 = .ok (.ireturn, 1) := getB' kX5_isClauseLetter 3 rfl
theorem dX5_isClauseLetter_122 : decode cX5_isClauseLetter 122 = .ok (.iconst 0, 1) := getB' kX5_isClauseLetter 4 rfl
theorem dX5_isClauseLetter_123 : decode cX5_isClauseLetter 123 = .ok (.ireturn, 1) := getB' kX5_isClauseLetter 5 rfl
def LX5_condition_0 : List (Nat × Instr × Nat) := [(0, .aload_n 0, 1), (1, .iconst 4, 1), (2, .aload_n 0, 1), (3, .getfield 31, 3), (6, .getfield 77, 3), (9, .invokevirtual 73, 3), (12, .aload_n 0, 1), (13, .bipush 40, 2), (15, .invokevirtual 80, 3), (18, .aload_n 0, 1), (19, .invokevirtual 83, 3), (22, .aload_n 0, 1)]
theorem kX5_condition_0 : chkB cX5_condition LX5_condition_0 = true := by decide +kernel
theorem dX5_condition_0 : decode cX5_condition 0 = .ok (.aload_n 0, 1) := getB' kX5_condition_0 0 rfl
theorem dX5_condition_1 : decode cX5_condition 1 = .ok (.iconst 4, 1) := getB' kX5_condition_0 1 rfl
theorem dX5_condition_2 : decode cX5_condition 2 = .ok (.aload_n 0, 1) := getB' kX5_condition_0 2 rfl
theorem dX5_condition_3 : decode cX5_condition 3 = .ok (.getfield 31, 3) := getB' kX5_condition_0 3 rfl
theorem dX5_condition_6 : decode cX5_condition 6 = .ok (.getfield 77, 3) := getB' kX5_condition_0 4 rfl
theorem dX5_condition_9 : decode cX5_condition 9 = .ok (.invokevirtual 73, 3) := getB' kX5_condition_0 5 rfl
theorem dX5_condition_12 : decode cX5_condition 12 = .ok (.aload_n 0, 1) := getB' kX5_condition_0 6 rfl
theorem dX5_condition_13 : decode cX5_condition 13 = .ok (.bipush 40, 2) := getB' kX5_condition_0 7 rfl
theorem dX5_condition_15 : decode cX5_condition 15 = .ok (.invokevirtual 80, 3) := getB' kX5_condition_0 8 rfl
theorem dX5_condition_18 : decode cX5_condition 18 = .ok (.aload_n 0, 1) := getB' kX5_condition_0 9 rfl
theorem dX5_condition_19 : decode cX5_condition 19 = .ok (.invokevirtual 83, 3) := getB' kX5_condition_0 10 rfl
theorem dX5_condition_22 : decode cX5_condition 22 = .ok (.aload_n 0, 1) := getB' kX5_condition_0 11 rfl
def LX5_condition_1 : List (Nat × Instr × Nat) := [(23, .dup, 1), (24, .getfield 15, 3), (27, .iconst 1, 1), (28, .isub, 1), (29, .putfield 15, 3), (32, .aload_n 0, 1), (33, .bipush 41, 2), (35, .invokevirtual 38, 3), (38, .aload_n 0, 1), (39, .iconst 5, 1), (40, .aload_n 0, 1), (41, .getfield 31, 3)]
theorem kX5_condition_1 : chkB cX5_condition LX5_condition_1 = true := by decide +kernel
theorem dX5_condition_23 : decode cX5_condition 23 = .ok (.dup, 1) := getB' kX5_condition_1 0 rfl
theorem dX5_condition_24 : decode cX5_condition 24 = .ok (.getfield 15, 3) := getB' kX5_condition_1 1 rfl
theorem dX5_condition_27 : decode cX5_condition 27 = .ok (.iconst 1, 1) := getB' kX5_condition_1 2 rfl
theorem dX5_condition_28 : decode cX5_condition 28 = .ok (.isub, 1) := getB' kX5_condition_1 3 rfl
theorem dX5_condition_29 : decode cX5_condition 29 = .ok (.putfield 15, 3) := getB' kX5_condition_1 4 rfl
theorem dX5_condition_32 : decode cX5_condition 32 = .ok (.aload_n 0, 1) := getB' kX5_condition_1 5 rfl
theorem dX5_condition_33 : decode cX5_condition 33 = .ok (.bipush 41, 2) := getB' kX5_condition_1 6 rfl
theorem dX5_condition_35 : decode cX5_condition 35 = .ok (.invokevirtual 38, 3) := getB' kX5_condition_1 7 rfl
theorem dX5_condition_38 : decode cX5_condition 38 = .ok (.aload_n 0, 1) := getB' kX5_condition_1 8 rfl
theorem dX5_condition_39 : decode cX5_condition 39 = .ok (.iconst 5, 1) := getB' kX5_condition_1 9 rfl
theorem dX5_condition_40 : decode cX5_condition 40 = .ok (.aload_n 0, 1) := getB' kX5_condition_1 10 rfl
theorem dX5_condition_41 : decode cX5_condition 41 = .ok (.getfield 31, 3) := getB' kX5_condition_1 11 rfl
def LX5_condition_2 : List (Nat × Instr × Nat) := [(44, .getfield 77, 3), (47, .invokevirtual 73, 3), (50, .return_, 1)]
theorem kX5_condition_2 : chkB cX5_condition LX5_condition_2 = true := by decide +kernel
theorem dX5_condition_44 : decode cX5_condition 44 = .ok (.getfield 77, 3) := getB' kX5_condition_2 0 rfl
theorem dX5_condition_47 : decode cX5_condition 47 = .ok (.invokevirtual 73, 3) := getB' kX5_condition_2 1 rfl
theorem dX5_condition_50 : decode cX5_condition 50 = .ok (.return_, 1) := getB' kX5_condition_2 2 rfl
def LX5_parts_0 : List (Nat × Instr × Nat) := [(0, .iconst (-1), 1), (1, .istore_n 1, 1), (2, .aload_n 0, 1), (3, .invokevirtual 86, 3), (6, .iconst 0, 1), (7, .istore_n 2, 1), (8, .iload_n 2, 1), (9, .sipush 200, 3), (12, .if_icmp .ge 57, 3), (15, .aload_n 0, 1), (16, .getfield 18, 3), (19, .ifCond .ne 50, 3)]
theorem kX5_parts_0 : chkB cX5_parts LX5_parts_0 = true := by decide +kernel
theorem dX5_parts_0 : decode cX5_parts 0 = .ok (.iconst (-1), 1) := getB' kX5_parts_0 0 rfl
theorem dX5_parts_1 : decode cX5_parts 1 = .ok (.istore_n 1, 1) := getB' kX5_parts_0 1 rfl
theorem dX5_parts_2 : decode cX5_parts 2 = .ok (.aload_n 0, 1) := getB' kX5_parts_0 2 rfl
theorem dX5_parts_3 : decode cX5_parts 3 = .ok (.invokevirtual 86, 3) := getB' kX5_parts_0 3 rfl
theorem dX5_parts_6 : decode cX5_parts 6 = .ok (.iconst 0, 1) := getB' kX5_parts_0 4 rfl
theorem dX5_parts_7 : decode cX5_parts 7 = .ok (.istore_n 2, 1) := getB' kX5_parts_0 5 rfl
theorem dX5_parts_8 : decode cX5_parts 8 = .ok (.iload_n 2, 1) := getB' kX5_parts_0 6 rfl
theorem dX5_parts_9 : decode cX5_parts 9 = .ok (.sipush 200, 3) := getB' kX5_parts_0 7 rfl
theorem dX5_parts_12 : decode cX5_parts 12 = .ok (.if_icmp .ge 57, 3) := getB' kX5_parts_0 8 rfl
theorem dX5_parts_15 : decode cX5_parts 15 = .ok (.aload_n 0, 1) := getB' kX5_parts_0 9 rfl
theorem dX5_parts_16 : decode cX5_parts 16 = .ok (.getfield 18, 3) := getB' kX5_parts_0 10 rfl
theorem dX5_parts_19 : decode cX5_parts 19 = .ok (.ifCond .ne 50, 3) := getB' kX5_parts_0 11 rfl
def LX5_parts_1 : List (Nat × Instr × Nat) := [(22, .aload_n 0, 1), (23, .invokevirtual 61, 3), (26, .bipush 124, 2), (28, .if_icmp .ne 41, 3), (31, .aload_n 0, 1), (32, .dup, 1), (33, .getfield 9, 3), (36, .iconst 1, 1), (37, .iadd, 1), (38, .putfield 9, 3), (41, .aload_n 0, 1), (42, .getfield 31, 3)]
theorem kX5_parts_1 : chkB cX5_parts LX5_parts_1 = true := by decide +kernel
theorem dX5_parts_22 : decode cX5_parts 22 = .ok (.aload_n 0, 1) := getB' kX5_parts_1 0 rfl
theorem dX5_parts_23 : decode cX5_parts 23 = .ok (.invokevirtual 61, 3) := getB' kX5_parts_1 1 rfl
theorem dX5_parts_26 : decode cX5_parts 26 = .ok (.bipush 124, 2) := getB' kX5_parts_1 2 rfl
theorem dX5_parts_28 : decode cX5_parts 28 = .ok (.if_icmp .ne 41, 3) := getB' kX5_parts_1 3 rfl
theorem dX5_parts_31 : decode cX5_parts 31 = .ok (.aload_n 0, 1) := getB' kX5_parts_1 4 rfl
theorem dX5_parts_32 : decode cX5_parts 32 = .ok (.dup, 1) := getB' kX5_parts_1 5 rfl
theorem dX5_parts_33 : decode cX5_parts 33 = .ok (.getfield 9, 3) := getB' kX5_parts_1 6 rfl
theorem dX5_parts_36 : decode cX5_parts 36 = .ok (.iconst 1, 1) := getB' kX5_parts_1 7 rfl
theorem dX5_parts_37 : decode cX5_parts 37 = .ok (.iadd, 1) := getB' kX5_parts_1 8 rfl
theorem dX5_parts_38 : decode cX5_parts 38 = .ok (.putfield 9, 3) := getB' kX5_parts_1 9 rfl
theorem dX5_parts_41 : decode cX5_parts 41 = .ok (.aload_n 0, 1) := getB' kX5_parts_1 10 rfl
theorem dX5_parts_42 : decode cX5_parts 42 = .ok (.getfield 31, 3) := getB' kX5_parts_1 11 rfl
def LX5_parts_2 : List (Nat × Instr × Nat) := [(45, .iload_n 1, 1), (46, .invokevirtual 89, 3), (49, .aload_n 0, 1), (50, .getfield 31, 3), (53, .iconst 3, 1), (54, .iconst 0, 1), (55, .invokevirtual 92, 3), (58, .istore_n 1, 1), (59, .aload_n 0, 1), (60, .invokevirtual 86, 3), (63, .iinc 2 1, 3), (66, .goto (-58), 3)]
theorem kX5_parts_2 : chkB cX5_parts LX5_parts_2 = true := by decide +kernel
theorem dX5_parts_45 : decode cX5_parts 45 = .ok (.iload_n 1, 1) := getB' kX5_parts_2 0 rfl
theorem dX5_parts_46 : decode cX5_parts 46 = .ok (.invokevirtual 89, 3) := getB' kX5_parts_2 1 rfl
theorem dX5_parts_49 : decode cX5_parts 49 = .ok (.aload_n 0, 1) := getB' kX5_parts_2 2 rfl
theorem dX5_parts_50 : decode cX5_parts 50 = .ok (.getfield 31, 3) := getB' kX5_parts_2 3 rfl
theorem dX5_parts_53 : decode cX5_parts 53 = .ok (.iconst 3, 1) := getB' kX5_parts_2 4 rfl
theorem dX5_parts_54 : decode cX5_parts 54 = .ok (.iconst 0, 1) := getB' kX5_parts_2 5 rfl
theorem dX5_parts_55 : decode cX5_parts 55 = .ok (.invokevirtual 92, 3) := getB' kX5_parts_2 6 rfl
theorem dX5_parts_58 : decode cX5_parts 58 = .ok (.istore_n 1, 1) := getB' kX5_parts_2 7 rfl
theorem dX5_parts_59 : decode cX5_parts 59 = .ok (.aload_n 0, 1) := getB' kX5_parts_2 8 rfl
theorem dX5_parts_60 : decode cX5_parts 60 = .ok (.invokevirtual 86, 3) := getB' kX5_parts_2 9 rfl
theorem dX5_parts_63 : decode cX5_parts 63 = .ok (.iinc 2 1, 3) := getB' kX5_parts_2 10 rfl
theorem dX5_parts_66 : decode cX5_parts 66 = .ok (.goto (-58), 3) := getB' kX5_parts_2 11 rfl
def LX5_parts_3 : List (Nat × Instr × Nat) := [(69, .aload_n 0, 1), (70, .getfield 31, 3), (73, .iload_n 1, 1), (74, .invokevirtual 89, 3), (77, .return_, 1)]
theorem kX5_parts_3 : chkB cX5_parts LX5_parts_3 = true := by decide +kernel
theorem dX5_parts_69 : decode cX5_parts 69 = .ok (.aload_n 0, 1) := getB' kX5_parts_3 0 rfl
theorem dX5_parts_70 : decode cX5_parts 70 = .ok (.getfield 31, 3) := getB' kX5_parts_3 1 rfl
theorem dX5_parts_73 : decode cX5_parts 73 = .ok (.iload_n 1, 1) := getB' kX5_parts_3 2 rfl
theorem dX5_parts_74 : decode cX5_parts 74 = .ok (.invokevirtual 89, 3) := getB' kX5_parts_3 3 rfl
theorem dX5_parts_77 : decode cX5_parts 77 = .ok (.return_, 1) := getB' kX5_parts_3 4 rfl
def LX5_part_0 : List (Nat × Instr × Nat) := [(0, .iconst (-1), 1), (1, .istore_n 1, 1), (2, .aload_n 0, 1), (3, .invokevirtual 96, 3), (6, .iconst 0, 1), (7, .istore_n 2, 1), (8, .iload_n 2, 1), (9, .sipush 200, 3), (12, .if_icmp .ge 57, 3), (15, .aload_n 0, 1), (16, .getfield 18, 3), (19, .ifCond .ne 50, 3)]
theorem kX5_part_0 : chkB cX5_part LX5_part_0 = true := by decide +kernel
theorem dX5_part_0 : decode cX5_part 0 = .ok (.iconst (-1), 1) := getB' kX5_part_0 0 rfl
theorem dX5_part_1 : decode cX5_part 1 = .ok (.istore_n 1, 1) := getB' kX5_part_0 1 rfl
theorem dX5_part_2 : decode cX5_part 2 = .ok (.aload_n 0, 1) := getB' kX5_part_0 2 rfl
theorem dX5_part_3 : decode cX5_part 3 = .ok (.invokevirtual 96, 3) := getB' kX5_part_0 3 rfl
theorem dX5_part_6 : decode cX5_part 6 = .ok (.iconst 0, 1) := getB' kX5_part_0 4 rfl
theorem dX5_part_7 : decode cX5_part 7 = .ok (.istore_n 2, 1) := getB' kX5_part_0 5 rfl
theorem dX5_part_8 : decode cX5_part 8 = .ok (.iload_n 2, 1) := getB' kX5_part_0 6 rfl
theorem dX5_part_9 : decode cX5_part 9 = .ok (.sipush 200, 3) := getB' kX5_part_0 7 rfl
theorem dX5_part_12 : decode cX5_part 12 = .ok (.if_icmp .ge 57, 3) := getB' kX5_part_0 8 rfl
theorem dX5_part_15 : decode cX5_part 15 = .ok (.aload_n 0, 1) := getB' kX5_part_0 9 rfl
theorem dX5_part_16 : decode cX5_part 16 = .ok (.getfield 18, 3) := getB' kX5_part_0 10 rfl
theorem dX5_part_19 : decode cX5_part 19 = .ok (.ifCond .ne 50, 3) := getB' kX5_part_0 11 rfl
def LX5_part_1 : List (Nat × Instr × Nat) := [(22, .aload_n 0, 1), (23, .invokevirtual 61, 3), (26, .bipush 38, 2), (28, .if_icmp .ne 41, 3), (31, .aload_n 0, 1), (32, .dup, 1), (33, .getfield 9, 3), (36, .iconst 1, 1), (37, .iadd, 1), (38, .putfield 9, 3), (41, .aload_n 0, 1), (42, .getfield 31, 3)]
theorem kX5_part_1 : chkB cX5_part LX5_part_1 = true := by decide +kernel
theorem dX5_part_22 : decode cX5_part 22 = .ok (.aload_n 0, 1) := getB' kX5_part_1 0 rfl
theorem dX5_part_23 : decode cX5_part 23 = .ok (.invokevirtual 61, 3) := getB' kX5_part_1 1 rfl
theorem dX5_part_26 : decode cX5_part 26 = .ok (.bipush 38, 2) := getB' kX5_part_1 2 rfl
theorem dX5_part_28 : decode cX5_part 28 = .ok (.if_icmp .ne 41, 3) := getB' kX5_part_1 3 rfl
theorem dX5_part_31 : decode cX5_part 31 = .ok (.aload_n 0, 1) := getB' kX5_part_1 4 rfl
theorem dX5_part_32 : decode cX5_part 32 = .ok (.dup, 1) := getB' kX5_part_1 5 rfl
theorem dX5_part_33 : decode cX5_part 33 = .ok (.getfield 9, 3) := getB' kX5_part_1 6 rfl
theorem dX5_part_36 : decode cX5_part 36 = .ok (.iconst 1, 1) := getB' kX5_part_1 7 rfl
theorem dX5_part_37 : decode cX5_part 37 = .ok (.iadd, 1) := getB' kX5_part_1 8 rfl
theorem dX5_part_38 : decode cX5_part 38 = .ok (.putfield 9, 3) := getB' kX5_part_1 9 rfl
theorem dX5_part_41 : decode cX5_part 41 = .ok (.aload_n 0, 1) := getB' kX5_part_1 10 rfl
theorem dX5_part_42 : decode cX5_part 42 = .ok (.getfield 31, 3) := getB' kX5_part_1 11 rfl
def LX5_part_2 : List (Nat × Instr × Nat) := [(45, .iload_n 1, 1), (46, .invokevirtual 89, 3), (49, .aload_n 0, 1), (50, .getfield 31, 3), (53, .iconst 4, 1), (54, .iconst 0, 1), (55, .invokevirtual 92, 3), (58, .istore_n 1, 1), (59, .aload_n 0, 1), (60, .invokevirtual 96, 3), (63, .iinc 2 1, 3), (66, .goto (-58), 3)]
theorem kX5_part_2 : chkB cX5_part LX5_part_2 = true := by decide +kernel
theorem dX5_part_45 : decode cX5_part 45 = .ok (.iload_n 1, 1) := getB' kX5_part_2 0 rfl
theorem dX5_part_46 : decode cX5_part 46 = .ok (.invokevirtual 89, 3) := getB' kX5_part_2 1 rfl
theorem dX5_part_49 : decode cX5_part 49 = .ok (.aload_n 0, 1) := getB' kX5_part_2 2 rfl
theorem dX5_part_50 : decode cX5_part 50 = .ok (.getfield 31, 3) := getB' kX5_part_2 3 rfl
theorem dX5_part_53 : decode cX5_part 53 = .ok (.iconst 4, 1) := getB' kX5_part_2 4 rfl
theorem dX5_part_54 : decode cX5_part 54 = .ok (.iconst 0, 1) := getB' kX5_part_2 5 rfl
theorem dX5_part_55 : decode cX5_part 55 = .ok (.invokevirtual 92, 3) := getB' kX5_part_2 6 rfl
theorem dX5_part_58 : decode cX5_part 58 = .ok (.istore_n 1, 1) := getB' kX5_part_2 7 rfl
theorem dX5_part_59 : decode cX5_part 59 = .ok (.aload_n 0, 1) := getB' kX5_part_2 8 rfl
theorem dX5_part_60 : decode cX5_part 60 = .ok (.invokevirtual 96, 3) := getB' kX5_part_2 9 rfl
theorem dX5_part_63 : decode cX5_part 63 = .ok (.iinc 2 1, 3) := getB' kX5_part_2 10 rfl
theorem dX5_part_66 : decode cX5_part 66 = .ok (.goto (-58), 3) := getB' kX5_part_2 11 rfl
def LX5_part_3 : List (Nat × Instr × Nat) := [(69, .aload_n 0, 1), (70, .getfield 31, 3), (73, .iload_n 1, 1), (74, .invokevirtual 89, 3), (77, .return_, 1)]
theorem kX5_part_3 : chkB cX5_part LX5_part_3 = true := by decide +kernel
theorem dX5_part_69 : decode cX5_part 69 = .ok (.aload_n 0, 1) := getB' kX5_part_3 0 rfl
theorem dX5_part_70 : decode cX5_part 70 = .ok (.getfield 31, 3) := getB' kX5_part_3 1 rfl
theorem dX5_part_73 : decode cX5_part 73 = .ok (.iload_n 1, 1) := getB' kX5_part_3 2 rfl
theorem dX5_part_74 : decode cX5_part 74 = .ok (.invokevirtual 89, 3) := getB' kX5_part_3 3 rfl
theorem dX5_part_77 : decode cX5_part 77 = .ok (.return_, 1) := getB' kX5_part_3 4 rfl
def LX5_piece_0 : List (Nat × Instr × Nat) := [(0, .aload_n 0, 1), (1, .getfield 18, 3), (4, .ifCond .eq 4, 3), (7, .return_, 1), (8, .aload_n 0, 1), (9, .invokevirtual 61, 3), (12, .istore_n 1, 1), (13, .iload_n 1, 1), (14, .bipush 33, 2), (16, .if_icmp .ne 10, 3), (19, .aload_n 0, 1), (20, .invokevirtual 99, 3)]
theorem kX5_piece_0 : chkB cX5_piece LX5_piece_0 = true := by decide +kernel
theorem dX5_piece_0 : decode cX5_piece 0 = .ok (.aload_n 0, 1) := getB' kX5_piece_0 0 rfl
theorem dX5_piece_1 : decode cX5_piece 1 = .ok (.getfield 18, 3) := getB' kX5_piece_0 1 rfl
theorem dX5_piece_4 : decode cX5_piece 4 = .ok (.ifCond .eq 4, 3) := getB' kX5_piece_0 2 rfl
theorem dX5_piece_7 : decode cX5_piece 7 = .ok (.return_, 1) := getB' kX5_piece_0 3 rfl
theorem dX5_piece_8 : decode cX5_piece 8 = .ok (.aload_n 0, 1) := getB' kX5_piece_0 4 rfl
theorem dX5_piece_9 : decode cX5_piece 9 = .ok (.invokevirtual 61, 3) := getB' kX5_piece_0 5 rfl
theorem dX5_piece_12 : decode cX5_piece 12 = .ok (.istore_n 1, 1) := getB' kX5_piece_0 6 rfl
theorem dX5_piece_13 : decode cX5_piece 13 = .ok (.iload_n 1, 1) := getB' kX5_piece_0 7 rfl
theorem dX5_piece_14 : decode cX5_piece 14 = .ok (.bipush 33, 2) := getB' kX5_piece_0 8 rfl
theorem dX5_piece_16 : decode cX5_piece 16 = .ok (.if_icmp .ne 10, 3) := getB' kX5_piece_0 9 rfl
theorem dX5_piece_19 : decode cX5_piece 19 = .ok (.aload_n 0, 1) := getB' kX5_piece_0 10 rfl
theorem dX5_piece_20 : decode cX5_piece 20 = .ok (.invokevirtual 99, 3) := getB' kX5_piece_0 11 rfl
def LX5_piece_1 : List (Nat × Instr × Nat) := [(23, .goto 75, 3), (26, .iload_n 1, 1), (27, .bipush 40, 2), (29, .if_icmp .ne 32, 3), (32, .aload_n 0, 1), (33, .bipush 40, 2), (35, .invokevirtual 80, 3), (38, .aload_n 0, 1), (39, .invokevirtual 83, 3), (42, .aload_n 0, 1), (43, .dup, 1), (44, .getfield 15, 3)]
theorem kX5_piece_1 : chkB cX5_piece LX5_piece_1 = true := by decide +kernel
theorem dX5_piece_23 : decode cX5_piece 23 = .ok (.goto 75, 3) := getB' kX5_piece_1 0 rfl
theorem dX5_piece_26 : decode cX5_piece 26 = .ok (.iload_n 1, 1) := getB' kX5_piece_1 1 rfl
theorem dX5_piece_27 : decode cX5_piece 27 = .ok (.bipush 40, 2) := getB' kX5_piece_1 2 rfl
theorem dX5_piece_29 : decode cX5_piece 29 = .ok (.if_icmp .ne 32, 3) := getB' kX5_piece_1 3 rfl
theorem dX5_piece_32 : decode cX5_piece 32 = .ok (.aload_n 0, 1) := getB' kX5_piece_1 4 rfl
theorem dX5_piece_33 : decode cX5_piece 33 = .ok (.bipush 40, 2) := getB' kX5_piece_1 5 rfl
theorem dX5_piece_35 : decode cX5_piece 35 = .ok (.invokevirtual 80, 3) := getB' kX5_piece_1 6 rfl
theorem dX5_piece_38 : decode cX5_piece 38 = .ok (.aload_n 0, 1) := getB' kX5_piece_1 7 rfl
theorem dX5_piece_39 : decode cX5_piece 39 = .ok (.invokevirtual 83, 3) := getB' kX5_piece_1 8 rfl
theorem dX5_piece_42 : decode cX5_piece 42 = .ok (.aload_n 0, 1) := getB' kX5_piece_1 9 rfl
theorem dX5_piece_43 : decode cX5_piece 43 = .ok (.dup, 1) := getB' kX5_piece_1 10 rfl
theorem dX5_piece_44 : decode cX5_piece 44 = .ok (.getfield 15, 3) := getB' kX5_piece_1 11 rfl
def LX5_piece_2 : List (Nat × Instr × Nat) := [(47, .iconst 1, 1), (48, .isub, 1), (49, .putfield 15, 3), (52, .aload_n 0, 1), (53, .bipush 41, 2), (55, .invokevirtual 38, 3), (58, .goto 40, 3), (61, .aload_n 0, 1), (62, .invokevirtual 102, 3), (65, .aload_n 0, 1), (66, .aload_n 0, 1), (67, .invokevirtual 61, 3)]
theorem kX5_piece_2 : chkB cX5_piece LX5_piece_2 = true := by decide +kernel
theorem dX5_piece_47 : decode cX5_piece 47 = .ok (.iconst 1, 1) := getB' kX5_piece_2 0 rfl
theorem dX5_piece_48 : decode cX5_piece 48 = .ok (.isub, 1) := getB' kX5_piece_2 1 rfl
theorem dX5_piece_49 : decode cX5_piece 49 = .ok (.putfield 15, 3) := getB' kX5_piece_2 2 rfl
theorem dX5_piece_52 : decode cX5_piece 52 = .ok (.aload_n 0, 1) := getB' kX5_piece_2 3 rfl
theorem dX5_piece_53 : decode cX5_piece 53 = .ok (.bipush 41, 2) := getB' kX5_piece_2 4 rfl
theorem dX5_piece_55 : decode cX5_piece 55 = .ok (.invokevirtual 38, 3) := getB' kX5_piece_2 5 rfl
theorem dX5_piece_58 : decode cX5_piece 58 = .ok (.goto 40, 3) := getB' kX5_piece_2 6 rfl
theorem dX5_piece_61 : decode cX5_piece 61 = .ok (.aload_n 0, 1) := getB' kX5_piece_2 7 rfl
theorem dX5_piece_62 : decode cX5_piece 62 = .ok (.invokevirtual 102, 3) := getB' kX5_piece_2 8 rfl
theorem dX5_piece_65 : decode cX5_piece 65 = .ok (.aload_n 0, 1) := getB' kX5_piece_2 9 rfl
theorem dX5_piece_66 : decode cX5_piece 66 = .ok (.aload_n 0, 1) := getB' kX5_piece_2 10 rfl
theorem dX5_piece_67 : decode cX5_piece 67 = .ok (.invokevirtual 61, 3) := getB' kX5_piece_2 11 rfl
def LX5_piece_3 : List (Nat × Instr × Nat) := [(70, .invokevirtual 105, 3), (73, .istore_n 2, 1), (74, .aload_n 0, 1), (75, .dup, 1), (76, .getfield 9, 3), (79, .iconst 1, 1), (80, .iadd, 1), (81, .putfield 9, 3), (84, .aload_n 0, 1), (85, .invokevirtual 102, 3), (88, .aload_n 0, 1), (89, .getfield 31, 3)]
theorem kX5_piece_3 : chkB cX5_piece LX5_piece_3 = true := by decide +kernel
theorem dX5_piece_70 : decode cX5_piece 70 = .ok (.invokevirtual 105, 3) := getB' kX5_piece_3 0 rfl
theorem dX5_piece_73 : decode cX5_piece 73 = .ok (.istore_n 2, 1) := getB' kX5_piece_3 1 rfl
theorem dX5_piece_74 : decode cX5_piece 74 = .ok (.aload_n 0, 1) := getB' kX5_piece_3 2 rfl
theorem dX5_piece_75 : decode cX5_piece 75 = .ok (.dup, 1) := getB' kX5_piece_3 3 rfl
theorem dX5_piece_76 : decode cX5_piece 76 = .ok (.getfield 9, 3) := getB' kX5_piece_3 4 rfl
theorem dX5_piece_79 : decode cX5_piece 79 = .ok (.iconst 1, 1) := getB' kX5_piece_3 5 rfl
theorem dX5_piece_80 : decode cX5_piece 80 = .ok (.iadd, 1) := getB' kX5_piece_3 6 rfl
theorem dX5_piece_81 : decode cX5_piece 81 = .ok (.putfield 9, 3) := getB' kX5_piece_3 7 rfl
theorem dX5_piece_84 : decode cX5_piece 84 = .ok (.aload_n 0, 1) := getB' kX5_piece_3 8 rfl
theorem dX5_piece_85 : decode cX5_piece 85 = .ok (.invokevirtual 102, 3) := getB' kX5_piece_3 9 rfl
theorem dX5_piece_88 : decode cX5_piece 88 = .ok (.aload_n 0, 1) := getB' kX5_piece_3 10 rfl
theorem dX5_piece_89 : decode cX5_piece 89 = .ok (.getfield 31, 3) := getB' kX5_piece_3 11 rfl
def LX5_piece_4 : List (Nat × Instr × Nat) := [(92, .iload_n 2, 1), (93, .iconst 0, 1), (94, .invokevirtual 92, 3), (97, .pop, 1), (98, .return_, 1)]
theorem kX5_piece_4 : chkB cX5_piece LX5_piece_4 = true := by decide +kernel
theorem dX5_piece_92 : decode cX5_piece 92 = .ok (.iload_n 2, 1) := getB' kX5_piece_4 0 rfl
theorem dX5_piece_93 : decode cX5_piece 93 = .ok (.iconst 0, 1) := getB' kX5_piece_4 1 rfl
theorem dX5_piece_94 : decode cX5_piece 94 = .ok (.invokevirtual 92, 3) := getB' kX5_piece_4 2 rfl
theorem dX5_piece_97 : decode cX5_piece 97 = .ok (.pop, 1) := getB' kX5_piece_4 3 rfl
theorem dX5_piece_98 : decode cX5_piece 98 = .ok (.return_, 1) := getB' kX5_piece_4 4 rfl
def LX5_negation_0 : List (Nat × Instr × Nat) := [(0, .aload_n 0, 1), (1, .bipush 33, 2), (3, .invokevirtual 80, 3), (6, .aload_n 0, 1), (7, .invokevirtual 96, 3), (10, .aload_n 0, 1), (11, .dup, 1), (12, .getfield 15, 3), (15, .iconst 1, 1), (16, .isub, 1), (17, .putfield 15, 3), (20, .aload_n 0, 1)]
theorem kX5_negation_0 : chkB cX5_negation LX5_negation_0 = true := by decide +kernel
theorem dX5_negation_0 : decode cX5_negation 0 = .ok (.aload_n 0, 1) := getB' kX5_negation_0 0 rfl
theorem dX5_negation_1 : decode cX5_negation 1 = .ok (.bipush 33, 2) := getB' kX5_negation_0 1 rfl
theorem dX5_negation_3 : decode cX5_negation 3 = .ok (.invokevirtual 80, 3) := getB' kX5_negation_0 2 rfl
theorem dX5_negation_6 : decode cX5_negation 6 = .ok (.aload_n 0, 1) := getB' kX5_negation_0 3 rfl
theorem dX5_negation_7 : decode cX5_negation 7 = .ok (.invokevirtual 96, 3) := getB' kX5_negation_0 4 rfl
theorem dX5_negation_10 : decode cX5_negation 10 = .ok (.aload_n 0, 1) := getB' kX5_negation_0 5 rfl
theorem dX5_negation_11 : decode cX5_negation 11 = .ok (.dup, 1) := getB' kX5_negation_0 6 rfl
theorem dX5_negation_12 : decode cX5_negation 12 = .ok (.getfield 15, 3) := getB' kX5_negation_0 7 rfl
theorem dX5_negation_15 : decode cX5_negation 15 = .ok (.iconst 1, 1) := getB' kX5_negation_0 8 rfl
theorem dX5_negation_16 : decode cX5_negation 16 = .ok (.isub, 1) := getB' kX5_negation_0 9 rfl
theorem dX5_negation_17 : decode cX5_negation 17 = .ok (.putfield 15, 3) := getB' kX5_negation_0 10 rfl
theorem dX5_negation_20 : decode cX5_negation 20 = .ok (.aload_n 0, 1) := getB' kX5_negation_0 11 rfl
def LX5_negation_1 : List (Nat × Instr × Nat) := [(21, .getfield 31, 3), (24, .iconst 2, 1), (25, .iconst 0, 1), (26, .invokevirtual 92, 3), (29, .pop, 1), (30, .return_, 1)]
theorem kX5_negation_1 : chkB cX5_negation LX5_negation_1 = true := by decide +kernel
theorem dX5_negation_21 : decode cX5_negation 21 = .ok (.getfield 31, 3) := getB' kX5_negation_1 0 rfl
theorem dX5_negation_24 : decode cX5_negation 24 = .ok (.iconst 2, 1) := getB' kX5_negation_1 1 rfl
theorem dX5_negation_25 : decode cX5_negation 25 = .ok (.iconst 0, 1) := getB' kX5_negation_1 2 rfl
theorem dX5_negation_26 : decode cX5_negation 26 = .ok (.invokevirtual 92, 3) := getB' kX5_negation_1 3 rfl
theorem dX5_negation_29 : decode cX5_negation 29 = .ok (.pop, 1) := getB' kX5_negation_1 4 rfl
theorem dX5_negation_30 : decode cX5_negation 30 = .ok (.return_, 1) := getB' kX5_negation_1 5 rfl
def LX5_comparison_0 : List (Nat × Instr × Nat) := [(0, .iload_n 1, 1), (1, .bipush 60, 2), (3, .if_icmp .eq 24, 3), (6, .iload_n 1, 1), (7, .bipush 62, 2), (9, .if_icmp .eq 18, 3), (12, .iload_n 1, 1), (13, .bipush 61, 2), (15, .if_icmp .eq 12, 3), (18, .aload_n 0, 1), (19, .iconst 1, 1), (20, .aload_n 0, 1)]
theorem kX5_comparison_0 : chkB cX5_comparison LX5_comparison_0 = true := by decide +kernel
theorem dX5_comparison_0 : decode cX5_comparison 0 = .ok (.iload_n 1, 1) := getB' kX5_comparison_0 0 rfl
theorem dX5_comparison_1 : decode cX5_comparison 1 = .ok (.bipush 60, 2) := getB' kX5_comparison_0 1 rfl
theorem dX5_comparison_3 : decode cX5_comparison 3 = .ok (.if_icmp .eq 24, 3) := getB' kX5_comparison_0 2 rfl
theorem dX5_comparison_6 : decode cX5_comparison 6 = .ok (.iload_n 1, 1) := getB' kX5_comparison_0 3 rfl
theorem dX5_comparison_7 : decode cX5_comparison 7 = .ok (.bipush 62, 2) := getB' kX5_comparison_0 4 rfl
theorem dX5_comparison_9 : decode cX5_comparison 9 = .ok (.if_icmp .eq 18, 3) := getB' kX5_comparison_0 5 rfl
theorem dX5_comparison_12 : decode cX5_comparison 12 = .ok (.iload_n 1, 1) := getB' kX5_comparison_0 6 rfl
theorem dX5_comparison_13 : decode cX5_comparison 13 = .ok (.bipush 61, 2) := getB' kX5_comparison_0 7 rfl
theorem dX5_comparison_15 : decode cX5_comparison 15 = .ok (.if_icmp .eq 12, 3) := getB' kX5_comparison_0 8 rfl
theorem dX5_comparison_18 : decode cX5_comparison 18 = .ok (.aload_n 0, 1) := getB' kX5_comparison_0 9 rfl
theorem dX5_comparison_19 : decode cX5_comparison 19 = .ok (.iconst 1, 1) := getB' kX5_comparison_0 10 rfl
theorem dX5_comparison_20 : decode cX5_comparison 20 = .ok (.aload_n 0, 1) := getB' kX5_comparison_0 11 rfl
def LX5_comparison_1 : List (Nat × Instr × Nat) := [(21, .getfield 9, 3), (24, .invokevirtual 57, 3), (27, .iload_n 1, 1), (28, .bipush 60, 2), (30, .if_icmp .ne 8, 3), (33, .bipush 10, 2), (35, .goto 16, 3), (38, .iload_n 1, 1), (39, .bipush 62, 2), (41, .if_icmp .ne 8, 3), (44, .bipush 11, 2), (46, .goto 5, 3)]
theorem kX5_comparison_1 : chkB cX5_comparison LX5_comparison_1 = true := by decide +kernel
theorem dX5_comparison_21 : decode cX5_comparison 21 = .ok (.getfield 9, 3) := getB' kX5_comparison_1 0 rfl
theorem dX5_comparison_24 : decode cX5_comparison 24 = .ok (.invokevirtual 57, 3) := getB' kX5_comparison_1 1 rfl
theorem dX5_comparison_27 : decode cX5_comparison 27 = .ok (.iload_n 1, 1) := getB' kX5_comparison_1 2 rfl
theorem dX5_comparison_28 : decode cX5_comparison 28 = .ok (.bipush 60, 2) := getB' kX5_comparison_1 3 rfl
theorem dX5_comparison_30 : decode cX5_comparison 30 = .ok (.if_icmp .ne 8, 3) := getB' kX5_comparison_1 4 rfl
theorem dX5_comparison_33 : decode cX5_comparison 33 = .ok (.bipush 10, 2) := getB' kX5_comparison_1 5 rfl
theorem dX5_comparison_35 : decode cX5_comparison 35 = .ok (.goto 16, 3) := getB' kX5_comparison_1 6 rfl
theorem dX5_comparison_38 : decode cX5_comparison 38 = .ok (.iload_n 1, 1) := getB' kX5_comparison_1 7 rfl
theorem dX5_comparison_39 : decode cX5_comparison 39 = .ok (.bipush 62, 2) := getB' kX5_comparison_1 8 rfl
theorem dX5_comparison_41 : decode cX5_comparison 41 = .ok (.if_icmp .ne 8, 3) := getB' kX5_comparison_1 9 rfl
theorem dX5_comparison_44 : decode cX5_comparison 44 = .ok (.bipush 11, 2) := getB' kX5_comparison_1 10 rfl
theorem dX5_comparison_46 : decode cX5_comparison 46 = .ok (.goto 5, 3) := getB' kX5_comparison_1 11 rfl
def LX5_comparison_2 : List (Nat × Instr × Nat) := [(49, .bipush 12, 2), (51, .ireturn, 1)]
theorem kX5_comparison_2 : chkB cX5_comparison LX5_comparison_2 = true := by decide +kernel
theorem dX5_comparison_49 : decode cX5_comparison 49 = .ok (.bipush 12, 2) := getB' kX5_comparison_2 0 rfl
theorem dX5_comparison_51 : decode cX5_comparison 51 = .ok (.ireturn, 1) := getB' kX5_comparison_2 1 rfl
def LX5_terms_0 : List (Nat × Instr × Nat) := [(0, .aload_n 0, 1), (1, .invokevirtual 108, 3), (4, .iconst 0, 1), (5, .istore_n 1, 1), (6, .iload_n 1, 1), (7, .sipush 200, 3), (10, .if_icmp .ge 74, 3), (13, .aload_n 0, 1), (14, .getfield 18, 3), (17, .ifCond .ne 67, 3), (20, .aload_n 0, 1), (21, .invokevirtual 61, 3)]
theorem kX5_terms_0 : chkB cX5_terms LX5_terms_0 = true := by decide +kernel
theorem dX5_terms_0 : decode cX5_terms 0 = .ok (.aload_n 0, 1) := getB' kX5_terms_0 0 rfl
theorem dX5_terms_1 : decode cX5_terms 1 = .ok (.invokevirtual 108, 3) := getB' kX5_terms_0 1 rfl
theorem dX5_terms_4 : decode cX5_terms 4 = .ok (.iconst 0, 1) := getB' kX5_terms_0 2 rfl
theorem dX5_terms_5 : decode cX5_terms 5 = .ok (.istore_n 1, 1) := getB' kX5_terms_0 3 rfl
theorem dX5_terms_6 : decode cX5_terms 6 = .ok (.iload_n 1, 1) := getB' kX5_terms_0 4 rfl
theorem dX5_terms_7 : decode cX5_terms 7 = .ok (.sipush 200, 3) := getB' kX5_terms_0 5 rfl
theorem dX5_terms_10 : decode cX5_terms 10 = .ok (.if_icmp .ge 74, 3) := getB' kX5_terms_0 6 rfl
theorem dX5_terms_13 : decode cX5_terms 13 = .ok (.aload_n 0, 1) := getB' kX5_terms_0 7 rfl
theorem dX5_terms_14 : decode cX5_terms 14 = .ok (.getfield 18, 3) := getB' kX5_terms_0 8 rfl
theorem dX5_terms_17 : decode cX5_terms 17 = .ok (.ifCond .ne 67, 3) := getB' kX5_terms_0 9 rfl
theorem dX5_terms_20 : decode cX5_terms 20 = .ok (.aload_n 0, 1) := getB' kX5_terms_0 10 rfl
theorem dX5_terms_21 : decode cX5_terms 21 = .ok (.invokevirtual 61, 3) := getB' kX5_terms_0 11 rfl
def LX5_terms_1 : List (Nat × Instr × Nat) := [(24, .bipush 43, 2), (26, .if_icmp .eq 12, 3), (29, .aload_n 0, 1), (30, .invokevirtual 61, 3), (33, .bipush 45, 2), (35, .if_icmp .ne 49, 3), (38, .aload_n 0, 1), (39, .invokevirtual 61, 3), (42, .bipush 43, 2), (44, .if_icmp .ne 7, 3), (47, .iconst 5, 1), (48, .goto 5, 3)]
theorem kX5_terms_1 : chkB cX5_terms LX5_terms_1 = true := by decide +kernel
theorem dX5_terms_24 : decode cX5_terms 24 = .ok (.bipush 43, 2) := getB' kX5_terms_1 0 rfl
theorem dX5_terms_26 : decode cX5_terms 26 = .ok (.if_icmp .eq 12, 3) := getB' kX5_terms_1 1 rfl
theorem dX5_terms_29 : decode cX5_terms 29 = .ok (.aload_n 0, 1) := getB' kX5_terms_1 2 rfl
theorem dX5_terms_30 : decode cX5_terms 30 = .ok (.invokevirtual 61, 3) := getB' kX5_terms_1 3 rfl
theorem dX5_terms_33 : decode cX5_terms 33 = .ok (.bipush 45, 2) := getB' kX5_terms_1 4 rfl
theorem dX5_terms_35 : decode cX5_terms 35 = .ok (.if_icmp .ne 49, 3) := getB' kX5_terms_1 5 rfl
theorem dX5_terms_38 : decode cX5_terms 38 = .ok (.aload_n 0, 1) := getB' kX5_terms_1 6 rfl
theorem dX5_terms_39 : decode cX5_terms 39 = .ok (.invokevirtual 61, 3) := getB' kX5_terms_1 7 rfl
theorem dX5_terms_42 : decode cX5_terms 42 = .ok (.bipush 43, 2) := getB' kX5_terms_1 8 rfl
theorem dX5_terms_44 : decode cX5_terms 44 = .ok (.if_icmp .ne 7, 3) := getB' kX5_terms_1 9 rfl
theorem dX5_terms_47 : decode cX5_terms 47 = .ok (.iconst 5, 1) := getB' kX5_terms_1 10 rfl
theorem dX5_terms_48 : decode cX5_terms 48 = .ok (.goto 5, 3) := getB' kX5_terms_1 11 rfl
def LX5_terms_2 : List (Nat × Instr × Nat) := [(51, .bipush 6, 2), (53, .istore_n 2, 1), (54, .aload_n 0, 1), (55, .dup, 1), (56, .getfield 9, 3), (59, .iconst 1, 1), (60, .iadd, 1), (61, .putfield 9, 3), (64, .aload_n 0, 1), (65, .invokevirtual 108, 3), (68, .aload_n 0, 1), (69, .getfield 31, 3)]
theorem kX5_terms_2 : chkB cX5_terms LX5_terms_2 = true := by decide +kernel
theorem dX5_terms_51 : decode cX5_terms 51 = .ok (.bipush 6, 2) := getB' kX5_terms_2 0 rfl
theorem dX5_terms_53 : decode cX5_terms 53 = .ok (.istore_n 2, 1) := getB' kX5_terms_2 1 rfl
theorem dX5_terms_54 : decode cX5_terms 54 = .ok (.aload_n 0, 1) := getB' kX5_terms_2 2 rfl
theorem dX5_terms_55 : decode cX5_terms 55 = .ok (.dup, 1) := getB' kX5_terms_2 3 rfl
theorem dX5_terms_56 : decode cX5_terms 56 = .ok (.getfield 9, 3) := getB' kX5_terms_2 4 rfl
theorem dX5_terms_59 : decode cX5_terms 59 = .ok (.iconst 1, 1) := getB' kX5_terms_2 5 rfl
theorem dX5_terms_60 : decode cX5_terms 60 = .ok (.iadd, 1) := getB' kX5_terms_2 6 rfl
theorem dX5_terms_61 : decode cX5_terms 61 = .ok (.putfield 9, 3) := getB' kX5_terms_2 7 rfl
theorem dX5_terms_64 : decode cX5_terms 64 = .ok (.aload_n 0, 1) := getB' kX5_terms_2 8 rfl
theorem dX5_terms_65 : decode cX5_terms 65 = .ok (.invokevirtual 108, 3) := getB' kX5_terms_2 9 rfl
theorem dX5_terms_68 : decode cX5_terms 68 = .ok (.aload_n 0, 1) := getB' kX5_terms_2 10 rfl
theorem dX5_terms_69 : decode cX5_terms 69 = .ok (.getfield 31, 3) := getB' kX5_terms_2 11 rfl
def LX5_terms_3 : List (Nat × Instr × Nat) := [(72, .iload_n 2, 1), (73, .iconst 0, 1), (74, .invokevirtual 92, 3), (77, .pop, 1), (78, .iinc 1 1, 3), (81, .goto (-75), 3), (84, .return_, 1)]
theorem kX5_terms_3 : chkB cX5_terms LX5_terms_3 = true := by decide +kernel
theorem dX5_terms_72 : decode cX5_terms 72 = .ok (.iload_n 2, 1) := getB' kX5_terms_3 0 rfl
theorem dX5_terms_73 : decode cX5_terms 73 = .ok (.iconst 0, 1) := getB' kX5_terms_3 1 rfl
theorem dX5_terms_74 : decode cX5_terms 74 = .ok (.invokevirtual 92, 3) := getB' kX5_terms_3 2 rfl
theorem dX5_terms_77 : decode cX5_terms 77 = .ok (.pop, 1) := getB' kX5_terms_3 3 rfl
theorem dX5_terms_78 : decode cX5_terms 78 = .ok (.iinc 1 1, 3) := getB' kX5_terms_3 4 rfl
theorem dX5_terms_81 : decode cX5_terms 81 = .ok (.goto (-75), 3) := getB' kX5_terms_3 5 rfl
theorem dX5_terms_84 : decode cX5_terms 84 = .ok (.return_, 1) := getB' kX5_terms_3 6 rfl
def LX5_factors_0 : List (Nat × Instr × Nat) := [(0, .aload_n 0, 1), (1, .invokevirtual 111, 3), (4, .iconst 0, 1), (5, .istore_n 1, 1), (6, .iload_n 1, 1), (7, .sipush 200, 3), (10, .if_icmp .ge 81, 3), (13, .aload_n 0, 1), (14, .getfield 18, 3), (17, .ifCond .ne 74, 3), (20, .aload_n 0, 1), (21, .invokevirtual 61, 3)]
theorem kX5_factors_0 : chkB cX5_factors LX5_factors_0 = true := by decide +kernel
theorem dX5_factors_0 : decode cX5_factors 0 = .ok (.aload_n 0, 1) := getB' kX5_factors_0 0 rfl
theorem dX5_factors_1 : decode cX5_factors 1 = .ok (.invokevirtual 111, 3) := getB' kX5_factors_0 1 rfl
theorem dX5_factors_4 : decode cX5_factors 4 = .ok (.iconst 0, 1) := getB' kX5_factors_0 2 rfl
theorem dX5_factors_5 : decode cX5_factors 5 = .ok (.istore_n 1, 1) := getB' kX5_factors_0 3 rfl
theorem dX5_factors_6 : decode cX5_factors 6 = .ok (.iload_n 1, 1) := getB' kX5_factors_0 4 rfl
theorem dX5_factors_7 : decode cX5_factors 7 = .ok (.sipush 200, 3) := getB' kX5_factors_0 5 rfl
theorem dX5_factors_10 : decode cX5_factors 10 = .ok (.if_icmp .ge 81, 3) := getB' kX5_factors_0 6 rfl
theorem dX5_factors_13 : decode cX5_factors 13 = .ok (.aload_n 0, 1) := getB' kX5_factors_0 7 rfl
theorem dX5_factors_14 : decode cX5_factors 14 = .ok (.getfield 18, 3) := getB' kX5_factors_0 8 rfl
theorem dX5_factors_17 : decode cX5_factors 17 = .ok (.ifCond .ne 74, 3) := getB' kX5_factors_0 9 rfl
theorem dX5_factors_20 : decode cX5_factors 20 = .ok (.aload_n 0, 1) := getB' kX5_factors_0 10 rfl
theorem dX5_factors_21 : decode cX5_factors 21 = .ok (.invokevirtual 61, 3) := getB' kX5_factors_0 11 rfl
def LX5_factors_1 : List (Nat × Instr × Nat) := [(24, .invokestatic 114, 3), (27, .ifCond .eq 64, 3), (30, .aload_n 0, 1), (31, .invokevirtual 61, 3), (34, .bipush 42, 2), (36, .if_icmp .ne 8, 3), (39, .bipush 7, 2), (41, .goto 19, 3), (44, .aload_n 0, 1), (45, .invokevirtual 61, 3), (48, .bipush 47, 2), (50, .if_icmp .ne 8, 3)]
theorem kX5_factors_1 : chkB cX5_factors LX5_factors_1 = true := by decide +kernel
theorem dX5_factors_24 : decode cX5_factors 24 = .ok (.invokestatic 114, 3) := getB' kX5_factors_1 0 rfl
theorem dX5_factors_27 : decode cX5_factors 27 = .ok (.ifCond .eq 64, 3) := getB' kX5_factors_1 1 rfl
theorem dX5_factors_30 : decode cX5_factors 30 = .ok (.aload_n 0, 1) := getB' kX5_factors_1 2 rfl
theorem dX5_factors_31 : decode cX5_factors 31 = .ok (.invokevirtual 61, 3) := getB' kX5_factors_1 3 rfl
theorem dX5_factors_34 : decode cX5_factors 34 = .ok (.bipush 42, 2) := getB' kX5_factors_1 4 rfl
theorem dX5_factors_36 : decode cX5_factors 36 = .ok (.if_icmp .ne 8, 3) := getB' kX5_factors_1 5 rfl
theorem dX5_factors_39 : decode cX5_factors 39 = .ok (.bipush 7, 2) := getB' kX5_factors_1 6 rfl
theorem dX5_factors_41 : decode cX5_factors 41 = .ok (.goto 19, 3) := getB' kX5_factors_1 7 rfl
theorem dX5_factors_44 : decode cX5_factors 44 = .ok (.aload_n 0, 1) := getB' kX5_factors_1 8 rfl
theorem dX5_factors_45 : decode cX5_factors 45 = .ok (.invokevirtual 61, 3) := getB' kX5_factors_1 9 rfl
theorem dX5_factors_48 : decode cX5_factors 48 = .ok (.bipush 47, 2) := getB' kX5_factors_1 10 rfl
theorem dX5_factors_50 : decode cX5_factors 50 = .ok (.if_icmp .ne 8, 3) := getB' kX5_factors_1 11 rfl
def LX5_factors_2 : List (Nat × Instr × Nat) := [(53, .bipush 8, 2), (55, .goto 5, 3), (58, .bipush 9, 2), (60, .istore_n 2, 1), (61, .aload_n 0, 1), (62, .dup, 1), (63, .getfield 9, 3), (66, .iconst 1, 1), (67, .iadd, 1), (68, .putfield 9, 3), (71, .aload_n 0, 1), (72, .invokevirtual 111, 3)]
theorem kX5_factors_2 : chkB cX5_factors LX5_factors_2 = true := by decide +kernel
theorem dX5_factors_53 : decode cX5_factors 53 = .ok (.bipush 8, 2) := getB' kX5_factors_2 0 rfl
theorem dX5_factors_55 : decode cX5_factors 55 = .ok (.goto 5, 3) := getB' kX5_factors_2 1 rfl
theorem dX5_factors_58 : decode cX5_factors 58 = .ok (.bipush 9, 2) := getB' kX5_factors_2 2 rfl
theorem dX5_factors_60 : decode cX5_factors 60 = .ok (.istore_n 2, 1) := getB' kX5_factors_2 3 rfl
theorem dX5_factors_61 : decode cX5_factors 61 = .ok (.aload_n 0, 1) := getB' kX5_factors_2 4 rfl
theorem dX5_factors_62 : decode cX5_factors 62 = .ok (.dup, 1) := getB' kX5_factors_2 5 rfl
theorem dX5_factors_63 : decode cX5_factors 63 = .ok (.getfield 9, 3) := getB' kX5_factors_2 6 rfl
theorem dX5_factors_66 : decode cX5_factors 66 = .ok (.iconst 1, 1) := getB' kX5_factors_2 7 rfl
theorem dX5_factors_67 : decode cX5_factors 67 = .ok (.iadd, 1) := getB' kX5_factors_2 8 rfl
theorem dX5_factors_68 : decode cX5_factors 68 = .ok (.putfield 9, 3) := getB' kX5_factors_2 9 rfl
theorem dX5_factors_71 : decode cX5_factors 71 = .ok (.aload_n 0, 1) := getB' kX5_factors_2 10 rfl
theorem dX5_factors_72 : decode cX5_factors 72 = .ok (.invokevirtual 111, 3) := getB' kX5_factors_2 11 rfl
def LX5_factors_3 : List (Nat × Instr × Nat) := [(75, .aload_n 0, 1), (76, .getfield 31, 3), (79, .iload_n 2, 1), (80, .iconst 0, 1), (81, .invokevirtual 92, 3), (84, .pop, 1), (85, .iinc 1 1, 3), (88, .goto (-82), 3), (91, .return_, 1)]
theorem kX5_factors_3 : chkB cX5_factors LX5_factors_3 = true := by decide +kernel
theorem dX5_factors_75 : decode cX5_factors 75 = .ok (.aload_n 0, 1) := getB' kX5_factors_3 0 rfl
theorem dX5_factors_76 : decode cX5_factors 76 = .ok (.getfield 31, 3) := getB' kX5_factors_3 1 rfl
theorem dX5_factors_79 : decode cX5_factors 79 = .ok (.iload_n 2, 1) := getB' kX5_factors_3 2 rfl
theorem dX5_factors_80 : decode cX5_factors 80 = .ok (.iconst 0, 1) := getB' kX5_factors_3 3 rfl
theorem dX5_factors_81 : decode cX5_factors 81 = .ok (.invokevirtual 92, 3) := getB' kX5_factors_3 4 rfl
theorem dX5_factors_84 : decode cX5_factors 84 = .ok (.pop, 1) := getB' kX5_factors_3 5 rfl
theorem dX5_factors_85 : decode cX5_factors 85 = .ok (.iinc 1 1, 3) := getB' kX5_factors_3 6 rfl
theorem dX5_factors_88 : decode cX5_factors 88 = .ok (.goto (-82), 3) := getB' kX5_factors_3 7 rfl
theorem dX5_factors_91 : decode cX5_factors 91 = .ok (.return_, 1) := getB' kX5_factors_3 8 rfl
def LX5_factor_0 : List (Nat × Instr × Nat) := [(0, .aload_n 0, 1), (1, .getfield 18, 3), (4, .ifCond .eq 4, 3), (7, .return_, 1), (8, .aload_n 0, 1), (9, .invokevirtual 61, 3), (12, .istore_n 1, 1), (13, .iload_n 1, 1), (14, .ifCond .ge 7, 3), (17, .iconst (-1), 1), (18, .goto 10, 3), (21, .ldc 117, 2)]
theorem kX5_factor_0 : chkB cX5_factor LX5_factor_0 = true := by decide +kernel
theorem dX5_factor_0 : decode cX5_factor 0 = .ok (.aload_n 0, 1) := getB' kX5_factor_0 0 rfl
theorem dX5_factor_1 : decode cX5_factor 1 = .ok (.getfield 18, 3) := getB' kX5_factor_0 1 rfl
theorem dX5_factor_4 : decode cX5_factor 4 = .ok (.ifCond .eq 4, 3) := getB' kX5_factor_0 2 rfl
theorem dX5_factor_7 : decode cX5_factor 7 = .ok (.return_, 1) := getB' kX5_factor_0 3 rfl
theorem dX5_factor_8 : decode cX5_factor 8 = .ok (.aload_n 0, 1) := getB' kX5_factor_0 4 rfl
theorem dX5_factor_9 : decode cX5_factor 9 = .ok (.invokevirtual 61, 3) := getB' kX5_factor_0 5 rfl
theorem dX5_factor_12 : decode cX5_factor 12 = .ok (.istore_n 1, 1) := getB' kX5_factor_0 6 rfl
theorem dX5_factor_13 : decode cX5_factor 13 = .ok (.iload_n 1, 1) := getB' kX5_factor_0 7 rfl
theorem dX5_factor_14 : decode cX5_factor 14 = .ok (.ifCond .ge 7, 3) := getB' kX5_factor_0 8 rfl
theorem dX5_factor_17 : decode cX5_factor 17 = .ok (.iconst (-1), 1) := getB' kX5_factor_0 9 rfl
theorem dX5_factor_18 : decode cX5_factor 18 = .ok (.goto 10, 3) := getB' kX5_factor_0 10 rfl
theorem dX5_factor_21 : decode cX5_factor 21 = .ok (.ldc 117, 2) := getB' kX5_factor_0 11 rfl
def LX5_factor_1 : List (Nat × Instr × Nat) := [(23, .iload_n 1, 1), (24, .i2c, 1), (25, .invokevirtual 119, 3), (28, .istore_n 2, 1), (29, .iload_n 1, 1), (30, .bipush 91, 2), (32, .if_icmp .ne 32, 3), (35, .aload_n 0, 1), (36, .bipush 91, 2), (38, .invokevirtual 80, 3), (41, .aload_n 0, 1), (42, .invokevirtual 102, 3)]
theorem kX5_factor_1 : chkB cX5_factor LX5_factor_1 = true := by decide +kernel
theorem dX5_factor_23 : decode cX5_factor 23 = .ok (.iload_n 1, 1) := getB' kX5_factor_1 0 rfl
theorem dX5_factor_24 : decode cX5_factor 24 = .ok (.i2c, 1) := getB' kX5_factor_1 1 rfl
theorem dX5_factor_25 : decode cX5_factor 25 = .ok (.invokevirtual 119, 3) := getB' kX5_factor_1 2 rfl
theorem dX5_factor_28 : decode cX5_factor 28 = .ok (.istore_n 2, 1) := getB' kX5_factor_1 3 rfl
theorem dX5_factor_29 : decode cX5_factor 29 = .ok (.iload_n 1, 1) := getB' kX5_factor_1 4 rfl
theorem dX5_factor_30 : decode cX5_factor 30 = .ok (.bipush 91, 2) := getB' kX5_factor_1 5 rfl
theorem dX5_factor_32 : decode cX5_factor 32 = .ok (.if_icmp .ne 32, 3) := getB' kX5_factor_1 6 rfl
theorem dX5_factor_35 : decode cX5_factor 35 = .ok (.aload_n 0, 1) := getB' kX5_factor_1 7 rfl
theorem dX5_factor_36 : decode cX5_factor 36 = .ok (.bipush 91, 2) := getB' kX5_factor_1 8 rfl
theorem dX5_factor_38 : decode cX5_factor 38 = .ok (.invokevirtual 80, 3) := getB' kX5_factor_1 9 rfl
theorem dX5_factor_41 : decode cX5_factor 41 = .ok (.aload_n 0, 1) := getB' kX5_factor_1 10 rfl
theorem dX5_factor_42 : decode cX5_factor 42 = .ok (.invokevirtual 102, 3) := getB' kX5_factor_1 11 rfl
def LX5_factor_2 : List (Nat × Instr × Nat) := [(45, .aload_n 0, 1), (46, .dup, 1), (47, .getfield 15, 3), (50, .iconst 1, 1), (51, .isub, 1), (52, .putfield 15, 3), (55, .aload_n 0, 1), (56, .bipush 93, 2), (58, .invokevirtual 38, 3), (61, .goto 45, 3), (64, .iload_n 2, 1), (65, .ifCond .lt 26, 3)]
theorem kX5_factor_2 : chkB cX5_factor LX5_factor_2 = true := by decide +kernel
theorem dX5_factor_45 : decode cX5_factor 45 = .ok (.aload_n 0, 1) := getB' kX5_factor_2 0 rfl
theorem dX5_factor_46 : decode cX5_factor 46 = .ok (.dup, 1) := getB' kX5_factor_2 1 rfl
theorem dX5_factor_47 : decode cX5_factor 47 = .ok (.getfield 15, 3) := getB' kX5_factor_2 2 rfl
theorem dX5_factor_50 : decode cX5_factor 50 = .ok (.iconst 1, 1) := getB' kX5_factor_2 3 rfl
theorem dX5_factor_51 : decode cX5_factor 51 = .ok (.isub, 1) := getB' kX5_factor_2 4 rfl
theorem dX5_factor_52 : decode cX5_factor 52 = .ok (.putfield 15, 3) := getB' kX5_factor_2 5 rfl
theorem dX5_factor_55 : decode cX5_factor 55 = .ok (.aload_n 0, 1) := getB' kX5_factor_2 6 rfl
theorem dX5_factor_56 : decode cX5_factor 56 = .ok (.bipush 93, 2) := getB' kX5_factor_2 7 rfl
theorem dX5_factor_58 : decode cX5_factor 58 = .ok (.invokevirtual 38, 3) := getB' kX5_factor_2 8 rfl
theorem dX5_factor_61 : decode cX5_factor 61 = .ok (.goto 45, 3) := getB' kX5_factor_2 9 rfl
theorem dX5_factor_64 : decode cX5_factor 64 = .ok (.iload_n 2, 1) := getB' kX5_factor_2 10 rfl
theorem dX5_factor_65 : decode cX5_factor 65 = .ok (.ifCond .lt 26, 3) := getB' kX5_factor_2 11 rfl
def LX5_factor_3 : List (Nat × Instr × Nat) := [(68, .aload_n 0, 1), (69, .dup, 1), (70, .getfield 9, 3), (73, .iconst 1, 1), (74, .iadd, 1), (75, .putfield 9, 3), (78, .aload_n 0, 1), (79, .getfield 31, 3), (82, .iconst 1, 1), (83, .iload_n 2, 1), (84, .invokevirtual 92, 3), (87, .pop, 1)]
theorem kX5_factor_3 : chkB cX5_factor LX5_factor_3 = true := by decide +kernel
theorem dX5_factor_68 : decode cX5_factor 68 = .ok (.aload_n 0, 1) := getB' kX5_factor_3 0 rfl
theorem dX5_factor_69 : decode cX5_factor 69 = .ok (.dup, 1) := getB' kX5_factor_3 1 rfl
theorem dX5_factor_70 : decode cX5_factor 70 = .ok (.getfield 9, 3) := getB' kX5_factor_3 2 rfl
theorem dX5_factor_73 : decode cX5_factor 73 = .ok (.iconst 1, 1) := getB' kX5_factor_3 3 rfl
theorem dX5_factor_74 : decode cX5_factor 74 = .ok (.iadd, 1) := getB' kX5_factor_3 4 rfl
theorem dX5_factor_75 : decode cX5_factor 75 = .ok (.putfield 9, 3) := getB' kX5_factor_3 5 rfl
theorem dX5_factor_78 : decode cX5_factor 78 = .ok (.aload_n 0, 1) := getB' kX5_factor_3 6 rfl
theorem dX5_factor_79 : decode cX5_factor 79 = .ok (.getfield 31, 3) := getB' kX5_factor_3 7 rfl
theorem dX5_factor_82 : decode cX5_factor 82 = .ok (.iconst 1, 1) := getB' kX5_factor_3 8 rfl
theorem dX5_factor_83 : decode cX5_factor 83 = .ok (.iload_n 2, 1) := getB' kX5_factor_3 9 rfl
theorem dX5_factor_84 : decode cX5_factor 84 = .ok (.invokevirtual 92, 3) := getB' kX5_factor_3 10 rfl
theorem dX5_factor_87 : decode cX5_factor 87 = .ok (.pop, 1) := getB' kX5_factor_3 11 rfl
def LX5_factor_4 : List (Nat × Instr × Nat) := [(88, .goto 18, 3), (91, .aload_n 0, 1), (92, .getfield 31, 3), (95, .iconst 0, 1), (96, .aload_n 0, 1), (97, .ldc 76, 2), (99, .invokevirtual 69, 3), (102, .invokevirtual 92, 3), (105, .pop, 1), (106, .return_, 1)]
theorem kX5_factor_4 : chkB cX5_factor LX5_factor_4 = true := by decide +kernel
theorem dX5_factor_88 : decode cX5_factor 88 = .ok (.goto 18, 3) := getB' kX5_factor_4 0 rfl
theorem dX5_factor_91 : decode cX5_factor 91 = .ok (.aload_n 0, 1) := getB' kX5_factor_4 1 rfl
theorem dX5_factor_92 : decode cX5_factor 92 = .ok (.getfield 31, 3) := getB' kX5_factor_4 2 rfl
theorem dX5_factor_95 : decode cX5_factor 95 = .ok (.iconst 0, 1) := getB' kX5_factor_4 3 rfl
theorem dX5_factor_96 : decode cX5_factor 96 = .ok (.aload_n 0, 1) := getB' kX5_factor_4 4 rfl
theorem dX5_factor_97 : decode cX5_factor 97 = .ok (.ldc 76, 2) := getB' kX5_factor_4 5 rfl
theorem dX5_factor_99 : decode cX5_factor 99 = .ok (.invokevirtual 69, 3) := getB' kX5_factor_4 6 rfl
theorem dX5_factor_102 : decode cX5_factor 102 = .ok (.invokevirtual 92, 3) := getB' kX5_factor_4 7 rfl
theorem dX5_factor_105 : decode cX5_factor 105 = .ok (.pop, 1) := getB' kX5_factor_4 8 rfl
theorem dX5_factor_106 : decode cX5_factor 106 = .ok (.return_, 1) := getB' kX5_factor_4 9 rfl
def LX5_digits_0 : List (Nat × Instr × Nat) := [(0, .aload_n 0, 1), (1, .getfield 9, 3), (4, .istore_n 2, 1), (5, .iconst 0, 1), (6, .istore_n 3, 1), (7, .iconst 0, 1), (8, .istore 4, 2), (10, .iload 4, 2), (12, .bipush 6, 2), (14, .if_icmp .gt 67, 3), (17, .aload_n 0, 1), (18, .getfield 18, 3)]
theorem kX5_digits_0 : chkB cX5_digits LX5_digits_0 = true := by decide +kernel
theorem dX5_digits_0 : decode cX5_digits 0 = .ok (.aload_n 0, 1) := getB' kX5_digits_0 0 rfl
theorem dX5_digits_1 : decode cX5_digits 1 = .ok (.getfield 9, 3) := getB' kX5_digits_0 1 rfl
theorem dX5_digits_4 : decode cX5_digits 4 = .ok (.istore_n 2, 1) := getB' kX5_digits_0 2 rfl
theorem dX5_digits_5 : decode cX5_digits 5 = .ok (.iconst 0, 1) := getB' kX5_digits_0 3 rfl
theorem dX5_digits_6 : decode cX5_digits 6 = .ok (.istore_n 3, 1) := getB' kX5_digits_0 4 rfl
theorem dX5_digits_7 : decode cX5_digits 7 = .ok (.iconst 0, 1) := getB' kX5_digits_0 5 rfl
theorem dX5_digits_8 : decode cX5_digits 8 = .ok (.istore 4, 2) := getB' kX5_digits_0 6 rfl
theorem dX5_digits_10 : decode cX5_digits 10 = .ok (.iload 4, 2) := getB' kX5_digits_0 7 rfl
theorem dX5_digits_12 : decode cX5_digits 12 = .ok (.bipush 6, 2) := getB' kX5_digits_0 8 rfl
theorem dX5_digits_14 : decode cX5_digits 14 = .ok (.if_icmp .gt 67, 3) := getB' kX5_digits_0 9 rfl
theorem dX5_digits_17 : decode cX5_digits 17 = .ok (.aload_n 0, 1) := getB' kX5_digits_0 10 rfl
theorem dX5_digits_18 : decode cX5_digits 18 = .ok (.getfield 18, 3) := getB' kX5_digits_0 11 rfl
def LX5_digits_1 : List (Nat × Instr × Nat) := [(21, .ifCond .ne 60, 3), (24, .aload_n 0, 1), (25, .invokevirtual 61, 3), (28, .invokestatic 124, 3), (31, .ifCond .eq 50, 3), (34, .iload 4, 2), (36, .bipush 6, 2), (38, .if_icmp .ne 14, 3), (41, .aload_n 0, 1), (42, .iconst 2, 1), (43, .aload_n 0, 1), (44, .getfield 9, 3)]
theorem kX5_digits_1 : chkB cX5_digits LX5_digits_1 = true := by decide +kernel
theorem dX5_digits_21 : decode cX5_digits 21 = .ok (.ifCond .ne 60, 3) := getB' kX5_digits_1 0 rfl
theorem dX5_digits_24 : decode cX5_digits 24 = .ok (.aload_n 0, 1) := getB' kX5_digits_1 1 rfl
theorem dX5_digits_25 : decode cX5_digits 25 = .ok (.invokevirtual 61, 3) := getB' kX5_digits_1 2 rfl
theorem dX5_digits_28 : decode cX5_digits 28 = .ok (.invokestatic 124, 3) := getB' kX5_digits_1 3 rfl
theorem dX5_digits_31 : decode cX5_digits 31 = .ok (.ifCond .eq 50, 3) := getB' kX5_digits_1 4 rfl
theorem dX5_digits_34 : decode cX5_digits 34 = .ok (.iload 4, 2) := getB' kX5_digits_1 5 rfl
theorem dX5_digits_36 : decode cX5_digits 36 = .ok (.bipush 6, 2) := getB' kX5_digits_1 6 rfl
theorem dX5_digits_38 : decode cX5_digits 38 = .ok (.if_icmp .ne 14, 3) := getB' kX5_digits_1 7 rfl
theorem dX5_digits_41 : decode cX5_digits 41 = .ok (.aload_n 0, 1) := getB' kX5_digits_1 8 rfl
theorem dX5_digits_42 : decode cX5_digits 42 = .ok (.iconst 2, 1) := getB' kX5_digits_1 9 rfl
theorem dX5_digits_43 : decode cX5_digits 43 = .ok (.aload_n 0, 1) := getB' kX5_digits_1 10 rfl
theorem dX5_digits_44 : decode cX5_digits 44 = .ok (.getfield 9, 3) := getB' kX5_digits_1 11 rfl
def LX5_digits_2 : List (Nat × Instr × Nat) := [(47, .invokevirtual 57, 3), (50, .iconst 0, 1), (51, .ireturn, 1), (52, .bipush 10, 2), (54, .iload_n 3, 1), (55, .imul, 1), (56, .aload_n 0, 1), (57, .invokevirtual 61, 3), (60, .iadd, 1), (61, .bipush 48, 2), (63, .isub, 1), (64, .istore_n 3, 1)]
theorem kX5_digits_2 : chkB cX5_digits LX5_digits_2 = true := by decide +kernel
theorem dX5_digits_47 : decode cX5_digits 47 = .ok (.invokevirtual 57, 3) := getB' kX5_digits_2 0 rfl
theorem dX5_digits_50 : decode cX5_digits 50 = .ok (.iconst 0, 1) := getB' kX5_digits_2 1 rfl
theorem dX5_digits_51 : decode cX5_digits 51 = .ok (.ireturn, 1) := getB' kX5_digits_2 2 rfl
theorem dX5_digits_52 : decode cX5_digits 52 = .ok (.bipush 10, 2) := getB' kX5_digits_2 3 rfl
theorem dX5_digits_54 : decode cX5_digits 54 = .ok (.iload_n 3, 1) := getB' kX5_digits_2 4 rfl
theorem dX5_digits_55 : decode cX5_digits 55 = .ok (.imul, 1) := getB' kX5_digits_2 5 rfl
theorem dX5_digits_56 : decode cX5_digits 56 = .ok (.aload_n 0, 1) := getB' kX5_digits_2 6 rfl
theorem dX5_digits_57 : decode cX5_digits 57 = .ok (.invokevirtual 61, 3) := getB' kX5_digits_2 7 rfl
theorem dX5_digits_60 : decode cX5_digits 60 = .ok (.iadd, 1) := getB' kX5_digits_2 8 rfl
theorem dX5_digits_61 : decode cX5_digits 61 = .ok (.bipush 48, 2) := getB' kX5_digits_2 9 rfl
theorem dX5_digits_63 : decode cX5_digits 63 = .ok (.isub, 1) := getB' kX5_digits_2 10 rfl
theorem dX5_digits_64 : decode cX5_digits 64 = .ok (.istore_n 3, 1) := getB' kX5_digits_2 11 rfl
def LX5_digits_3 : List (Nat × Instr × Nat) := [(65, .aload_n 0, 1), (66, .dup, 1), (67, .getfield 9, 3), (70, .iconst 1, 1), (71, .iadd, 1), (72, .putfield 9, 3), (75, .iinc 4 1, 3), (78, .goto (-68), 3), (81, .aload_n 0, 1), (82, .getfield 9, 3), (85, .iload_n 2, 1), (86, .if_icmp .ne 15, 3)]
theorem kX5_digits_3 : chkB cX5_digits LX5_digits_3 = true := by decide +kernel
theorem dX5_digits_65 : decode cX5_digits 65 = .ok (.aload_n 0, 1) := getB' kX5_digits_3 0 rfl
theorem dX5_digits_66 : decode cX5_digits 66 = .ok (.dup, 1) := getB' kX5_digits_3 1 rfl
theorem dX5_digits_67 : decode cX5_digits 67 = .ok (.getfield 9, 3) := getB' kX5_digits_3 2 rfl
theorem dX5_digits_70 : decode cX5_digits 70 = .ok (.iconst 1, 1) := getB' kX5_digits_3 3 rfl
theorem dX5_digits_71 : decode cX5_digits 71 = .ok (.iadd, 1) := getB' kX5_digits_3 4 rfl
theorem dX5_digits_72 : decode cX5_digits 72 = .ok (.putfield 9, 3) := getB' kX5_digits_3 5 rfl
theorem dX5_digits_75 : decode cX5_digits 75 = .ok (.iinc 4 1, 3) := getB' kX5_digits_3 6 rfl
theorem dX5_digits_78 : decode cX5_digits 78 = .ok (.goto (-68), 3) := getB' kX5_digits_3 7 rfl
theorem dX5_digits_81 : decode cX5_digits 81 = .ok (.aload_n 0, 1) := getB' kX5_digits_3 8 rfl
theorem dX5_digits_82 : decode cX5_digits 82 = .ok (.getfield 9, 3) := getB' kX5_digits_3 9 rfl
theorem dX5_digits_85 : decode cX5_digits 85 = .ok (.iload_n 2, 1) := getB' kX5_digits_3 10 rfl
theorem dX5_digits_86 : decode cX5_digits 86 = .ok (.if_icmp .ne 15, 3) := getB' kX5_digits_3 11 rfl
def LX5_digits_4 : List (Nat × Instr × Nat) := [(89, .aload_n 0, 1), (90, .iconst 1, 1), (91, .aload_n 0, 1), (92, .getfield 9, 3), (95, .invokevirtual 57, 3), (98, .goto 14, 3), (101, .iload_n 3, 1), (102, .iload_n 1, 1), (103, .if_icmp .le 9, 3), (106, .aload_n 0, 1), (107, .iconst 3, 1), (108, .iload_n 2, 1)]
theorem kX5_digits_4 : chkB cX5_digits LX5_digits_4 = true := by decide +kernel
theorem dX5_digits_89 : decode cX5_digits 89 = .ok (.aload_n 0, 1) := getB' kX5_digits_4 0 rfl
theorem dX5_digits_90 : decode cX5_digits 90 = .ok (.iconst 1, 1) := getB' kX5_digits_4 1 rfl
theorem dX5_digits_91 : decode cX5_digits 91 = .ok (.aload_n 0, 1) := getB' kX5_digits_4 2 rfl
theorem dX5_digits_92 : decode cX5_digits 92 = .ok (.getfield 9, 3) := getB' kX5_digits_4 3 rfl
theorem dX5_digits_95 : decode cX5_digits 95 = .ok (.invokevirtual 57, 3) := getB' kX5_digits_4 4 rfl
theorem dX5_digits_98 : decode cX5_digits 98 = .ok (.goto 14, 3) := getB' kX5_digits_4 5 rfl
theorem dX5_digits_101 : decode cX5_digits 101 = .ok (.iload_n 3, 1) := getB' kX5_digits_4 6 rfl
theorem dX5_digits_102 : decode cX5_digits 102 = .ok (.iload_n 1, 1) := getB' kX5_digits_4 7 rfl
theorem dX5_digits_103 : decode cX5_digits 103 = .ok (.if_icmp .le 9, 3) := getB' kX5_digits_4 8 rfl
theorem dX5_digits_106 : decode cX5_digits 106 = .ok (.aload_n 0, 1) := getB' kX5_digits_4 9 rfl
theorem dX5_digits_107 : decode cX5_digits 107 = .ok (.iconst 3, 1) := getB' kX5_digits_4 10 rfl
theorem dX5_digits_108 : decode cX5_digits 108 = .ok (.iload_n 2, 1) := getB' kX5_digits_4 11 rfl
def LX5_digits_5 : List (Nat × Instr × Nat) := [(109, .invokevirtual 57, 3), (112, .iload_n 3, 1), (113, .ireturn, 1)]
theorem kX5_digits_5 : chkB cX5_digits LX5_digits_5 = true := by decide +kernel
theorem dX5_digits_109 : decode cX5_digits 109 = .ok (.invokevirtual 57, 3) := getB' kX5_digits_5 0 rfl
theorem dX5_digits_112 : decode cX5_digits 112 = .ok (.iload_n 3, 1) := getB' kX5_digits_5 1 rfl
theorem dX5_digits_113 : decode cX5_digits 113 = .ok (.ireturn, 1) := getB' kX5_digits_5 2 rfl
def LX5_isDigit : List (Nat × Instr × Nat) := [(0, .iload_n 0, 1), (1, .bipush 48, 2), (3, .if_icmp .lt 13, 3), (6, .iload_n 0, 1), (7, .bipush 57, 2), (9, .if_icmp .gt 7, 3), (12, .iconst 1, 1), (13, .goto 4, 3), (16, .iconst 0, 1), (17, .ireturn, 1)]
theorem kX5_isDigit : chkB cX5_isDigit LX5_isDigit = true := by decide +kernel
theorem dX5_isDigit_0 : decode cX5_isDigit 0 = .ok (.iload_n 0, 1) := getB' kX5_isDigit 0 rfl
theorem dX5_isDigit_1 : decode cX5_isDigit 1 = .ok (.bipush 48, 2) := getB' kX5_isDigit 1 rfl
theorem dX5_isDigit_3 : decode cX5_isDigit 3 = .ok (.if_icmp .lt 13, 3) := getB' kX5_isDigit 2 rfl
theorem dX5_isDigit_6 : decode cX5_isDigit 6 = .ok (.iload_n 0, 1) := getB' kX5_isDigit 3 rfl
theorem dX5_isDigit_7 : decode cX5_isDigit 7 = .ok (.bipush 57, 2) := getB' kX5_isDigit 4 rfl
theorem dX5_isDigit_9 : decode cX5_isDigit 9 = .ok (.if_icmp .gt 7, 3) := getB' kX5_isDigit 5 rfl
theorem dX5_isDigit_12 : decode cX5_isDigit 12 = .ok (.iconst 1, 1) := getB' kX5_isDigit 6 rfl
theorem dX5_isDigit_13 : decode cX5_isDigit 13 = .ok (.goto 4, 3) := getB' kX5_isDigit 7 rfl
theorem dX5_isDigit_16 : decode cX5_isDigit 16 = .ok (.iconst 0, 1) := getB' kX5_isDigit 8 rfl
theorem dX5_isDigit_17 : decode cX5_isDigit 17 = .ok (.ireturn, 1) := getB' kX5_isDigit 9 rfl
def LX5_isFactorSign_0 : List (Nat × Instr × Nat) := [(0, .iload_n 0, 1), (1, .bipush 42, 2), (3, .if_icmp .eq 15, 3), (6, .iload_n 0, 1), (7, .bipush 47, 2), (9, .if_icmp .eq 9, 3), (12, .iload_n 0, 1), (13, .bipush 37, 2), (15, .if_icmp .ne 7, 3), (18, .iconst 1, 1), (19, .goto 4, 3), (22, .iconst 0, 1)]
theorem kX5_isFactorSign_0 : chkB cX5_isFactorSign LX5_isFactorSign_0 = true := by decide +kernel
theorem dX5_isFactorSign_0 : decode cX5_isFactorSign 0 = .ok (.iload_n 0, 1) := getB' kX5_isFactorSign_0 0 rfl
theorem dX5_isFactorSign_1 : decode cX5_isFactorSign 1 = .ok (.bipush 42, 2) := getB' kX5_isFactorSign_0 1 rfl
theorem dX5_isFactorSign_3 : decode cX5_isFactorSign 3 = .ok (.if_icmp .eq 15, 3) := getB' kX5_isFactorSign_0 2 rfl
theorem dX5_isFactorSign_6 : decode cX5_isFactorSign 6 = .ok (.iload_n 0, 1) := getB' kX5_isFactorSign_0 3 rfl
theorem dX5_isFactorSign_7 : decode cX5_isFactorSign 7 = .ok (.bipush 47, 2) := getB' kX5_isFactorSign_0 4 rfl
theorem dX5_isFactorSign_9 : decode cX5_isFactorSign 9 = .ok (.if_icmp .eq 9, 3) := getB' kX5_isFactorSign_0 5 rfl
theorem dX5_isFactorSign_12 : decode cX5_isFactorSign 12 = .ok (.iload_n 0, 1) := getB' kX5_isFactorSign_0 6 rfl
theorem dX5_isFactorSign_13 : decode cX5_isFactorSign 13 = .ok (.bipush 37, 2) := getB' kX5_isFactorSign_0 7 rfl
theorem dX5_isFactorSign_15 : decode cX5_isFactorSign 15 = .ok (.if_icmp .ne 7, 3) := getB' kX5_isFactorSign_0 8 rfl
theorem dX5_isFactorSign_18 : decode cX5_isFactorSign 18 = .ok (.iconst 1, 1) := getB' kX5_isFactorSign_0 9 rfl
theorem dX5_isFactorSign_19 : decode cX5_isFactorSign 19 = .ok (.goto 4, 3) := getB' kX5_isFactorSign_0 10 rfl
theorem dX5_isFactorSign_22 : decode cX5_isFactorSign 22 = .ok (.iconst 0, 1) := getB' kX5_isFactorSign_0 11 rfl
def LX5_isFactorSign_1 : List (Nat × Instr × Nat) := [(23, .ireturn, 1)]
theorem kX5_isFactorSign_1 : chkB cX5_isFactorSign LX5_isFactorSign_1 = true := by decide +kernel
theorem dX5_isFactorSign_23 : decode cX5_isFactorSign 23 = .ok (.ireturn, 1) := getB' kX5_isFactorSign_1 0 rfl
def LX5_next_0 : List (Nat × Instr × Nat) := [(0, .aload_n 0, 1), (1, .getfield 24, 3), (4, .ifnull 37, 3), (7, .aload_n 0, 1), (8, .getfield 9, 3), (11, .ifCond .lt 30, 3), (14, .aload_n 0, 1), (15, .getfield 9, 3), (18, .aload_n 0, 1), (19, .getfield 28, 3), (22, .if_icmp .ge 19, 3), (25, .aload_n 0, 1)]
theorem kX5_next_0 : chkB cX5_next LX5_next_0 = true := by decide +kernel
theorem dX5_next_0 : decode cX5_next 0 = .ok (.aload_n 0, 1) := getB' kX5_next_0 0 rfl
theorem dX5_next_1 : decode cX5_next 1 = .ok (.getfield 24, 3) := getB' kX5_next_0 1 rfl
theorem dX5_next_4 : decode cX5_next 4 = .ok (.ifnull 37, 3) := getB' kX5_next_0 2 rfl
theorem dX5_next_7 : decode cX5_next 7 = .ok (.aload_n 0, 1) := getB' kX5_next_0 3 rfl
theorem dX5_next_8 : decode cX5_next 8 = .ok (.getfield 9, 3) := getB' kX5_next_0 4 rfl
theorem dX5_next_11 : decode cX5_next 11 = .ok (.ifCond .lt 30, 3) := getB' kX5_next_0 5 rfl
theorem dX5_next_14 : decode cX5_next 14 = .ok (.aload_n 0, 1) := getB' kX5_next_0 6 rfl
theorem dX5_next_15 : decode cX5_next 15 = .ok (.getfield 9, 3) := getB' kX5_next_0 7 rfl
theorem dX5_next_18 : decode cX5_next 18 = .ok (.aload_n 0, 1) := getB' kX5_next_0 8 rfl
theorem dX5_next_19 : decode cX5_next 19 = .ok (.getfield 28, 3) := getB' kX5_next_0 9 rfl
theorem dX5_next_22 : decode cX5_next 22 = .ok (.if_icmp .ge 19, 3) := getB' kX5_next_0 10 rfl
theorem dX5_next_25 : decode cX5_next 25 = .ok (.aload_n 0, 1) := getB' kX5_next_0 11 rfl
def LX5_next_1 : List (Nat × Instr × Nat) := [(26, .getfield 9, 3), (29, .aload_n 0, 1), (30, .getfield 24, 3), (33, .arraylength, 1), (34, .if_icmp .ge 7, 3), (37, .iconst 1, 1), (38, .goto 4, 3), (41, .iconst 0, 1), (42, .istore_n 1, 1), (43, .iload_n 1, 1), (44, .ifCond .eq 15, 3), (47, .aload_n 0, 1)]
theorem kX5_next_1 : chkB cX5_next LX5_next_1 = true := by decide +kernel
theorem dX5_next_26 : decode cX5_next 26 = .ok (.getfield 9, 3) := getB' kX5_next_1 0 rfl
theorem dX5_next_29 : decode cX5_next 29 = .ok (.aload_n 0, 1) := getB' kX5_next_1 1 rfl
theorem dX5_next_30 : decode cX5_next 30 = .ok (.getfield 24, 3) := getB' kX5_next_1 2 rfl
theorem dX5_next_33 : decode cX5_next 33 = .ok (.arraylength, 1) := getB' kX5_next_1 3 rfl
theorem dX5_next_34 : decode cX5_next 34 = .ok (.if_icmp .ge 7, 3) := getB' kX5_next_1 4 rfl
theorem dX5_next_37 : decode cX5_next 37 = .ok (.iconst 1, 1) := getB' kX5_next_1 5 rfl
theorem dX5_next_38 : decode cX5_next 38 = .ok (.goto 4, 3) := getB' kX5_next_1 6 rfl
theorem dX5_next_41 : decode cX5_next 41 = .ok (.iconst 0, 1) := getB' kX5_next_1 7 rfl
theorem dX5_next_42 : decode cX5_next 42 = .ok (.istore_n 1, 1) := getB' kX5_next_1 8 rfl
theorem dX5_next_43 : decode cX5_next 43 = .ok (.iload_n 1, 1) := getB' kX5_next_1 9 rfl
theorem dX5_next_44 : decode cX5_next 44 = .ok (.ifCond .eq 15, 3) := getB' kX5_next_1 10 rfl
theorem dX5_next_47 : decode cX5_next 47 = .ok (.aload_n 0, 1) := getB' kX5_next_1 11 rfl
def LX5_next_2 : List (Nat × Instr × Nat) := [(48, .getfield 24, 3), (51, .aload_n 0, 1), (52, .getfield 9, 3), (55, .iaload, 1), (56, .goto 4, 3), (59, .iconst (-1), 1), (60, .ireturn, 1)]
theorem kX5_next_2 : chkB cX5_next LX5_next_2 = true := by decide +kernel
theorem dX5_next_48 : decode cX5_next 48 = .ok (.getfield 24, 3) := getB' kX5_next_2 0 rfl
theorem dX5_next_51 : decode cX5_next 51 = .ok (.aload_n 0, 1) := getB' kX5_next_2 1 rfl
theorem dX5_next_52 : decode cX5_next 52 = .ok (.getfield 9, 3) := getB' kX5_next_2 2 rfl
theorem dX5_next_55 : decode cX5_next 55 = .ok (.iaload, 1) := getB' kX5_next_2 3 rfl
theorem dX5_next_56 : decode cX5_next 56 = .ok (.goto 4, 3) := getB' kX5_next_2 4 rfl
theorem dX5_next_59 : decode cX5_next 59 = .ok (.iconst (-1), 1) := getB' kX5_next_2 5 rfl
theorem dX5_next_60 : decode cX5_next 60 = .ok (.ireturn, 1) := getB' kX5_next_2 6 rfl
def LX5_take_0 : List (Nat × Instr × Nat) := [(0, .aload_n 0, 1), (1, .invokevirtual 61, 3), (4, .iload_n 1, 1), (5, .if_icmp .eq 15, 3), (8, .aload_n 0, 1), (9, .iconst 1, 1), (10, .aload_n 0, 1), (11, .getfield 9, 3), (14, .invokevirtual 57, 3), (17, .goto 20, 3), (20, .aload_n 0, 1), (21, .getfield 18, 3)]
theorem kX5_take_0 : chkB cX5_take LX5_take_0 = true := by decide +kernel
theorem dX5_take_0 : decode cX5_take 0 = .ok (.aload_n 0, 1) := getB' kX5_take_0 0 rfl
theorem dX5_take_1 : decode cX5_take 1 = .ok (.invokevirtual 61, 3) := getB' kX5_take_0 1 rfl
theorem dX5_take_4 : decode cX5_take 4 = .ok (.iload_n 1, 1) := getB' kX5_take_0 2 rfl
theorem dX5_take_5 : decode cX5_take 5 = .ok (.if_icmp .eq 15, 3) := getB' kX5_take_0 3 rfl
theorem dX5_take_8 : decode cX5_take 8 = .ok (.aload_n 0, 1) := getB' kX5_take_0 4 rfl
theorem dX5_take_9 : decode cX5_take 9 = .ok (.iconst 1, 1) := getB' kX5_take_0 5 rfl
theorem dX5_take_10 : decode cX5_take 10 = .ok (.aload_n 0, 1) := getB' kX5_take_0 6 rfl
theorem dX5_take_11 : decode cX5_take 11 = .ok (.getfield 9, 3) := getB' kX5_take_0 7 rfl
theorem dX5_take_14 : decode cX5_take 14 = .ok (.invokevirtual 57, 3) := getB' kX5_take_0 8 rfl
theorem dX5_take_17 : decode cX5_take 17 = .ok (.goto 20, 3) := getB' kX5_take_0 9 rfl
theorem dX5_take_20 : decode cX5_take 20 = .ok (.aload_n 0, 1) := getB' kX5_take_0 10 rfl
theorem dX5_take_21 : decode cX5_take 21 = .ok (.getfield 18, 3) := getB' kX5_take_0 11 rfl
def LX5_take_1 : List (Nat × Instr × Nat) := [(24, .ifCond .ne 13, 3), (27, .aload_n 0, 1), (28, .dup, 1), (29, .getfield 9, 3), (32, .iconst 1, 1), (33, .iadd, 1), (34, .putfield 9, 3), (37, .return_, 1)]
theorem kX5_take_1 : chkB cX5_take LX5_take_1 = true := by decide +kernel
theorem dX5_take_24 : decode cX5_take 24 = .ok (.ifCond .ne 13, 3) := getB' kX5_take_1 0 rfl
theorem dX5_take_27 : decode cX5_take 27 = .ok (.aload_n 0, 1) := getB' kX5_take_1 1 rfl
theorem dX5_take_28 : decode cX5_take 28 = .ok (.dup, 1) := getB' kX5_take_1 2 rfl
theorem dX5_take_29 : decode cX5_take 29 = .ok (.getfield 9, 3) := getB' kX5_take_1 3 rfl
theorem dX5_take_32 : decode cX5_take 32 = .ok (.iconst 1, 1) := getB' kX5_take_1 4 rfl
theorem dX5_take_33 : decode cX5_take 33 = .ok (.iadd, 1) := getB' kX5_take_1 5 rfl
theorem dX5_take_34 : decode cX5_take 34 = .ok (.putfield 9, 3) := getB' kX5_take_1 6 rfl
theorem dX5_take_37 : decode cX5_take 37 = .ok (.return_, 1) := getB' kX5_take_1 7 rfl
def LX5_deepen_0 : List (Nat × Instr × Nat) := [(0, .aload_n 0, 1), (1, .invokevirtual 61, 3), (4, .iload_n 1, 1), (5, .if_icmp .eq 15, 3), (8, .aload_n 0, 1), (9, .iconst 1, 1), (10, .aload_n 0, 1), (11, .getfield 9, 3), (14, .invokevirtual 57, 3), (17, .goto 34, 3), (20, .aload_n 0, 1), (21, .getfield 15, 3)]
theorem kX5_deepen_0 : chkB cX5_deepen LX5_deepen_0 = true := by decide +kernel
theorem dX5_deepen_0 : decode cX5_deepen 0 = .ok (.aload_n 0, 1) := getB' kX5_deepen_0 0 rfl
theorem dX5_deepen_1 : decode cX5_deepen 1 = .ok (.invokevirtual 61, 3) := getB' kX5_deepen_0 1 rfl
theorem dX5_deepen_4 : decode cX5_deepen 4 = .ok (.iload_n 1, 1) := getB' kX5_deepen_0 2 rfl
theorem dX5_deepen_5 : decode cX5_deepen 5 = .ok (.if_icmp .eq 15, 3) := getB' kX5_deepen_0 3 rfl
theorem dX5_deepen_8 : decode cX5_deepen 8 = .ok (.aload_n 0, 1) := getB' kX5_deepen_0 4 rfl
theorem dX5_deepen_9 : decode cX5_deepen 9 = .ok (.iconst 1, 1) := getB' kX5_deepen_0 5 rfl
theorem dX5_deepen_10 : decode cX5_deepen 10 = .ok (.aload_n 0, 1) := getB' kX5_deepen_0 6 rfl
theorem dX5_deepen_11 : decode cX5_deepen 11 = .ok (.getfield 9, 3) := getB' kX5_deepen_0 7 rfl
theorem dX5_deepen_14 : decode cX5_deepen 14 = .ok (.invokevirtual 57, 3) := getB' kX5_deepen_0 8 rfl
theorem dX5_deepen_17 : decode cX5_deepen 17 = .ok (.goto 34, 3) := getB' kX5_deepen_0 9 rfl
theorem dX5_deepen_20 : decode cX5_deepen 20 = .ok (.aload_n 0, 1) := getB' kX5_deepen_0 10 rfl
theorem dX5_deepen_21 : decode cX5_deepen 21 = .ok (.getfield 15, 3) := getB' kX5_deepen_0 11 rfl
def LX5_deepen_1 : List (Nat × Instr × Nat) := [(24, .bipush 8, 2), (26, .if_icmp .lt 15, 3), (29, .aload_n 0, 1), (30, .iconst 5, 1), (31, .aload_n 0, 1), (32, .getfield 9, 3), (35, .invokevirtual 57, 3), (38, .goto 13, 3), (41, .aload_n 0, 1), (42, .dup, 1), (43, .getfield 9, 3), (46, .iconst 1, 1)]
theorem kX5_deepen_1 : chkB cX5_deepen LX5_deepen_1 = true := by decide +kernel
theorem dX5_deepen_24 : decode cX5_deepen 24 = .ok (.bipush 8, 2) := getB' kX5_deepen_1 0 rfl
theorem dX5_deepen_26 : decode cX5_deepen 26 = .ok (.if_icmp .lt 15, 3) := getB' kX5_deepen_1 1 rfl
theorem dX5_deepen_29 : decode cX5_deepen 29 = .ok (.aload_n 0, 1) := getB' kX5_deepen_1 2 rfl
theorem dX5_deepen_30 : decode cX5_deepen 30 = .ok (.iconst 5, 1) := getB' kX5_deepen_1 3 rfl
theorem dX5_deepen_31 : decode cX5_deepen 31 = .ok (.aload_n 0, 1) := getB' kX5_deepen_1 4 rfl
theorem dX5_deepen_32 : decode cX5_deepen 32 = .ok (.getfield 9, 3) := getB' kX5_deepen_1 5 rfl
theorem dX5_deepen_35 : decode cX5_deepen 35 = .ok (.invokevirtual 57, 3) := getB' kX5_deepen_1 6 rfl
theorem dX5_deepen_38 : decode cX5_deepen 38 = .ok (.goto 13, 3) := getB' kX5_deepen_1 7 rfl
theorem dX5_deepen_41 : decode cX5_deepen 41 = .ok (.aload_n 0, 1) := getB' kX5_deepen_1 8 rfl
theorem dX5_deepen_42 : decode cX5_deepen 42 = .ok (.dup, 1) := getB' kX5_deepen_1 9 rfl
theorem dX5_deepen_43 : decode cX5_deepen 43 = .ok (.getfield 9, 3) := getB' kX5_deepen_1 10 rfl
theorem dX5_deepen_46 : decode cX5_deepen 46 = .ok (.iconst 1, 1) := getB' kX5_deepen_1 11 rfl
def LX5_deepen_2 : List (Nat × Instr × Nat) := [(47, .iadd, 1), (48, .putfield 9, 3), (51, .aload_n 0, 1), (52, .dup, 1), (53, .getfield 15, 3), (56, .iconst 1, 1), (57, .iadd, 1), (58, .putfield 15, 3), (61, .return_, 1)]
theorem kX5_deepen_2 : chkB cX5_deepen LX5_deepen_2 = true := by decide +kernel
theorem dX5_deepen_47 : decode cX5_deepen 47 = .ok (.iadd, 1) := getB' kX5_deepen_2 0 rfl
theorem dX5_deepen_48 : decode cX5_deepen 48 = .ok (.putfield 9, 3) := getB' kX5_deepen_2 1 rfl
theorem dX5_deepen_51 : decode cX5_deepen 51 = .ok (.aload_n 0, 1) := getB' kX5_deepen_2 2 rfl
theorem dX5_deepen_52 : decode cX5_deepen 52 = .ok (.dup, 1) := getB' kX5_deepen_2 3 rfl
theorem dX5_deepen_53 : decode cX5_deepen 53 = .ok (.getfield 15, 3) := getB' kX5_deepen_2 4 rfl
theorem dX5_deepen_56 : decode cX5_deepen 56 = .ok (.iconst 1, 1) := getB' kX5_deepen_2 5 rfl
theorem dX5_deepen_57 : decode cX5_deepen 57 = .ok (.iadd, 1) := getB' kX5_deepen_2 6 rfl
theorem dX5_deepen_58 : decode cX5_deepen 58 = .ok (.putfield 15, 3) := getB' kX5_deepen_2 7 rfl
theorem dX5_deepen_61 : decode cX5_deepen 61 = .ok (.return_, 1) := getB' kX5_deepen_2 8 rfl
def LX5_refuse : List (Nat × Instr × Nat) := [(0, .aload_n 0, 1), (1, .getfield 18, 3), (4, .ifCond .ne 13, 3), (7, .aload_n 0, 1), (8, .iload_n 1, 1), (9, .putfield 18, 3), (12, .aload_n 0, 1), (13, .iload_n 2, 1), (14, .putfield 21, 3), (17, .return_, 1)]
theorem kX5_refuse : chkB cX5_refuse LX5_refuse = true := by decide +kernel
theorem dX5_refuse_0 : decode cX5_refuse 0 = .ok (.aload_n 0, 1) := getB' kX5_refuse 0 rfl
theorem dX5_refuse_1 : decode cX5_refuse 1 = .ok (.getfield 18, 3) := getB' kX5_refuse 1 rfl
theorem dX5_refuse_4 : decode cX5_refuse 4 = .ok (.ifCond .ne 13, 3) := getB' kX5_refuse 2 rfl
theorem dX5_refuse_7 : decode cX5_refuse 7 = .ok (.aload_n 0, 1) := getB' kX5_refuse 3 rfl
theorem dX5_refuse_8 : decode cX5_refuse 8 = .ok (.iload_n 1, 1) := getB' kX5_refuse 4 rfl
theorem dX5_refuse_9 : decode cX5_refuse 9 = .ok (.putfield 18, 3) := getB' kX5_refuse 5 rfl
theorem dX5_refuse_12 : decode cX5_refuse 12 = .ok (.aload_n 0, 1) := getB' kX5_refuse 6 rfl
theorem dX5_refuse_13 : decode cX5_refuse 13 = .ok (.iload_n 2, 1) := getB' kX5_refuse 7 rfl
theorem dX5_refuse_14 : decode cX5_refuse 14 = .ok (.putfield 21, 3) := getB' kX5_refuse 8 rfl
theorem dX5_refuse_17 : decode cX5_refuse 17 = .ok (.return_, 1) := getB' kX5_refuse 9 rfl
def LX5_set_0 : List (Nat × Instr × Nat) := [(0, .aload_n 0, 1), (1, .getfield 31, 3), (4, .getfield 42, 3), (7, .aload_n 0, 1), (8, .getfield 31, 3), (11, .getfield 42, 3), (14, .getfield 127, 3), (17, .iconst 1, 1), (18, .isub, 1), (19, .iload_n 1, 1), (20, .iload_n 2, 1), (21, .invokevirtual 130, 3)]
theorem kX5_set_0 : chkB cX5_set LX5_set_0 = true := by decide +kernel
theorem dX5_set_0 : decode cX5_set 0 = .ok (.aload_n 0, 1) := getB' kX5_set_0 0 rfl
theorem dX5_set_1 : decode cX5_set 1 = .ok (.getfield 31, 3) := getB' kX5_set_0 1 rfl
theorem dX5_set_4 : decode cX5_set 4 = .ok (.getfield 42, 3) := getB' kX5_set_0 2 rfl
theorem dX5_set_7 : decode cX5_set 7 = .ok (.aload_n 0, 1) := getB' kX5_set_0 3 rfl
theorem dX5_set_8 : decode cX5_set 8 = .ok (.getfield 31, 3) := getB' kX5_set_0 4 rfl
theorem dX5_set_11 : decode cX5_set 11 = .ok (.getfield 42, 3) := getB' kX5_set_0 5 rfl
theorem dX5_set_14 : decode cX5_set 14 = .ok (.getfield 127, 3) := getB' kX5_set_0 6 rfl
theorem dX5_set_17 : decode cX5_set 17 = .ok (.iconst 1, 1) := getB' kX5_set_0 7 rfl
theorem dX5_set_18 : decode cX5_set 18 = .ok (.isub, 1) := getB' kX5_set_0 8 rfl
theorem dX5_set_19 : decode cX5_set 19 = .ok (.iload_n 1, 1) := getB' kX5_set_0 9 rfl
theorem dX5_set_20 : decode cX5_set 20 = .ok (.iload_n 2, 1) := getB' kX5_set_0 10 rfl
theorem dX5_set_21 : decode cX5_set 21 = .ok (.invokevirtual 130, 3) := getB' kX5_set_0 11 rfl
def LX5_set_1 : List (Nat × Instr × Nat) := [(24, .return_, 1)]
theorem kX5_set_1 : chkB cX5_set LX5_set_1 = true := by decide +kernel
theorem dX5_set_24 : decode cX5_set 24 = .ok (.return_, 1) := getB' kX5_set_1 0 rfl
def LX6_forget : List (Nat × Instr × Nat) := [(0, .aload_n 0, 1), (1, .iconst (-1), 1), (2, .putfield 42, 3), (5, .return_, 1)]
theorem kX6_forget : chkB cX6_forget LX6_forget = true := by decide +kernel
theorem dX6_forget_0 : decode cX6_forget 0 = .ok (.aload_n 0, 1) := getB' kX6_forget 0 rfl
theorem dX6_forget_1 : decode cX6_forget 1 = .ok (.iconst (-1), 1) := getB' kX6_forget 1 rfl
theorem dX6_forget_2 : decode cX6_forget 2 = .ok (.putfield 42, 3) := getB' kX6_forget 2 rfl
theorem dX6_forget_5 : decode cX6_forget 5 = .ok (.return_, 1) := getB' kX6_forget 3 rfl
def LX6_hasStation_0 : List (Nat × Instr × Nat) := [(0, .iconst 0, 1), (1, .istore_n 2, 1), (2, .iload_n 2, 1), (3, .aload_n 0, 1), (4, .getfield 14, 3), (7, .getfield 55, 3), (10, .if_icmp .ge 24, 3), (13, .aload_n 0, 1), (14, .getfield 14, 3), (17, .iload_n 2, 1), (18, .iconst 0, 1), (19, .invokevirtual 58, 3)]
theorem kX6_hasStation_0 : chkB cX6_hasStation LX6_hasStation_0 = true := by decide +kernel
theorem dX6_hasStation_0 : decode cX6_hasStation 0 = .ok (.iconst 0, 1) := getB' kX6_hasStation_0 0 rfl
theorem dX6_hasStation_1 : decode cX6_hasStation 1 = .ok (.istore_n 2, 1) := getB' kX6_hasStation_0 1 rfl
theorem dX6_hasStation_2 : decode cX6_hasStation 2 = .ok (.iload_n 2, 1) := getB' kX6_hasStation_0 2 rfl
theorem dX6_hasStation_3 : decode cX6_hasStation 3 = .ok (.aload_n 0, 1) := getB' kX6_hasStation_0 3 rfl
theorem dX6_hasStation_4 : decode cX6_hasStation 4 = .ok (.getfield 14, 3) := getB' kX6_hasStation_0 4 rfl
theorem dX6_hasStation_7 : decode cX6_hasStation 7 = .ok (.getfield 55, 3) := getB' kX6_hasStation_0 5 rfl
theorem dX6_hasStation_10 : decode cX6_hasStation 10 = .ok (.if_icmp .ge 24, 3) := getB' kX6_hasStation_0 6 rfl
theorem dX6_hasStation_13 : decode cX6_hasStation 13 = .ok (.aload_n 0, 1) := getB' kX6_hasStation_0 7 rfl
theorem dX6_hasStation_14 : decode cX6_hasStation 14 = .ok (.getfield 14, 3) := getB' kX6_hasStation_0 8 rfl
theorem dX6_hasStation_17 : decode cX6_hasStation 17 = .ok (.iload_n 2, 1) := getB' kX6_hasStation_0 9 rfl
theorem dX6_hasStation_18 : decode cX6_hasStation 18 = .ok (.iconst 0, 1) := getB' kX6_hasStation_0 10 rfl
theorem dX6_hasStation_19 : decode cX6_hasStation 19 = .ok (.invokevirtual 58, 3) := getB' kX6_hasStation_0 11 rfl
def LX6_hasStation_1 : List (Nat × Instr × Nat) := [(22, .iload_n 1, 1), (23, .if_icmp .ne 5, 3), (26, .iconst 1, 1), (27, .ireturn, 1), (28, .iinc 2 1, 3), (31, .goto (-29), 3), (34, .iconst 0, 1), (35, .ireturn, 1)]
theorem kX6_hasStation_1 : chkB cX6_hasStation LX6_hasStation_1 = true := by decide +kernel
theorem dX6_hasStation_22 : decode cX6_hasStation 22 = .ok (.iload_n 1, 1) := getB' kX6_hasStation_1 0 rfl
theorem dX6_hasStation_23 : decode cX6_hasStation 23 = .ok (.if_icmp .ne 5, 3) := getB' kX6_hasStation_1 1 rfl
theorem dX6_hasStation_26 : decode cX6_hasStation 26 = .ok (.iconst 1, 1) := getB' kX6_hasStation_1 2 rfl
theorem dX6_hasStation_27 : decode cX6_hasStation 27 = .ok (.ireturn, 1) := getB' kX6_hasStation_1 3 rfl
theorem dX6_hasStation_28 : decode cX6_hasStation 28 = .ok (.iinc 2 1, 3) := getB' kX6_hasStation_1 4 rfl
theorem dX6_hasStation_31 : decode cX6_hasStation 31 = .ok (.goto (-29), 3) := getB' kX6_hasStation_1 5 rfl
theorem dX6_hasStation_34 : decode cX6_hasStation 34 = .ok (.iconst 0, 1) := getB' kX6_hasStation_1 6 rfl
theorem dX6_hasStation_35 : decode cX6_hasStation 35 = .ok (.ireturn, 1) := getB' kX6_hasStation_1 7 rfl
def LX6_needs_0 : List (Nat × Instr × Nat) := [(0, .iconst 0, 1), (1, .istore_n 1, 1), (2, .iconst 0, 1), (3, .istore_n 2, 1), (4, .iload_n 2, 1), (5, .aload_n 0, 1), (6, .getfield 14, 3), (9, .getfield 55, 3), (12, .if_icmp .ge 21, 3), (15, .iload_n 1, 1), (16, .aload_n 0, 1), (17, .getfield 14, 3)]
theorem kX6_needs_0 : chkB cX6_needs LX6_needs_0 = true := by decide +kernel
theorem dX6_needs_0 : decode cX6_needs 0 = .ok (.iconst 0, 1) := getB' kX6_needs_0 0 rfl
theorem dX6_needs_1 : decode cX6_needs 1 = .ok (.istore_n 1, 1) := getB' kX6_needs_0 1 rfl
theorem dX6_needs_2 : decode cX6_needs 2 = .ok (.iconst 0, 1) := getB' kX6_needs_0 2 rfl
theorem dX6_needs_3 : decode cX6_needs 3 = .ok (.istore_n 2, 1) := getB' kX6_needs_0 3 rfl
theorem dX6_needs_4 : decode cX6_needs 4 = .ok (.iload_n 2, 1) := getB' kX6_needs_0 4 rfl
theorem dX6_needs_5 : decode cX6_needs 5 = .ok (.aload_n 0, 1) := getB' kX6_needs_0 5 rfl
theorem dX6_needs_6 : decode cX6_needs 6 = .ok (.getfield 14, 3) := getB' kX6_needs_0 6 rfl
theorem dX6_needs_9 : decode cX6_needs 9 = .ok (.getfield 55, 3) := getB' kX6_needs_0 7 rfl
theorem dX6_needs_12 : decode cX6_needs 12 = .ok (.if_icmp .ge 21, 3) := getB' kX6_needs_0 8 rfl
theorem dX6_needs_15 : decode cX6_needs 15 = .ok (.iload_n 1, 1) := getB' kX6_needs_0 9 rfl
theorem dX6_needs_16 : decode cX6_needs 16 = .ok (.aload_n 0, 1) := getB' kX6_needs_0 10 rfl
theorem dX6_needs_17 : decode cX6_needs 17 = .ok (.getfield 14, 3) := getB' kX6_needs_0 11 rfl
def LX6_needs_1 : List (Nat × Instr × Nat) := [(20, .iload_n 2, 1), (21, .iconst 1, 1), (22, .invokevirtual 58, 3), (25, .iadd, 1), (26, .istore_n 1, 1), (27, .iinc 2 1, 3), (30, .goto (-26), 3), (33, .iload_n 1, 1), (34, .ireturn, 1)]
theorem kX6_needs_1 : chkB cX6_needs LX6_needs_1 = true := by decide +kernel
theorem dX6_needs_20 : decode cX6_needs 20 = .ok (.iload_n 2, 1) := getB' kX6_needs_1 0 rfl
theorem dX6_needs_21 : decode cX6_needs 21 = .ok (.iconst 1, 1) := getB' kX6_needs_1 1 rfl
theorem dX6_needs_22 : decode cX6_needs 22 = .ok (.invokevirtual 58, 3) := getB' kX6_needs_1 2 rfl
theorem dX6_needs_25 : decode cX6_needs 25 = .ok (.iadd, 1) := getB' kX6_needs_1 3 rfl
theorem dX6_needs_26 : decode cX6_needs 26 = .ok (.istore_n 1, 1) := getB' kX6_needs_1 4 rfl
theorem dX6_needs_27 : decode cX6_needs 27 = .ok (.iinc 2 1, 3) := getB' kX6_needs_1 5 rfl
theorem dX6_needs_30 : decode cX6_needs 30 = .ok (.goto (-26), 3) := getB' kX6_needs_1 6 rfl
theorem dX6_needs_33 : decode cX6_needs 33 = .ok (.iload_n 1, 1) := getB' kX6_needs_1 7 rfl
theorem dX6_needs_34 : decode cX6_needs 34 = .ok (.ireturn, 1) := getB' kX6_needs_1 8 rfl
def LX6_seek_0 : List (Nat × Instr × Nat) := [(0, .aload_n 0, 1), (1, .iload_n 1, 1), (2, .putfield 42, 3), (5, .aload_n 0, 1), (6, .iconst (-1), 1), (7, .putfield 46, 3), (10, .aload_n 0, 1), (11, .invokevirtual 62, 3), (14, .aload_n 0, 1), (15, .iconst 0, 1), (16, .iconst 0, 1), (17, .invokevirtual 65, 3)]
theorem kX6_seek_0 : chkB cX6_seek LX6_seek_0 = true := by decide +kernel
theorem dX6_seek_0 : decode cX6_seek 0 = .ok (.aload_n 0, 1) := getB' kX6_seek_0 0 rfl
theorem dX6_seek_1 : decode cX6_seek 1 = .ok (.iload_n 1, 1) := getB' kX6_seek_0 1 rfl
theorem dX6_seek_2 : decode cX6_seek 2 = .ok (.putfield 42, 3) := getB' kX6_seek_0 2 rfl
theorem dX6_seek_5 : decode cX6_seek 5 = .ok (.aload_n 0, 1) := getB' kX6_seek_0 3 rfl
theorem dX6_seek_6 : decode cX6_seek 6 = .ok (.iconst (-1), 1) := getB' kX6_seek_0 4 rfl
theorem dX6_seek_7 : decode cX6_seek 7 = .ok (.putfield 46, 3) := getB' kX6_seek_0 5 rfl
theorem dX6_seek_10 : decode cX6_seek 10 = .ok (.aload_n 0, 1) := getB' kX6_seek_0 6 rfl
theorem dX6_seek_11 : decode cX6_seek 11 = .ok (.invokevirtual 62, 3) := getB' kX6_seek_0 7 rfl
theorem dX6_seek_14 : decode cX6_seek 14 = .ok (.aload_n 0, 1) := getB' kX6_seek_0 8 rfl
theorem dX6_seek_15 : decode cX6_seek 15 = .ok (.iconst 0, 1) := getB' kX6_seek_0 9 rfl
theorem dX6_seek_16 : decode cX6_seek 16 = .ok (.iconst 0, 1) := getB' kX6_seek_0 10 rfl
theorem dX6_seek_17 : decode cX6_seek 17 = .ok (.invokevirtual 65, 3) := getB' kX6_seek_0 11 rfl
def LX6_seek_1 : List (Nat × Instr × Nat) := [(20, .return_, 1)]
theorem kX6_seek_1 : chkB cX6_seek LX6_seek_1 = true := by decide +kernel
theorem dX6_seek_20 : decode cX6_seek 20 = .ok (.return_, 1) := getB' kX6_seek_1 0 rfl
def LX6_lookAhead_0 : List (Nat × Instr × Nat) := [(0, .iconst 1, 1), (1, .istore_n 1, 1), (2, .iload_n 1, 1), (3, .iconst 1, 1), (4, .aload_n 0, 1), (5, .getfield 14, 3), (8, .getfield 55, 3), (11, .ishl, 1), (12, .if_icmp .ge 47, 3), (15, .iconst 0, 1), (16, .istore_n 2, 1), (17, .iload_n 2, 1)]
theorem kX6_lookAhead_0 : chkB cX6_lookAhead LX6_lookAhead_0 = true := by decide +kernel
theorem dX6_lookAhead_0 : decode cX6_lookAhead 0 = .ok (.iconst 1, 1) := getB' kX6_lookAhead_0 0 rfl
theorem dX6_lookAhead_1 : decode cX6_lookAhead 1 = .ok (.istore_n 1, 1) := getB' kX6_lookAhead_0 1 rfl
theorem dX6_lookAhead_2 : decode cX6_lookAhead 2 = .ok (.iload_n 1, 1) := getB' kX6_lookAhead_0 2 rfl
theorem dX6_lookAhead_3 : decode cX6_lookAhead 3 = .ok (.iconst 1, 1) := getB' kX6_lookAhead_0 3 rfl
theorem dX6_lookAhead_4 : decode cX6_lookAhead 4 = .ok (.aload_n 0, 1) := getB' kX6_lookAhead_0 4 rfl
theorem dX6_lookAhead_5 : decode cX6_lookAhead 5 = .ok (.getfield 14, 3) := getB' kX6_lookAhead_0 5 rfl
theorem dX6_lookAhead_8 : decode cX6_lookAhead 8 = .ok (.getfield 55, 3) := getB' kX6_lookAhead_0 6 rfl
theorem dX6_lookAhead_11 : decode cX6_lookAhead 11 = .ok (.ishl, 1) := getB' kX6_lookAhead_0 7 rfl
theorem dX6_lookAhead_12 : decode cX6_lookAhead 12 = .ok (.if_icmp .ge 47, 3) := getB' kX6_lookAhead_0 8 rfl
theorem dX6_lookAhead_15 : decode cX6_lookAhead 15 = .ok (.iconst 0, 1) := getB' kX6_lookAhead_0 9 rfl
theorem dX6_lookAhead_16 : decode cX6_lookAhead 16 = .ok (.istore_n 2, 1) := getB' kX6_lookAhead_0 10 rfl
theorem dX6_lookAhead_17 : decode cX6_lookAhead 17 = .ok (.iload_n 2, 1) := getB' kX6_lookAhead_0 11 rfl
def LX6_lookAhead_1 : List (Nat × Instr × Nat) := [(18, .aload_n 0, 1), (19, .getfield 14, 3), (22, .getfield 55, 3), (25, .if_icmp .ge 28, 3), (28, .aload_n 0, 1), (29, .getfield 36, 3), (32, .iload_n 1, 1), (33, .bipush 8, 2), (35, .imul, 1), (36, .iload_n 2, 1), (37, .iadd, 1), (38, .aload_n 0, 1)]
theorem kX6_lookAhead_1 : chkB cX6_lookAhead LX6_lookAhead_1 = true := by decide +kernel
theorem dX6_lookAhead_18 : decode cX6_lookAhead 18 = .ok (.aload_n 0, 1) := getB' kX6_lookAhead_1 0 rfl
theorem dX6_lookAhead_19 : decode cX6_lookAhead 19 = .ok (.getfield 14, 3) := getB' kX6_lookAhead_1 1 rfl
theorem dX6_lookAhead_22 : decode cX6_lookAhead 22 = .ok (.getfield 55, 3) := getB' kX6_lookAhead_1 2 rfl
theorem dX6_lookAhead_25 : decode cX6_lookAhead 25 = .ok (.if_icmp .ge 28, 3) := getB' kX6_lookAhead_1 3 rfl
theorem dX6_lookAhead_28 : decode cX6_lookAhead 28 = .ok (.aload_n 0, 1) := getB' kX6_lookAhead_1 4 rfl
theorem dX6_lookAhead_29 : decode cX6_lookAhead 29 = .ok (.getfield 36, 3) := getB' kX6_lookAhead_1 5 rfl
theorem dX6_lookAhead_32 : decode cX6_lookAhead 32 = .ok (.iload_n 1, 1) := getB' kX6_lookAhead_1 6 rfl
theorem dX6_lookAhead_33 : decode cX6_lookAhead 33 = .ok (.bipush 8, 2) := getB' kX6_lookAhead_1 7 rfl
theorem dX6_lookAhead_35 : decode cX6_lookAhead 35 = .ok (.imul, 1) := getB' kX6_lookAhead_1 8 rfl
theorem dX6_lookAhead_36 : decode cX6_lookAhead 36 = .ok (.iload_n 2, 1) := getB' kX6_lookAhead_1 9 rfl
theorem dX6_lookAhead_37 : decode cX6_lookAhead 37 = .ok (.iadd, 1) := getB' kX6_lookAhead_1 10 rfl
theorem dX6_lookAhead_38 : decode cX6_lookAhead 38 = .ok (.aload_n 0, 1) := getB' kX6_lookAhead_1 11 rfl
def LX6_lookAhead_2 : List (Nat × Instr × Nat) := [(39, .iload_n 1, 1), (40, .iload_n 2, 1), (41, .invokevirtual 68, 3), (44, .invokestatic 71, 3), (47, .iinc 2 1, 3), (50, .goto (-33), 3), (53, .iinc 1 1, 3), (56, .goto (-54), 3), (59, .return_, 1)]
theorem kX6_lookAhead_2 : chkB cX6_lookAhead LX6_lookAhead_2 = true := by decide +kernel
theorem dX6_lookAhead_39 : decode cX6_lookAhead 39 = .ok (.iload_n 1, 1) := getB' kX6_lookAhead_2 0 rfl
theorem dX6_lookAhead_40 : decode cX6_lookAhead 40 = .ok (.iload_n 2, 1) := getB' kX6_lookAhead_2 1 rfl
theorem dX6_lookAhead_41 : decode cX6_lookAhead 41 = .ok (.invokevirtual 68, 3) := getB' kX6_lookAhead_2 2 rfl
theorem dX6_lookAhead_44 : decode cX6_lookAhead 44 = .ok (.invokestatic 71, 3) := getB' kX6_lookAhead_2 3 rfl
theorem dX6_lookAhead_47 : decode cX6_lookAhead 47 = .ok (.iinc 2 1, 3) := getB' kX6_lookAhead_2 4 rfl
theorem dX6_lookAhead_50 : decode cX6_lookAhead 50 = .ok (.goto (-33), 3) := getB' kX6_lookAhead_2 5 rfl
theorem dX6_lookAhead_53 : decode cX6_lookAhead 53 = .ok (.iinc 1 1, 3) := getB' kX6_lookAhead_2 6 rfl
theorem dX6_lookAhead_56 : decode cX6_lookAhead 56 = .ok (.goto (-54), 3) := getB' kX6_lookAhead_2 7 rfl
theorem dX6_lookAhead_59 : decode cX6_lookAhead 59 = .ok (.return_, 1) := getB' kX6_lookAhead_2 8 rfl
def LX6_leastAhead_0 : List (Nat × Instr × Nat) := [(0, .iconst (-1), 1), (1, .istore_n 3, 1), (2, .iconst 0, 1), (3, .istore 4, 2), (5, .iload 4, 2), (7, .aload_n 0, 1), (8, .getfield 14, 3), (11, .getfield 55, 3), (14, .if_icmp .ge 76, 3), (17, .iload_n 1, 1), (18, .iload 4, 2), (20, .ishr, 1)]
theorem kX6_leastAhead_0 : chkB cX6_leastAhead LX6_leastAhead_0 = true := by decide +kernel
theorem dX6_leastAhead_0 : decode cX6_leastAhead 0 = .ok (.iconst (-1), 1) := getB' kX6_leastAhead_0 0 rfl
theorem dX6_leastAhead_1 : decode cX6_leastAhead 1 = .ok (.istore_n 3, 1) := getB' kX6_leastAhead_0 1 rfl
theorem dX6_leastAhead_2 : decode cX6_leastAhead 2 = .ok (.iconst 0, 1) := getB' kX6_leastAhead_0 2 rfl
theorem dX6_leastAhead_3 : decode cX6_leastAhead 3 = .ok (.istore 4, 2) := getB' kX6_leastAhead_0 3 rfl
theorem dX6_leastAhead_5 : decode cX6_leastAhead 5 = .ok (.iload 4, 2) := getB' kX6_leastAhead_0 4 rfl
theorem dX6_leastAhead_7 : decode cX6_leastAhead 7 = .ok (.aload_n 0, 1) := getB' kX6_leastAhead_0 5 rfl
theorem dX6_leastAhead_8 : decode cX6_leastAhead 8 = .ok (.getfield 14, 3) := getB' kX6_leastAhead_0 6 rfl
theorem dX6_leastAhead_11 : decode cX6_leastAhead 11 = .ok (.getfield 55, 3) := getB' kX6_leastAhead_0 7 rfl
theorem dX6_leastAhead_14 : decode cX6_leastAhead 14 = .ok (.if_icmp .ge 76, 3) := getB' kX6_leastAhead_0 8 rfl
theorem dX6_leastAhead_17 : decode cX6_leastAhead 17 = .ok (.iload_n 1, 1) := getB' kX6_leastAhead_0 9 rfl
theorem dX6_leastAhead_18 : decode cX6_leastAhead 18 = .ok (.iload 4, 2) := getB' kX6_leastAhead_0 10 rfl
theorem dX6_leastAhead_20 : decode cX6_leastAhead 20 = .ok (.ishr, 1) := getB' kX6_leastAhead_0 11 rfl
def LX6_leastAhead_1 : List (Nat × Instr × Nat) := [(21, .iconst 1, 1), (22, .iand, 1), (23, .ifCond .ne 6, 3), (26, .goto 58, 3), (29, .aload_n 0, 1), (30, .getfield 27, 3), (33, .iload_n 2, 1), (34, .bipush 8, 2), (36, .imul, 1), (37, .iload 4, 2), (39, .iadd, 1), (40, .invokestatic 75, 3)]
theorem kX6_leastAhead_1 : chkB cX6_leastAhead LX6_leastAhead_1 = true := by decide +kernel
theorem dX6_leastAhead_21 : decode cX6_leastAhead 21 = .ok (.iconst 1, 1) := getB' kX6_leastAhead_1 0 rfl
theorem dX6_leastAhead_22 : decode cX6_leastAhead 22 = .ok (.iand, 1) := getB' kX6_leastAhead_1 1 rfl
theorem dX6_leastAhead_23 : decode cX6_leastAhead 23 = .ok (.ifCond .ne 6, 3) := getB' kX6_leastAhead_1 2 rfl
theorem dX6_leastAhead_26 : decode cX6_leastAhead 26 = .ok (.goto 58, 3) := getB' kX6_leastAhead_1 3 rfl
theorem dX6_leastAhead_29 : decode cX6_leastAhead 29 = .ok (.aload_n 0, 1) := getB' kX6_leastAhead_1 4 rfl
theorem dX6_leastAhead_30 : decode cX6_leastAhead 30 = .ok (.getfield 27, 3) := getB' kX6_leastAhead_1 5 rfl
theorem dX6_leastAhead_33 : decode cX6_leastAhead 33 = .ok (.iload_n 2, 1) := getB' kX6_leastAhead_1 6 rfl
theorem dX6_leastAhead_34 : decode cX6_leastAhead 34 = .ok (.bipush 8, 2) := getB' kX6_leastAhead_1 7 rfl
theorem dX6_leastAhead_36 : decode cX6_leastAhead 36 = .ok (.imul, 1) := getB' kX6_leastAhead_1 8 rfl
theorem dX6_leastAhead_37 : decode cX6_leastAhead 37 = .ok (.iload 4, 2) := getB' kX6_leastAhead_1 9 rfl
theorem dX6_leastAhead_39 : decode cX6_leastAhead 39 = .ok (.iadd, 1) := getB' kX6_leastAhead_1 10 rfl
theorem dX6_leastAhead_40 : decode cX6_leastAhead 40 = .ok (.invokestatic 75, 3) := getB' kX6_leastAhead_1 11 rfl
def LX6_leastAhead_2 : List (Nat × Instr × Nat) := [(43, .aload_n 0, 1), (44, .getfield 36, 3), (47, .iload_n 1, 1), (48, .iconst 1, 1), (49, .iload 4, 2), (51, .ishl, 1), (52, .iconst (-1), 1), (53, .ixor, 1), (54, .iand, 1), (55, .bipush 8, 2), (57, .imul, 1), (58, .iload 4, 2)]
theorem kX6_leastAhead_2 : chkB cX6_leastAhead LX6_leastAhead_2 = true := by decide +kernel
theorem dX6_leastAhead_43 : decode cX6_leastAhead 43 = .ok (.aload_n 0, 1) := getB' kX6_leastAhead_2 0 rfl
theorem dX6_leastAhead_44 : decode cX6_leastAhead 44 = .ok (.getfield 36, 3) := getB' kX6_leastAhead_2 1 rfl
theorem dX6_leastAhead_47 : decode cX6_leastAhead 47 = .ok (.iload_n 1, 1) := getB' kX6_leastAhead_2 2 rfl
theorem dX6_leastAhead_48 : decode cX6_leastAhead 48 = .ok (.iconst 1, 1) := getB' kX6_leastAhead_2 3 rfl
theorem dX6_leastAhead_49 : decode cX6_leastAhead 49 = .ok (.iload 4, 2) := getB' kX6_leastAhead_2 4 rfl
theorem dX6_leastAhead_51 : decode cX6_leastAhead 51 = .ok (.ishl, 1) := getB' kX6_leastAhead_2 5 rfl
theorem dX6_leastAhead_52 : decode cX6_leastAhead 52 = .ok (.iconst (-1), 1) := getB' kX6_leastAhead_2 6 rfl
theorem dX6_leastAhead_53 : decode cX6_leastAhead 53 = .ok (.ixor, 1) := getB' kX6_leastAhead_2 7 rfl
theorem dX6_leastAhead_54 : decode cX6_leastAhead 54 = .ok (.iand, 1) := getB' kX6_leastAhead_2 8 rfl
theorem dX6_leastAhead_55 : decode cX6_leastAhead 55 = .ok (.bipush 8, 2) := getB' kX6_leastAhead_2 9 rfl
theorem dX6_leastAhead_57 : decode cX6_leastAhead 57 = .ok (.imul, 1) := getB' kX6_leastAhead_2 10 rfl
theorem dX6_leastAhead_58 : decode cX6_leastAhead 58 = .ok (.iload 4, 2) := getB' kX6_leastAhead_2 11 rfl
def LX6_leastAhead_3 : List (Nat × Instr × Nat) := [(60, .iadd, 1), (61, .invokestatic 75, 3), (64, .iadd, 1), (65, .istore 5, 2), (67, .iload_n 3, 1), (68, .iconst (-1), 1), (69, .if_icmp .ne 8, 3), (72, .iload 5, 2), (74, .goto 9, 3), (77, .iload_n 3, 1), (78, .iload 5, 2), (80, .invokestatic 78, 3)]
theorem kX6_leastAhead_3 : chkB cX6_leastAhead LX6_leastAhead_3 = true := by decide +kernel
theorem dX6_leastAhead_60 : decode cX6_leastAhead 60 = .ok (.iadd, 1) := getB' kX6_leastAhead_3 0 rfl
theorem dX6_leastAhead_61 : decode cX6_leastAhead 61 = .ok (.invokestatic 75, 3) := getB' kX6_leastAhead_3 1 rfl
theorem dX6_leastAhead_64 : decode cX6_leastAhead 64 = .ok (.iadd, 1) := getB' kX6_leastAhead_3 2 rfl
theorem dX6_leastAhead_65 : decode cX6_leastAhead 65 = .ok (.istore 5, 2) := getB' kX6_leastAhead_3 3 rfl
theorem dX6_leastAhead_67 : decode cX6_leastAhead 67 = .ok (.iload_n 3, 1) := getB' kX6_leastAhead_3 4 rfl
theorem dX6_leastAhead_68 : decode cX6_leastAhead 68 = .ok (.iconst (-1), 1) := getB' kX6_leastAhead_3 5 rfl
theorem dX6_leastAhead_69 : decode cX6_leastAhead 69 = .ok (.if_icmp .ne 8, 3) := getB' kX6_leastAhead_3 6 rfl
theorem dX6_leastAhead_72 : decode cX6_leastAhead 72 = .ok (.iload 5, 2) := getB' kX6_leastAhead_3 7 rfl
theorem dX6_leastAhead_74 : decode cX6_leastAhead 74 = .ok (.goto 9, 3) := getB' kX6_leastAhead_3 8 rfl
theorem dX6_leastAhead_77 : decode cX6_leastAhead 77 = .ok (.iload_n 3, 1) := getB' kX6_leastAhead_3 9 rfl
theorem dX6_leastAhead_78 : decode cX6_leastAhead 78 = .ok (.iload 5, 2) := getB' kX6_leastAhead_3 10 rfl
theorem dX6_leastAhead_80 : decode cX6_leastAhead 80 = .ok (.invokestatic 78, 3) := getB' kX6_leastAhead_3 11 rfl
def LX6_leastAhead_4 : List (Nat × Instr × Nat) := [(83, .istore_n 3, 1), (84, .iinc 4 1, 3), (87, .goto (-82), 3), (90, .iconst 0, 1), (91, .iload_n 3, 1), (92, .invokestatic 83, 3), (95, .ireturn, 1)]
theorem kX6_leastAhead_4 : chkB cX6_leastAhead LX6_leastAhead_4 = true := by decide +kernel
theorem dX6_leastAhead_83 : decode cX6_leastAhead 83 = .ok (.istore_n 3, 1) := getB' kX6_leastAhead_4 0 rfl
theorem dX6_leastAhead_84 : decode cX6_leastAhead 84 = .ok (.iinc 4 1, 3) := getB' kX6_leastAhead_4 1 rfl
theorem dX6_leastAhead_87 : decode cX6_leastAhead 87 = .ok (.goto (-82), 3) := getB' kX6_leastAhead_4 2 rfl
theorem dX6_leastAhead_90 : decode cX6_leastAhead 90 = .ok (.iconst 0, 1) := getB' kX6_leastAhead_4 3 rfl
theorem dX6_leastAhead_91 : decode cX6_leastAhead 91 = .ok (.iload_n 3, 1) := getB' kX6_leastAhead_4 4 rfl
theorem dX6_leastAhead_92 : decode cX6_leastAhead 92 = .ok (.invokestatic 83, 3) := getB' kX6_leastAhead_4 5 rfl
theorem dX6_leastAhead_95 : decode cX6_leastAhead 95 = .ok (.ireturn, 1) := getB' kX6_leastAhead_4 6 rfl
def LX6_extend_0 : List (Nat × Instr × Nat) := [(0, .iconst 0, 1), (1, .istore_n 3, 1), (2, .iload_n 3, 1), (3, .aload_n 0, 1), (4, .getfield 14, 3), (7, .getfield 55, 3), (10, .if_icmp .ge 52, 3), (13, .iload_n 2, 1), (14, .iload_n 3, 1), (15, .ishr, 1), (16, .iconst 1, 1), (17, .iand, 1)]
theorem kX6_extend_0 : chkB cX6_extend LX6_extend_0 = true := by decide +kernel
theorem dX6_extend_0 : decode cX6_extend 0 = .ok (.iconst 0, 1) := getB' kX6_extend_0 0 rfl
theorem dX6_extend_1 : decode cX6_extend 1 = .ok (.istore_n 3, 1) := getB' kX6_extend_0 1 rfl
theorem dX6_extend_2 : decode cX6_extend 2 = .ok (.iload_n 3, 1) := getB' kX6_extend_0 2 rfl
theorem dX6_extend_3 : decode cX6_extend 3 = .ok (.aload_n 0, 1) := getB' kX6_extend_0 3 rfl
theorem dX6_extend_4 : decode cX6_extend 4 = .ok (.getfield 14, 3) := getB' kX6_extend_0 4 rfl
theorem dX6_extend_7 : decode cX6_extend 7 = .ok (.getfield 55, 3) := getB' kX6_extend_0 5 rfl
theorem dX6_extend_10 : decode cX6_extend 10 = .ok (.if_icmp .ge 52, 3) := getB' kX6_extend_0 6 rfl
theorem dX6_extend_13 : decode cX6_extend 13 = .ok (.iload_n 2, 1) := getB' kX6_extend_0 7 rfl
theorem dX6_extend_14 : decode cX6_extend 14 = .ok (.iload_n 3, 1) := getB' kX6_extend_0 8 rfl
theorem dX6_extend_15 : decode cX6_extend 15 = .ok (.ishr, 1) := getB' kX6_extend_0 9 rfl
theorem dX6_extend_16 : decode cX6_extend 16 = .ok (.iconst 1, 1) := getB' kX6_extend_0 10 rfl
theorem dX6_extend_17 : decode cX6_extend 17 = .ok (.iand, 1) := getB' kX6_extend_0 11 rfl
def LX6_extend_1 : List (Nat × Instr × Nat) := [(18, .ifCond .ne 38, 3), (21, .aload_n 0, 1), (22, .iload_n 1, 1), (23, .iload_n 3, 1), (24, .iload_n 2, 1), (25, .iconst 1, 1), (26, .iload_n 3, 1), (27, .ishl, 1), (28, .ior, 1), (29, .invokevirtual 86, 3), (32, .ifCond .eq 24, 3), (35, .aload_n 0, 1)]
theorem kX6_extend_1 : chkB cX6_extend LX6_extend_1 = true := by decide +kernel
theorem dX6_extend_18 : decode cX6_extend 18 = .ok (.ifCond .ne 38, 3) := getB' kX6_extend_1 0 rfl
theorem dX6_extend_21 : decode cX6_extend 21 = .ok (.aload_n 0, 1) := getB' kX6_extend_1 1 rfl
theorem dX6_extend_22 : decode cX6_extend 22 = .ok (.iload_n 1, 1) := getB' kX6_extend_1 2 rfl
theorem dX6_extend_23 : decode cX6_extend 23 = .ok (.iload_n 3, 1) := getB' kX6_extend_1 3 rfl
theorem dX6_extend_24 : decode cX6_extend 24 = .ok (.iload_n 2, 1) := getB' kX6_extend_1 4 rfl
theorem dX6_extend_25 : decode cX6_extend 25 = .ok (.iconst 1, 1) := getB' kX6_extend_1 5 rfl
theorem dX6_extend_26 : decode cX6_extend 26 = .ok (.iload_n 3, 1) := getB' kX6_extend_1 6 rfl
theorem dX6_extend_27 : decode cX6_extend 27 = .ok (.ishl, 1) := getB' kX6_extend_1 7 rfl
theorem dX6_extend_28 : decode cX6_extend 28 = .ok (.ior, 1) := getB' kX6_extend_1 8 rfl
theorem dX6_extend_29 : decode cX6_extend 29 = .ok (.invokevirtual 86, 3) := getB' kX6_extend_1 9 rfl
theorem dX6_extend_32 : decode cX6_extend 32 = .ok (.ifCond .eq 24, 3) := getB' kX6_extend_1 10 rfl
theorem dX6_extend_35 : decode cX6_extend 35 = .ok (.aload_n 0, 1) := getB' kX6_extend_1 11 rfl
def LX6_extend_2 : List (Nat × Instr × Nat) := [(36, .getfield 33, 3), (39, .iload_n 1, 1), (40, .iload_n 3, 1), (41, .invokestatic 71, 3), (44, .aload_n 0, 1), (45, .iload_n 1, 1), (46, .iconst 1, 1), (47, .iadd, 1), (48, .iload_n 2, 1), (49, .iconst 1, 1), (50, .iload_n 3, 1), (51, .ishl, 1)]
theorem kX6_extend_2 : chkB cX6_extend LX6_extend_2 = true := by decide +kernel
theorem dX6_extend_36 : decode cX6_extend 36 = .ok (.getfield 33, 3) := getB' kX6_extend_2 0 rfl
theorem dX6_extend_39 : decode cX6_extend 39 = .ok (.iload_n 1, 1) := getB' kX6_extend_2 1 rfl
theorem dX6_extend_40 : decode cX6_extend 40 = .ok (.iload_n 3, 1) := getB' kX6_extend_2 2 rfl
theorem dX6_extend_41 : decode cX6_extend 41 = .ok (.invokestatic 71, 3) := getB' kX6_extend_2 3 rfl
theorem dX6_extend_44 : decode cX6_extend 44 = .ok (.aload_n 0, 1) := getB' kX6_extend_2 4 rfl
theorem dX6_extend_45 : decode cX6_extend 45 = .ok (.iload_n 1, 1) := getB' kX6_extend_2 5 rfl
theorem dX6_extend_46 : decode cX6_extend 46 = .ok (.iconst 1, 1) := getB' kX6_extend_2 6 rfl
theorem dX6_extend_47 : decode cX6_extend 47 = .ok (.iadd, 1) := getB' kX6_extend_2 7 rfl
theorem dX6_extend_48 : decode cX6_extend 48 = .ok (.iload_n 2, 1) := getB' kX6_extend_2 8 rfl
theorem dX6_extend_49 : decode cX6_extend 49 = .ok (.iconst 1, 1) := getB' kX6_extend_2 9 rfl
theorem dX6_extend_50 : decode cX6_extend 50 = .ok (.iload_n 3, 1) := getB' kX6_extend_2 10 rfl
theorem dX6_extend_51 : decode cX6_extend 51 = .ok (.ishl, 1) := getB' kX6_extend_2 11 rfl
def LX6_extend_3 : List (Nat × Instr × Nat) := [(52, .ior, 1), (53, .invokevirtual 90, 3), (56, .iinc 3 1, 3), (59, .goto (-57), 3), (62, .return_, 1)]
theorem kX6_extend_3 : chkB cX6_extend LX6_extend_3 = true := by decide +kernel
theorem dX6_extend_52 : decode cX6_extend 52 = .ok (.ior, 1) := getB' kX6_extend_3 0 rfl
theorem dX6_extend_53 : decode cX6_extend 53 = .ok (.invokevirtual 90, 3) := getB' kX6_extend_3 1 rfl
theorem dX6_extend_56 : decode cX6_extend 56 = .ok (.iinc 3 1, 3) := getB' kX6_extend_3 2 rfl
theorem dX6_extend_59 : decode cX6_extend 59 = .ok (.goto (-57), 3) := getB' kX6_extend_3 3 rfl
theorem dX6_extend_62 : decode cX6_extend 62 = .ok (.return_, 1) := getB' kX6_extend_3 4 rfl
def LX6_goOn_0 : List (Nat × Instr × Nat) := [(0, .iload_n 1, 1), (1, .aload_n 0, 1), (2, .getfield 14, 3), (5, .getfield 55, 3), (8, .if_icmp .ge 12, 3), (11, .aload_n 0, 1), (12, .iload_n 1, 1), (13, .iload_n 2, 1), (14, .invokevirtual 65, 3), (17, .goto 7, 3), (20, .aload_n 0, 1), (21, .invokevirtual 93, 3)]
theorem kX6_goOn_0 : chkB cX6_goOn LX6_goOn_0 = true := by decide +kernel
theorem dX6_goOn_0 : decode cX6_goOn 0 = .ok (.iload_n 1, 1) := getB' kX6_goOn_0 0 rfl
theorem dX6_goOn_1 : decode cX6_goOn 1 = .ok (.aload_n 0, 1) := getB' kX6_goOn_0 1 rfl
theorem dX6_goOn_2 : decode cX6_goOn 2 = .ok (.getfield 14, 3) := getB' kX6_goOn_0 2 rfl
theorem dX6_goOn_5 : decode cX6_goOn 5 = .ok (.getfield 55, 3) := getB' kX6_goOn_0 3 rfl
theorem dX6_goOn_8 : decode cX6_goOn 8 = .ok (.if_icmp .ge 12, 3) := getB' kX6_goOn_0 4 rfl
theorem dX6_goOn_11 : decode cX6_goOn 11 = .ok (.aload_n 0, 1) := getB' kX6_goOn_0 5 rfl
theorem dX6_goOn_12 : decode cX6_goOn 12 = .ok (.iload_n 1, 1) := getB' kX6_goOn_0 6 rfl
theorem dX6_goOn_13 : decode cX6_goOn 13 = .ok (.iload_n 2, 1) := getB' kX6_goOn_0 7 rfl
theorem dX6_goOn_14 : decode cX6_goOn 14 = .ok (.invokevirtual 65, 3) := getB' kX6_goOn_0 8 rfl
theorem dX6_goOn_17 : decode cX6_goOn 17 = .ok (.goto 7, 3) := getB' kX6_goOn_0 9 rfl
theorem dX6_goOn_20 : decode cX6_goOn 20 = .ok (.aload_n 0, 1) := getB' kX6_goOn_0 10 rfl
theorem dX6_goOn_21 : decode cX6_goOn 21 = .ok (.invokevirtual 93, 3) := getB' kX6_goOn_0 11 rfl
def LX6_goOn_1 : List (Nat × Instr × Nat) := [(24, .return_, 1)]
theorem kX6_goOn_1 : chkB cX6_goOn LX6_goOn_1 = true := by decide +kernel
theorem dX6_goOn_24 : decode cX6_goOn 24 = .ok (.return_, 1) := getB' kX6_goOn_1 0 rfl
def LX6_comes_0 : List (Nat × Instr × Nat) := [(0, .aload_n 0, 1), (1, .getfield 27, 3), (4, .aload_n 0, 1), (5, .getfield 33, 3), (8, .iload_n 1, 1), (9, .iconst 1, 1), (10, .isub, 1), (11, .invokestatic 75, 3), (14, .bipush 8, 2), (16, .imul, 1), (17, .iload_n 2, 1), (18, .iadd, 1)]
theorem kX6_comes_0 : chkB cX6_comes LX6_comes_0 = true := by decide +kernel
theorem dX6_comes_0 : decode cX6_comes 0 = .ok (.aload_n 0, 1) := getB' kX6_comes_0 0 rfl
theorem dX6_comes_1 : decode cX6_comes 1 = .ok (.getfield 27, 3) := getB' kX6_comes_0 1 rfl
theorem dX6_comes_4 : decode cX6_comes 4 = .ok (.aload_n 0, 1) := getB' kX6_comes_0 2 rfl
theorem dX6_comes_5 : decode cX6_comes 5 = .ok (.getfield 33, 3) := getB' kX6_comes_0 3 rfl
theorem dX6_comes_8 : decode cX6_comes 8 = .ok (.iload_n 1, 1) := getB' kX6_comes_0 4 rfl
theorem dX6_comes_9 : decode cX6_comes 9 = .ok (.iconst 1, 1) := getB' kX6_comes_0 5 rfl
theorem dX6_comes_10 : decode cX6_comes 10 = .ok (.isub, 1) := getB' kX6_comes_0 6 rfl
theorem dX6_comes_11 : decode cX6_comes 11 = .ok (.invokestatic 75, 3) := getB' kX6_comes_0 7 rfl
theorem dX6_comes_14 : decode cX6_comes 14 = .ok (.bipush 8, 2) := getB' kX6_comes_0 8 rfl
theorem dX6_comes_16 : decode cX6_comes 16 = .ok (.imul, 1) := getB' kX6_comes_0 9 rfl
theorem dX6_comes_17 : decode cX6_comes 17 = .ok (.iload_n 2, 1) := getB' kX6_comes_0 10 rfl
theorem dX6_comes_18 : decode cX6_comes 18 = .ok (.iadd, 1) := getB' kX6_comes_0 11 rfl
def LX6_comes_1 : List (Nat × Instr × Nat) := [(19, .invokestatic 75, 3), (22, .istore 4, 2), (24, .iconst 1, 1), (25, .aload_n 0, 1), (26, .getfield 14, 3), (29, .getfield 55, 3), (32, .ishl, 1), (33, .iconst 1, 1), (34, .isub, 1), (35, .iload_n 3, 1), (36, .iconst (-1), 1), (37, .ixor, 1)]
theorem kX6_comes_1 : chkB cX6_comes LX6_comes_1 = true := by decide +kernel
theorem dX6_comes_19 : decode cX6_comes 19 = .ok (.invokestatic 75, 3) := getB' kX6_comes_1 0 rfl
theorem dX6_comes_22 : decode cX6_comes 22 = .ok (.istore 4, 2) := getB' kX6_comes_1 1 rfl
theorem dX6_comes_24 : decode cX6_comes 24 = .ok (.iconst 1, 1) := getB' kX6_comes_1 2 rfl
theorem dX6_comes_25 : decode cX6_comes 25 = .ok (.aload_n 0, 1) := getB' kX6_comes_1 3 rfl
theorem dX6_comes_26 : decode cX6_comes 26 = .ok (.getfield 14, 3) := getB' kX6_comes_1 4 rfl
theorem dX6_comes_29 : decode cX6_comes 29 = .ok (.getfield 55, 3) := getB' kX6_comes_1 5 rfl
theorem dX6_comes_32 : decode cX6_comes 32 = .ok (.ishl, 1) := getB' kX6_comes_1 6 rfl
theorem dX6_comes_33 : decode cX6_comes 33 = .ok (.iconst 1, 1) := getB' kX6_comes_1 7 rfl
theorem dX6_comes_34 : decode cX6_comes 34 = .ok (.isub, 1) := getB' kX6_comes_1 8 rfl
theorem dX6_comes_35 : decode cX6_comes 35 = .ok (.iload_n 3, 1) := getB' kX6_comes_1 9 rfl
theorem dX6_comes_36 : decode cX6_comes 36 = .ok (.iconst (-1), 1) := getB' kX6_comes_1 10 rfl
theorem dX6_comes_37 : decode cX6_comes 37 = .ok (.ixor, 1) := getB' kX6_comes_1 11 rfl
def LX6_comes_2 : List (Nat × Instr × Nat) := [(38, .iand, 1), (39, .istore 5, 2), (41, .aload_n 0, 1), (42, .getfield 36, 3), (45, .iload 5, 2), (47, .bipush 8, 2), (49, .imul, 1), (50, .iload_n 2, 1), (51, .iadd, 1), (52, .invokestatic 75, 3), (55, .istore 6, 2), (57, .iconst 0, 1)]
theorem kX6_comes_2 : chkB cX6_comes LX6_comes_2 = true := by decide +kernel
theorem dX6_comes_38 : decode cX6_comes 38 = .ok (.iand, 1) := getB' kX6_comes_2 0 rfl
theorem dX6_comes_39 : decode cX6_comes 39 = .ok (.istore 5, 2) := getB' kX6_comes_2 1 rfl
theorem dX6_comes_41 : decode cX6_comes 41 = .ok (.aload_n 0, 1) := getB' kX6_comes_2 2 rfl
theorem dX6_comes_42 : decode cX6_comes 42 = .ok (.getfield 36, 3) := getB' kX6_comes_2 3 rfl
theorem dX6_comes_45 : decode cX6_comes 45 = .ok (.iload 5, 2) := getB' kX6_comes_2 4 rfl
theorem dX6_comes_47 : decode cX6_comes 47 = .ok (.bipush 8, 2) := getB' kX6_comes_2 5 rfl
theorem dX6_comes_49 : decode cX6_comes 49 = .ok (.imul, 1) := getB' kX6_comes_2 6 rfl
theorem dX6_comes_50 : decode cX6_comes 50 = .ok (.iload_n 2, 1) := getB' kX6_comes_2 7 rfl
theorem dX6_comes_51 : decode cX6_comes 51 = .ok (.iadd, 1) := getB' kX6_comes_2 8 rfl
theorem dX6_comes_52 : decode cX6_comes 52 = .ok (.invokestatic 75, 3) := getB' kX6_comes_2 9 rfl
theorem dX6_comes_55 : decode cX6_comes 55 = .ok (.istore 6, 2) := getB' kX6_comes_2 10 rfl
theorem dX6_comes_57 : decode cX6_comes 57 = .ok (.iconst 0, 1) := getB' kX6_comes_2 11 rfl
def LX6_comes_3 : List (Nat × Instr × Nat) := [(58, .istore 7, 2), (60, .iload 7, 2), (62, .iconst 3, 1), (63, .if_icmp .ge 117, 3), (66, .iload_n 1, 1), (67, .ifCond .ne 10, 3), (70, .aload_n 0, 1), (71, .getfield 42, 3), (74, .goto 21, 3), (77, .aload_n 0, 1), (78, .getfield 30, 3), (81, .iload_n 1, 1)]
theorem kX6_comes_3 : chkB cX6_comes LX6_comes_3 = true := by decide +kernel
theorem dX6_comes_58 : decode cX6_comes 58 = .ok (.istore 7, 2) := getB' kX6_comes_3 0 rfl
theorem dX6_comes_60 : decode cX6_comes 60 = .ok (.iload 7, 2) := getB' kX6_comes_3 1 rfl
theorem dX6_comes_62 : decode cX6_comes 62 = .ok (.iconst 3, 1) := getB' kX6_comes_3 2 rfl
theorem dX6_comes_63 : decode cX6_comes 63 = .ok (.if_icmp .ge 117, 3) := getB' kX6_comes_3 3 rfl
theorem dX6_comes_66 : decode cX6_comes 66 = .ok (.iload_n 1, 1) := getB' kX6_comes_3 4 rfl
theorem dX6_comes_67 : decode cX6_comes 67 = .ok (.ifCond .ne 10, 3) := getB' kX6_comes_3 5 rfl
theorem dX6_comes_70 : decode cX6_comes 70 = .ok (.aload_n 0, 1) := getB' kX6_comes_3 6 rfl
theorem dX6_comes_71 : decode cX6_comes 71 = .ok (.getfield 42, 3) := getB' kX6_comes_3 7 rfl
theorem dX6_comes_74 : decode cX6_comes 74 = .ok (.goto 21, 3) := getB' kX6_comes_3 8 rfl
theorem dX6_comes_77 : decode cX6_comes 77 = .ok (.aload_n 0, 1) := getB' kX6_comes_3 9 rfl
theorem dX6_comes_78 : decode cX6_comes 78 = .ok (.getfield 30, 3) := getB' kX6_comes_3 10 rfl
theorem dX6_comes_81 : decode cX6_comes 81 = .ok (.iload_n 1, 1) := getB' kX6_comes_3 11 rfl
def LX6_comes_4 : List (Nat × Instr × Nat) := [(82, .iconst 1, 1), (83, .isub, 1), (84, .iconst 3, 1), (85, .imul, 1), (86, .iload 7, 2), (88, .iadd, 1), (89, .invokestatic 75, 3), (92, .iload 4, 2), (94, .iadd, 1), (95, .istore 8, 2), (97, .iload 8, 2), (99, .aload_n 0, 1)]
theorem kX6_comes_4 : chkB cX6_comes LX6_comes_4 = true := by decide +kernel
theorem dX6_comes_82 : decode cX6_comes 82 = .ok (.iconst 1, 1) := getB' kX6_comes_4 0 rfl
theorem dX6_comes_83 : decode cX6_comes 83 = .ok (.isub, 1) := getB' kX6_comes_4 1 rfl
theorem dX6_comes_84 : decode cX6_comes 84 = .ok (.iconst 3, 1) := getB' kX6_comes_4 2 rfl
theorem dX6_comes_85 : decode cX6_comes 85 = .ok (.imul, 1) := getB' kX6_comes_4 3 rfl
theorem dX6_comes_86 : decode cX6_comes 86 = .ok (.iload 7, 2) := getB' kX6_comes_4 4 rfl
theorem dX6_comes_88 : decode cX6_comes 88 = .ok (.iadd, 1) := getB' kX6_comes_4 5 rfl
theorem dX6_comes_89 : decode cX6_comes 89 = .ok (.invokestatic 75, 3) := getB' kX6_comes_4 6 rfl
theorem dX6_comes_92 : decode cX6_comes 92 = .ok (.iload 4, 2) := getB' kX6_comes_4 7 rfl
theorem dX6_comes_94 : decode cX6_comes 94 = .ok (.iadd, 1) := getB' kX6_comes_4 8 rfl
theorem dX6_comes_95 : decode cX6_comes 95 = .ok (.istore 8, 2) := getB' kX6_comes_4 9 rfl
theorem dX6_comes_97 : decode cX6_comes 97 = .ok (.iload 8, 2) := getB' kX6_comes_4 10 rfl
theorem dX6_comes_99 : decode cX6_comes 99 = .ok (.aload_n 0, 1) := getB' kX6_comes_4 11 rfl
def LX6_comes_5 : List (Nat × Instr × Nat) := [(100, .getfield 20, 3), (103, .iload 7, 2), (105, .bipush 8, 2), (107, .imul, 1), (108, .iload_n 2, 1), (109, .iadd, 1), (110, .invokestatic 75, 3), (113, .invokestatic 83, 3), (116, .istore 9, 2), (118, .iload 8, 2), (120, .aload_n 0, 1), (121, .getfield 24, 3)]
theorem kX6_comes_5 : chkB cX6_comes LX6_comes_5 = true := by decide +kernel
theorem dX6_comes_100 : decode cX6_comes 100 = .ok (.getfield 20, 3) := getB' kX6_comes_5 0 rfl
theorem dX6_comes_103 : decode cX6_comes 103 = .ok (.iload 7, 2) := getB' kX6_comes_5 1 rfl
theorem dX6_comes_105 : decode cX6_comes 105 = .ok (.bipush 8, 2) := getB' kX6_comes_5 2 rfl
theorem dX6_comes_107 : decode cX6_comes 107 = .ok (.imul, 1) := getB' kX6_comes_5 3 rfl
theorem dX6_comes_108 : decode cX6_comes 108 = .ok (.iload_n 2, 1) := getB' kX6_comes_5 4 rfl
theorem dX6_comes_109 : decode cX6_comes 109 = .ok (.iadd, 1) := getB' kX6_comes_5 5 rfl
theorem dX6_comes_110 : decode cX6_comes 110 = .ok (.invokestatic 75, 3) := getB' kX6_comes_5 6 rfl
theorem dX6_comes_113 : decode cX6_comes 113 = .ok (.invokestatic 83, 3) := getB' kX6_comes_5 7 rfl
theorem dX6_comes_116 : decode cX6_comes 116 = .ok (.istore 9, 2) := getB' kX6_comes_5 8 rfl
theorem dX6_comes_118 : decode cX6_comes 118 = .ok (.iload 8, 2) := getB' kX6_comes_5 9 rfl
theorem dX6_comes_120 : decode cX6_comes 120 = .ok (.aload_n 0, 1) := getB' kX6_comes_5 10 rfl
theorem dX6_comes_121 : decode cX6_comes 121 = .ok (.getfield 24, 3) := getB' kX6_comes_5 11 rfl
def LX6_comes_6 : List (Nat × Instr × Nat) := [(124, .iload 7, 2), (126, .bipush 8, 2), (128, .imul, 1), (129, .iload_n 2, 1), (130, .iadd, 1), (131, .invokestatic 75, 3), (134, .if_icmp .gt 23, 3), (137, .aload_n 0, 1), (138, .getfield 46, 3), (141, .iconst (-1), 1), (142, .if_icmp .eq 17, 3), (145, .iload 9, 2)]
theorem kX6_comes_6 : chkB cX6_comes LX6_comes_6 = true := by decide +kernel
theorem dX6_comes_124 : decode cX6_comes 124 = .ok (.iload 7, 2) := getB' kX6_comes_6 0 rfl
theorem dX6_comes_126 : decode cX6_comes 126 = .ok (.bipush 8, 2) := getB' kX6_comes_6 1 rfl
theorem dX6_comes_128 : decode cX6_comes 128 = .ok (.imul, 1) := getB' kX6_comes_6 2 rfl
theorem dX6_comes_129 : decode cX6_comes 129 = .ok (.iload_n 2, 1) := getB' kX6_comes_6 3 rfl
theorem dX6_comes_130 : decode cX6_comes 130 = .ok (.iadd, 1) := getB' kX6_comes_6 4 rfl
theorem dX6_comes_131 : decode cX6_comes 131 = .ok (.invokestatic 75, 3) := getB' kX6_comes_6 5 rfl
theorem dX6_comes_134 : decode cX6_comes 134 = .ok (.if_icmp .gt 23, 3) := getB' kX6_comes_6 6 rfl
theorem dX6_comes_137 : decode cX6_comes 137 = .ok (.aload_n 0, 1) := getB' kX6_comes_6 7 rfl
theorem dX6_comes_138 : decode cX6_comes 138 = .ok (.getfield 46, 3) := getB' kX6_comes_6 8 rfl
theorem dX6_comes_141 : decode cX6_comes 141 = .ok (.iconst (-1), 1) := getB' kX6_comes_6 9 rfl
theorem dX6_comes_142 : decode cX6_comes 142 = .ok (.if_icmp .eq 17, 3) := getB' kX6_comes_6 10 rfl
theorem dX6_comes_145 : decode cX6_comes 145 = .ok (.iload 9, 2) := getB' kX6_comes_6 11 rfl
def LX6_comes_7 : List (Nat × Instr × Nat) := [(147, .iload 6, 2), (149, .iadd, 1), (150, .aload_n 0, 1), (151, .getfield 46, 3), (154, .if_icmp .lt 5, 3), (157, .iconst 0, 1), (158, .ireturn, 1), (159, .aload_n 0, 1), (160, .getfield 30, 3), (163, .iload_n 1, 1), (164, .iconst 3, 1), (165, .imul, 1)]
theorem kX6_comes_7 : chkB cX6_comes LX6_comes_7 = true := by decide +kernel
theorem dX6_comes_147 : decode cX6_comes 147 = .ok (.iload 6, 2) := getB' kX6_comes_7 0 rfl
theorem dX6_comes_149 : decode cX6_comes 149 = .ok (.iadd, 1) := getB' kX6_comes_7 1 rfl
theorem dX6_comes_150 : decode cX6_comes 150 = .ok (.aload_n 0, 1) := getB' kX6_comes_7 2 rfl
theorem dX6_comes_151 : decode cX6_comes 151 = .ok (.getfield 46, 3) := getB' kX6_comes_7 3 rfl
theorem dX6_comes_154 : decode cX6_comes 154 = .ok (.if_icmp .lt 5, 3) := getB' kX6_comes_7 4 rfl
theorem dX6_comes_157 : decode cX6_comes 157 = .ok (.iconst 0, 1) := getB' kX6_comes_7 5 rfl
theorem dX6_comes_158 : decode cX6_comes 158 = .ok (.ireturn, 1) := getB' kX6_comes_7 6 rfl
theorem dX6_comes_159 : decode cX6_comes 159 = .ok (.aload_n 0, 1) := getB' kX6_comes_7 7 rfl
theorem dX6_comes_160 : decode cX6_comes 160 = .ok (.getfield 30, 3) := getB' kX6_comes_7 8 rfl
theorem dX6_comes_163 : decode cX6_comes 163 = .ok (.iload_n 1, 1) := getB' kX6_comes_7 9 rfl
theorem dX6_comes_164 : decode cX6_comes 164 = .ok (.iconst 3, 1) := getB' kX6_comes_7 10 rfl
theorem dX6_comes_165 : decode cX6_comes 165 = .ok (.imul, 1) := getB' kX6_comes_7 11 rfl
def LX6_comes_8 : List (Nat × Instr × Nat) := [(166, .iload 7, 2), (168, .iadd, 1), (169, .iload 9, 2), (171, .invokestatic 71, 3), (174, .iinc 7 1, 3), (177, .goto (-117), 3), (180, .iconst 1, 1), (181, .ireturn, 1)]
theorem kX6_comes_8 : chkB cX6_comes LX6_comes_8 = true := by decide +kernel
theorem dX6_comes_166 : decode cX6_comes 166 = .ok (.iload 7, 2) := getB' kX6_comes_8 0 rfl
theorem dX6_comes_168 : decode cX6_comes 168 = .ok (.iadd, 1) := getB' kX6_comes_8 1 rfl
theorem dX6_comes_169 : decode cX6_comes 169 = .ok (.iload 9, 2) := getB' kX6_comes_8 2 rfl
theorem dX6_comes_171 : decode cX6_comes 171 = .ok (.invokestatic 71, 3) := getB' kX6_comes_8 3 rfl
theorem dX6_comes_174 : decode cX6_comes 174 = .ok (.iinc 7 1, 3) := getB' kX6_comes_8 4 rfl
theorem dX6_comes_177 : decode cX6_comes 177 = .ok (.goto (-117), 3) := getB' kX6_comes_8 5 rfl
theorem dX6_comes_180 : decode cX6_comes 180 = .ok (.iconst 1, 1) := getB' kX6_comes_8 6 rfl
theorem dX6_comes_181 : decode cX6_comes 181 = .ok (.ireturn, 1) := getB' kX6_comes_8 7 rfl
def LX6_keep_0 : List (Nat × Instr × Nat) := [(0, .aload_n 0, 1), (1, .getfield 14, 3), (4, .getfield 55, 3), (7, .iconst 1, 1), (8, .isub, 1), (9, .istore_n 1, 1), (10, .aload_n 0, 1), (11, .iconst (-1), 1), (12, .putfield 46, 3), (15, .iconst 0, 1), (16, .istore_n 2, 1), (17, .iload_n 2, 1)]
theorem kX6_keep_0 : chkB cX6_keep LX6_keep_0 = true := by decide +kernel
theorem dX6_keep_0 : decode cX6_keep 0 = .ok (.aload_n 0, 1) := getB' kX6_keep_0 0 rfl
theorem dX6_keep_1 : decode cX6_keep 1 = .ok (.getfield 14, 3) := getB' kX6_keep_0 1 rfl
theorem dX6_keep_4 : decode cX6_keep 4 = .ok (.getfield 55, 3) := getB' kX6_keep_0 2 rfl
theorem dX6_keep_7 : decode cX6_keep 7 = .ok (.iconst 1, 1) := getB' kX6_keep_0 3 rfl
theorem dX6_keep_8 : decode cX6_keep 8 = .ok (.isub, 1) := getB' kX6_keep_0 4 rfl
theorem dX6_keep_9 : decode cX6_keep 9 = .ok (.istore_n 1, 1) := getB' kX6_keep_0 5 rfl
theorem dX6_keep_10 : decode cX6_keep 10 = .ok (.aload_n 0, 1) := getB' kX6_keep_0 6 rfl
theorem dX6_keep_11 : decode cX6_keep 11 = .ok (.iconst (-1), 1) := getB' kX6_keep_0 7 rfl
theorem dX6_keep_12 : decode cX6_keep 12 = .ok (.putfield 46, 3) := getB' kX6_keep_0 8 rfl
theorem dX6_keep_15 : decode cX6_keep 15 = .ok (.iconst 0, 1) := getB' kX6_keep_0 9 rfl
theorem dX6_keep_16 : decode cX6_keep 16 = .ok (.istore_n 2, 1) := getB' kX6_keep_0 10 rfl
theorem dX6_keep_17 : decode cX6_keep 17 = .ok (.iload_n 2, 1) := getB' kX6_keep_0 11 rfl
def LX6_keep_1 : List (Nat × Instr × Nat) := [(18, .iconst 3, 1), (19, .if_icmp .ge 32, 3), (22, .aload_n 0, 1), (23, .aload_n 0, 1), (24, .getfield 46, 3), (27, .aload_n 0, 1), (28, .getfield 30, 3), (31, .iload_n 1, 1), (32, .iconst 3, 1), (33, .imul, 1), (34, .iload_n 2, 1), (35, .iadd, 1)]
theorem kX6_keep_1 : chkB cX6_keep LX6_keep_1 = true := by decide +kernel
theorem dX6_keep_18 : decode cX6_keep 18 = .ok (.iconst 3, 1) := getB' kX6_keep_1 0 rfl
theorem dX6_keep_19 : decode cX6_keep 19 = .ok (.if_icmp .ge 32, 3) := getB' kX6_keep_1 1 rfl
theorem dX6_keep_22 : decode cX6_keep 22 = .ok (.aload_n 0, 1) := getB' kX6_keep_1 2 rfl
theorem dX6_keep_23 : decode cX6_keep 23 = .ok (.aload_n 0, 1) := getB' kX6_keep_1 3 rfl
theorem dX6_keep_24 : decode cX6_keep 24 = .ok (.getfield 46, 3) := getB' kX6_keep_1 4 rfl
theorem dX6_keep_27 : decode cX6_keep 27 = .ok (.aload_n 0, 1) := getB' kX6_keep_1 5 rfl
theorem dX6_keep_28 : decode cX6_keep 28 = .ok (.getfield 30, 3) := getB' kX6_keep_1 6 rfl
theorem dX6_keep_31 : decode cX6_keep 31 = .ok (.iload_n 1, 1) := getB' kX6_keep_1 7 rfl
theorem dX6_keep_32 : decode cX6_keep 32 = .ok (.iconst 3, 1) := getB' kX6_keep_1 8 rfl
theorem dX6_keep_33 : decode cX6_keep 33 = .ok (.imul, 1) := getB' kX6_keep_1 9 rfl
theorem dX6_keep_34 : decode cX6_keep 34 = .ok (.iload_n 2, 1) := getB' kX6_keep_1 10 rfl
theorem dX6_keep_35 : decode cX6_keep 35 = .ok (.iadd, 1) := getB' kX6_keep_1 11 rfl
def LX6_keep_2 : List (Nat × Instr × Nat) := [(36, .invokestatic 75, 3), (39, .invokestatic 83, 3), (42, .putfield 46, 3), (45, .iinc 2 1, 3), (48, .goto (-31), 3), (51, .iconst 0, 1), (52, .istore_n 2, 1), (53, .iload_n 2, 1), (54, .aload_n 0, 1), (55, .getfield 14, 3), (58, .getfield 55, 3), (61, .if_icmp .ge 25, 3)]
theorem kX6_keep_2 : chkB cX6_keep LX6_keep_2 = true := by decide +kernel
theorem dX6_keep_36 : decode cX6_keep 36 = .ok (.invokestatic 75, 3) := getB' kX6_keep_2 0 rfl
theorem dX6_keep_39 : decode cX6_keep 39 = .ok (.invokestatic 83, 3) := getB' kX6_keep_2 1 rfl
theorem dX6_keep_42 : decode cX6_keep 42 = .ok (.putfield 46, 3) := getB' kX6_keep_2 2 rfl
theorem dX6_keep_45 : decode cX6_keep 45 = .ok (.iinc 2 1, 3) := getB' kX6_keep_2 3 rfl
theorem dX6_keep_48 : decode cX6_keep 48 = .ok (.goto (-31), 3) := getB' kX6_keep_2 4 rfl
theorem dX6_keep_51 : decode cX6_keep 51 = .ok (.iconst 0, 1) := getB' kX6_keep_2 5 rfl
theorem dX6_keep_52 : decode cX6_keep 52 = .ok (.istore_n 2, 1) := getB' kX6_keep_2 6 rfl
theorem dX6_keep_53 : decode cX6_keep 53 = .ok (.iload_n 2, 1) := getB' kX6_keep_2 7 rfl
theorem dX6_keep_54 : decode cX6_keep 54 = .ok (.aload_n 0, 1) := getB' kX6_keep_2 8 rfl
theorem dX6_keep_55 : decode cX6_keep 55 = .ok (.getfield 14, 3) := getB' kX6_keep_2 9 rfl
theorem dX6_keep_58 : decode cX6_keep 58 = .ok (.getfield 55, 3) := getB' kX6_keep_2 10 rfl
theorem dX6_keep_61 : decode cX6_keep 61 = .ok (.if_icmp .ge 25, 3) := getB' kX6_keep_2 11 rfl
def LX6_keep_3 : List (Nat × Instr × Nat) := [(64, .aload_n 0, 1), (65, .getfield 39, 3), (68, .iload_n 2, 1), (69, .aload_n 0, 1), (70, .getfield 33, 3), (73, .iload_n 2, 1), (74, .invokestatic 75, 3), (77, .invokestatic 71, 3), (80, .iinc 2 1, 3), (83, .goto (-30), 3), (86, .return_, 1)]
theorem kX6_keep_3 : chkB cX6_keep LX6_keep_3 = true := by decide +kernel
theorem dX6_keep_64 : decode cX6_keep 64 = .ok (.aload_n 0, 1) := getB' kX6_keep_3 0 rfl
theorem dX6_keep_65 : decode cX6_keep 65 = .ok (.getfield 39, 3) := getB' kX6_keep_3 1 rfl
theorem dX6_keep_68 : decode cX6_keep 68 = .ok (.iload_n 2, 1) := getB' kX6_keep_3 2 rfl
theorem dX6_keep_69 : decode cX6_keep 69 = .ok (.aload_n 0, 1) := getB' kX6_keep_3 3 rfl
theorem dX6_keep_70 : decode cX6_keep 70 = .ok (.getfield 33, 3) := getB' kX6_keep_3 4 rfl
theorem dX6_keep_73 : decode cX6_keep 73 = .ok (.iload_n 2, 1) := getB' kX6_keep_3 5 rfl
theorem dX6_keep_74 : decode cX6_keep 74 = .ok (.invokestatic 75, 3) := getB' kX6_keep_3 6 rfl
theorem dX6_keep_77 : decode cX6_keep 77 = .ok (.invokestatic 71, 3) := getB' kX6_keep_3 7 rfl
theorem dX6_keep_80 : decode cX6_keep 80 = .ok (.iinc 2 1, 3) := getB' kX6_keep_3 8 rfl
theorem dX6_keep_83 : decode cX6_keep 83 = .ok (.goto (-30), 3) := getB' kX6_keep_3 9 rfl
theorem dX6_keep_86 : decode cX6_keep 86 = .ok (.return_, 1) := getB' kX6_keep_3 10 rfl
def LX7_init_0 : List (Nat × Instr × Nat) := [(0, .aload_n 0, 1), (1, .invokespecial 3, 3), (4, .aload_n 0, 1), (5, .iconst 0, 1), (6, .putfield 9, 3), (9, .aload_n 0, 1), (10, .iconst 0, 1), (11, .putfield 15, 3), (14, .aload_n 0, 1), (15, .iconst (-1), 1), (16, .putfield 18, 3), (19, .aload_n 0, 1)]
theorem kX7_init_0 : chkB cX7_init LX7_init_0 = true := by decide +kernel
theorem dX7_init_0 : decode cX7_init 0 = .ok (.aload_n 0, 1) := getB' kX7_init_0 0 rfl
theorem dX7_init_1 : decode cX7_init 1 = .ok (.invokespecial 3, 3) := getB' kX7_init_0 1 rfl
theorem dX7_init_4 : decode cX7_init 4 = .ok (.aload_n 0, 1) := getB' kX7_init_0 2 rfl
theorem dX7_init_5 : decode cX7_init 5 = .ok (.iconst 0, 1) := getB' kX7_init_0 3 rfl
theorem dX7_init_6 : decode cX7_init 6 = .ok (.putfield 9, 3) := getB' kX7_init_0 4 rfl
theorem dX7_init_9 : decode cX7_init 9 = .ok (.aload_n 0, 1) := getB' kX7_init_0 5 rfl
theorem dX7_init_10 : decode cX7_init 10 = .ok (.iconst 0, 1) := getB' kX7_init_0 6 rfl
theorem dX7_init_11 : decode cX7_init 11 = .ok (.putfield 15, 3) := getB' kX7_init_0 7 rfl
theorem dX7_init_14 : decode cX7_init 14 = .ok (.aload_n 0, 1) := getB' kX7_init_0 8 rfl
theorem dX7_init_15 : decode cX7_init 15 = .ok (.iconst (-1), 1) := getB' kX7_init_0 9 rfl
theorem dX7_init_16 : decode cX7_init 16 = .ok (.putfield 18, 3) := getB' kX7_init_0 10 rfl
theorem dX7_init_19 : decode cX7_init 19 = .ok (.aload_n 0, 1) := getB' kX7_init_0 11 rfl
def LX7_init_1 : List (Nat × Instr × Nat) := [(20, .iconst 0, 1), (21, .putfield 21, 3), (24, .aload_n 0, 1), (25, .iconst 0, 1), (26, .putfield 24, 3), (29, .aload_n 0, 1), (30, .iconst (-1), 1), (31, .putfield 27, 3), (34, .aload_n 0, 1), (35, .iconst 0, 1), (36, .putfield 30, 3), (39, .aload_n 0, 1)]
theorem kX7_init_1 : chkB cX7_init LX7_init_1 = true := by decide +kernel
theorem dX7_init_20 : decode cX7_init 20 = .ok (.iconst 0, 1) := getB' kX7_init_1 0 rfl
theorem dX7_init_21 : decode cX7_init 21 = .ok (.putfield 21, 3) := getB' kX7_init_1 1 rfl
theorem dX7_init_24 : decode cX7_init 24 = .ok (.aload_n 0, 1) := getB' kX7_init_1 2 rfl
theorem dX7_init_25 : decode cX7_init 25 = .ok (.iconst 0, 1) := getB' kX7_init_1 3 rfl
theorem dX7_init_26 : decode cX7_init 26 = .ok (.putfield 24, 3) := getB' kX7_init_1 4 rfl
theorem dX7_init_29 : decode cX7_init 29 = .ok (.aload_n 0, 1) := getB' kX7_init_1 5 rfl
theorem dX7_init_30 : decode cX7_init 30 = .ok (.iconst (-1), 1) := getB' kX7_init_1 6 rfl
theorem dX7_init_31 : decode cX7_init 31 = .ok (.putfield 27, 3) := getB' kX7_init_1 7 rfl
theorem dX7_init_34 : decode cX7_init 34 = .ok (.aload_n 0, 1) := getB' kX7_init_1 8 rfl
theorem dX7_init_35 : decode cX7_init 35 = .ok (.iconst 0, 1) := getB' kX7_init_1 9 rfl
theorem dX7_init_36 : decode cX7_init 36 = .ok (.putfield 30, 3) := getB' kX7_init_1 10 rfl
theorem dX7_init_39 : decode cX7_init 39 = .ok (.aload_n 0, 1) := getB' kX7_init_1 11 rfl
def LX7_init_2 : List (Nat × Instr × Nat) := [(40, .iconst 0, 1), (41, .putfield 33, 3), (44, .aload_n 0, 1), (45, .iload_n 1, 1), (46, .putfield 36, 3), (49, .aload_n 0, 1), (50, .iload_n 2, 1), (51, .putfield 39, 3), (54, .aload_n 0, 1), (55, .iload_n 3, 1), (56, .putfield 42, 3), (59, .return_, 1)]
theorem kX7_init_2 : chkB cX7_init LX7_init_2 = true := by decide +kernel
theorem dX7_init_40 : decode cX7_init 40 = .ok (.iconst 0, 1) := getB' kX7_init_2 0 rfl
theorem dX7_init_41 : decode cX7_init 41 = .ok (.putfield 33, 3) := getB' kX7_init_2 1 rfl
theorem dX7_init_44 : decode cX7_init 44 = .ok (.aload_n 0, 1) := getB' kX7_init_2 2 rfl
theorem dX7_init_45 : decode cX7_init 45 = .ok (.iload_n 1, 1) := getB' kX7_init_2 3 rfl
theorem dX7_init_46 : decode cX7_init 46 = .ok (.putfield 36, 3) := getB' kX7_init_2 4 rfl
theorem dX7_init_49 : decode cX7_init 49 = .ok (.aload_n 0, 1) := getB' kX7_init_2 5 rfl
theorem dX7_init_50 : decode cX7_init 50 = .ok (.iload_n 2, 1) := getB' kX7_init_2 6 rfl
theorem dX7_init_51 : decode cX7_init 51 = .ok (.putfield 39, 3) := getB' kX7_init_2 7 rfl
theorem dX7_init_54 : decode cX7_init 54 = .ok (.aload_n 0, 1) := getB' kX7_init_2 8 rfl
theorem dX7_init_55 : decode cX7_init 55 = .ok (.iload_n 3, 1) := getB' kX7_init_2 9 rfl
theorem dX7_init_56 : decode cX7_init 56 = .ok (.putfield 42, 3) := getB' kX7_init_2 10 rfl
theorem dX7_init_59 : decode cX7_init 59 = .ok (.return_, 1) := getB' kX7_init_2 11 rfl
def LX7_leave_0 : List (Nat × Instr × Nat) := [(0, .aload_n 0, 1), (1, .iconst 1, 1), (2, .putfield 9, 3), (5, .aload_n 0, 1), (6, .iload_n 1, 1), (7, .putfield 15, 3), (10, .aload_n 0, 1), (11, .iload_n 2, 1), (12, .putfield 18, 3), (15, .aload_n 0, 1), (16, .iload_n 3, 1), (17, .putfield 21, 3)]
theorem kX7_leave_0 : chkB cX7_leave LX7_leave_0 = true := by decide +kernel
theorem dX7_leave_0 : decode cX7_leave 0 = .ok (.aload_n 0, 1) := getB' kX7_leave_0 0 rfl
theorem dX7_leave_1 : decode cX7_leave 1 = .ok (.iconst 1, 1) := getB' kX7_leave_0 1 rfl
theorem dX7_leave_2 : decode cX7_leave 2 = .ok (.putfield 9, 3) := getB' kX7_leave_0 2 rfl
theorem dX7_leave_5 : decode cX7_leave 5 = .ok (.aload_n 0, 1) := getB' kX7_leave_0 3 rfl
theorem dX7_leave_6 : decode cX7_leave 6 = .ok (.iload_n 1, 1) := getB' kX7_leave_0 4 rfl
theorem dX7_leave_7 : decode cX7_leave 7 = .ok (.putfield 15, 3) := getB' kX7_leave_0 5 rfl
theorem dX7_leave_10 : decode cX7_leave 10 = .ok (.aload_n 0, 1) := getB' kX7_leave_0 6 rfl
theorem dX7_leave_11 : decode cX7_leave 11 = .ok (.iload_n 2, 1) := getB' kX7_leave_0 7 rfl
theorem dX7_leave_12 : decode cX7_leave 12 = .ok (.putfield 18, 3) := getB' kX7_leave_0 8 rfl
theorem dX7_leave_15 : decode cX7_leave 15 = .ok (.aload_n 0, 1) := getB' kX7_leave_0 9 rfl
theorem dX7_leave_16 : decode cX7_leave 16 = .ok (.iload_n 3, 1) := getB' kX7_leave_0 10 rfl
theorem dX7_leave_17 : decode cX7_leave 17 = .ok (.putfield 21, 3) := getB' kX7_leave_0 11 rfl
def LX7_leave_1 : List (Nat × Instr × Nat) := [(20, .aload_n 0, 1), (21, .iload 5, 2), (23, .putfield 33, 3), (26, .aload_n 0, 1), (27, .iload 4, 2), (29, .iload 5, 2), (31, .iadd, 1), (32, .putfield 27, 3), (35, .aload_n 0, 1), (36, .iconst 0, 1), (37, .putfield 30, 3), (40, .return_, 1)]
theorem kX7_leave_1 : chkB cX7_leave LX7_leave_1 = true := by decide +kernel
theorem dX7_leave_20 : decode cX7_leave 20 = .ok (.aload_n 0, 1) := getB' kX7_leave_1 0 rfl
theorem dX7_leave_21 : decode cX7_leave 21 = .ok (.iload 5, 2) := getB' kX7_leave_1 1 rfl
theorem dX7_leave_23 : decode cX7_leave 23 = .ok (.putfield 33, 3) := getB' kX7_leave_1 2 rfl
theorem dX7_leave_26 : decode cX7_leave 26 = .ok (.aload_n 0, 1) := getB' kX7_leave_1 3 rfl
theorem dX7_leave_27 : decode cX7_leave 27 = .ok (.iload 4, 2) := getB' kX7_leave_1 4 rfl
theorem dX7_leave_29 : decode cX7_leave 29 = .ok (.iload 5, 2) := getB' kX7_leave_1 5 rfl
theorem dX7_leave_31 : decode cX7_leave 31 = .ok (.iadd, 1) := getB' kX7_leave_1 6 rfl
theorem dX7_leave_32 : decode cX7_leave 32 = .ok (.putfield 27, 3) := getB' kX7_leave_1 7 rfl
theorem dX7_leave_35 : decode cX7_leave 35 = .ok (.aload_n 0, 1) := getB' kX7_leave_1 8 rfl
theorem dX7_leave_36 : decode cX7_leave 36 = .ok (.iconst 0, 1) := getB' kX7_leave_1 9 rfl
theorem dX7_leave_37 : decode cX7_leave 37 = .ok (.putfield 30, 3) := getB' kX7_leave_1 10 rfl
theorem dX7_leave_40 : decode cX7_leave 40 = .ok (.return_, 1) := getB' kX7_leave_1 11 rfl
def LX7_turnBack : List (Nat × Instr × Nat) := [(0, .aload_n 0, 1), (1, .iconst 3, 1), (2, .putfield 9, 3), (5, .aload_n 0, 1), (6, .iload_n 1, 1), (7, .aload_n 0, 1), (8, .getfield 33, 3), (11, .iadd, 1), (12, .putfield 27, 3), (15, .return_, 1)]
theorem kX7_turnBack : chkB cX7_turnBack LX7_turnBack = true := by decide +kernel
theorem dX7_turnBack_0 : decode cX7_turnBack 0 = .ok (.aload_n 0, 1) := getB' kX7_turnBack 0 rfl
theorem dX7_turnBack_1 : decode cX7_turnBack 1 = .ok (.iconst 3, 1) := getB' kX7_turnBack 1 rfl
theorem dX7_turnBack_2 : decode cX7_turnBack 2 = .ok (.putfield 9, 3) := getB' kX7_turnBack 2 rfl
theorem dX7_turnBack_5 : decode cX7_turnBack 5 = .ok (.aload_n 0, 1) := getB' kX7_turnBack 3 rfl
theorem dX7_turnBack_6 : decode cX7_turnBack 6 = .ok (.iload_n 1, 1) := getB' kX7_turnBack 4 rfl
theorem dX7_turnBack_7 : decode cX7_turnBack 7 = .ok (.aload_n 0, 1) := getB' kX7_turnBack 5 rfl
theorem dX7_turnBack_8 : decode cX7_turnBack 8 = .ok (.getfield 33, 3) := getB' kX7_turnBack 6 rfl
theorem dX7_turnBack_11 : decode cX7_turnBack 11 = .ok (.iadd, 1) := getB' kX7_turnBack 7 rfl
theorem dX7_turnBack_12 : decode cX7_turnBack 12 = .ok (.putfield 27, 3) := getB' kX7_turnBack 8 rfl
theorem dX7_turnBack_15 : decode cX7_turnBack 15 = .ok (.return_, 1) := getB' kX7_turnBack 9 rfl
def LX8_init_0 : List (Nat × Instr × Nat) := [(0, .aload_n 0, 1), (1, .invokespecial 3, 3), (4, .aload_n 0, 1), (5, .iconst 0, 1), (6, .putfield 9, 3), (9, .aload_n 0, 1), (10, .iload_n 1, 1), (11, .putfield 15, 3), (14, .aload_n 0, 1), (15, .iload_n 2, 1), (16, .putfield 18, 3), (19, .aload_n 0, 1)]
theorem kX8_init_0 : chkB cX8_init LX8_init_0 = true := by decide +kernel
theorem dX8_init_0 : decode cX8_init 0 = .ok (.aload_n 0, 1) := getB' kX8_init_0 0 rfl
theorem dX8_init_1 : decode cX8_init 1 = .ok (.invokespecial 3, 3) := getB' kX8_init_0 1 rfl
theorem dX8_init_4 : decode cX8_init 4 = .ok (.aload_n 0, 1) := getB' kX8_init_0 2 rfl
theorem dX8_init_5 : decode cX8_init 5 = .ok (.iconst 0, 1) := getB' kX8_init_0 3 rfl
theorem dX8_init_6 : decode cX8_init 6 = .ok (.putfield 9, 3) := getB' kX8_init_0 4 rfl
theorem dX8_init_9 : decode cX8_init 9 = .ok (.aload_n 0, 1) := getB' kX8_init_0 5 rfl
theorem dX8_init_10 : decode cX8_init 10 = .ok (.iload_n 1, 1) := getB' kX8_init_0 6 rfl
theorem dX8_init_11 : decode cX8_init 11 = .ok (.putfield 15, 3) := getB' kX8_init_0 7 rfl
theorem dX8_init_14 : decode cX8_init 14 = .ok (.aload_n 0, 1) := getB' kX8_init_0 8 rfl
theorem dX8_init_15 : decode cX8_init 15 = .ok (.iload_n 2, 1) := getB' kX8_init_0 9 rfl
theorem dX8_init_16 : decode cX8_init 16 = .ok (.putfield 18, 3) := getB' kX8_init_0 10 rfl
theorem dX8_init_19 : decode cX8_init 19 = .ok (.aload_n 0, 1) := getB' kX8_init_0 11 rfl
def LX8_init_1 : List (Nat × Instr × Nat) := [(20, .iconst 0, 1), (21, .iload_n 1, 1), (22, .iload_n 2, 1), (23, .imul, 1), (24, .invokestatic 21, 3), (27, .newarray .int, 2), (29, .putfield 27, 3), (32, .return_, 1)]
theorem kX8_init_1 : chkB cX8_init LX8_init_1 = true := by decide +kernel
theorem dX8_init_20 : decode cX8_init 20 = .ok (.iconst 0, 1) := getB' kX8_init_1 0 rfl
theorem dX8_init_21 : decode cX8_init 21 = .ok (.iload_n 1, 1) := getB' kX8_init_1 1 rfl
theorem dX8_init_22 : decode cX8_init 22 = .ok (.iload_n 2, 1) := getB' kX8_init_1 2 rfl
theorem dX8_init_23 : decode cX8_init 23 = .ok (.imul, 1) := getB' kX8_init_1 3 rfl
theorem dX8_init_24 : decode cX8_init 24 = .ok (.invokestatic 21, 3) := getB' kX8_init_1 4 rfl
theorem dX8_init_27 : decode cX8_init 27 = .ok (.newarray .int, 2) := getB' kX8_init_1 5 rfl
theorem dX8_init_29 : decode cX8_init 29 = .ok (.putfield 27, 3) := getB' kX8_init_1 6 rfl
theorem dX8_init_32 : decode cX8_init 32 = .ok (.return_, 1) := getB' kX8_init_1 7 rfl
def LX8_isFull : List (Nat × Instr × Nat) := [(0, .aload_n 0, 1), (1, .getfield 9, 3), (4, .aload_n 0, 1), (5, .getfield 18, 3), (8, .if_icmp .lt 7, 3), (11, .iconst 1, 1), (12, .goto 4, 3), (15, .iconst 0, 1), (16, .ireturn, 1)]
theorem kX8_isFull : chkB cX8_isFull LX8_isFull = true := by decide +kernel
theorem dX8_isFull_0 : decode cX8_isFull 0 = .ok (.aload_n 0, 1) := getB' kX8_isFull 0 rfl
theorem dX8_isFull_1 : decode cX8_isFull 1 = .ok (.getfield 9, 3) := getB' kX8_isFull 1 rfl
theorem dX8_isFull_4 : decode cX8_isFull 4 = .ok (.aload_n 0, 1) := getB' kX8_isFull 2 rfl
theorem dX8_isFull_5 : decode cX8_isFull 5 = .ok (.getfield 18, 3) := getB' kX8_isFull 3 rfl
theorem dX8_isFull_8 : decode cX8_isFull 8 = .ok (.if_icmp .lt 7, 3) := getB' kX8_isFull 4 rfl
theorem dX8_isFull_11 : decode cX8_isFull 11 = .ok (.iconst 1, 1) := getB' kX8_isFull 5 rfl
theorem dX8_isFull_12 : decode cX8_isFull 12 = .ok (.goto 4, 3) := getB' kX8_isFull 6 rfl
theorem dX8_isFull_15 : decode cX8_isFull 15 = .ok (.iconst 0, 1) := getB' kX8_isFull 7 rfl
theorem dX8_isFull_16 : decode cX8_isFull 16 = .ok (.ireturn, 1) := getB' kX8_isFull 8 rfl
def LX8_has : List (Nat × Instr × Nat) := [(0, .iload_n 1, 1), (1, .ifCond .lt 15, 3), (4, .iload_n 1, 1), (5, .aload_n 0, 1), (6, .getfield 9, 3), (9, .if_icmp .ge 7, 3), (12, .iconst 1, 1), (13, .goto 4, 3), (16, .iconst 0, 1), (17, .ireturn, 1)]
theorem kX8_has : chkB cX8_has LX8_has = true := by decide +kernel
theorem dX8_has_0 : decode cX8_has 0 = .ok (.iload_n 1, 1) := getB' kX8_has 0 rfl
theorem dX8_has_1 : decode cX8_has 1 = .ok (.ifCond .lt 15, 3) := getB' kX8_has 1 rfl
theorem dX8_has_4 : decode cX8_has 4 = .ok (.iload_n 1, 1) := getB' kX8_has 2 rfl
theorem dX8_has_5 : decode cX8_has 5 = .ok (.aload_n 0, 1) := getB' kX8_has 3 rfl
theorem dX8_has_6 : decode cX8_has 6 = .ok (.getfield 9, 3) := getB' kX8_has 4 rfl
theorem dX8_has_9 : decode cX8_has 9 = .ok (.if_icmp .ge 7, 3) := getB' kX8_has 5 rfl
theorem dX8_has_12 : decode cX8_has 12 = .ok (.iconst 1, 1) := getB' kX8_has 6 rfl
theorem dX8_has_13 : decode cX8_has 13 = .ok (.goto 4, 3) := getB' kX8_has 7 rfl
theorem dX8_has_16 : decode cX8_has 16 = .ok (.iconst 0, 1) := getB' kX8_has 8 rfl
theorem dX8_has_17 : decode cX8_has 17 = .ok (.ireturn, 1) := getB' kX8_has 9 rfl
def LX8_get_0 : List (Nat × Instr × Nat) := [(0, .iload_n 1, 1), (1, .aload_n 0, 1), (2, .getfield 15, 3), (5, .imul, 1), (6, .iload_n 2, 1), (7, .iadd, 1), (8, .istore_n 3, 1), (9, .iload_n 1, 1), (10, .ifCond .lt 27, 3), (13, .iload_n 1, 1), (14, .aload_n 0, 1), (15, .getfield 9, 3)]
theorem kX8_get_0 : chkB cX8_get LX8_get_0 = true := by decide +kernel
theorem dX8_get_0 : decode cX8_get 0 = .ok (.iload_n 1, 1) := getB' kX8_get_0 0 rfl
theorem dX8_get_1 : decode cX8_get 1 = .ok (.aload_n 0, 1) := getB' kX8_get_0 1 rfl
theorem dX8_get_2 : decode cX8_get 2 = .ok (.getfield 15, 3) := getB' kX8_get_0 2 rfl
theorem dX8_get_5 : decode cX8_get 5 = .ok (.imul, 1) := getB' kX8_get_0 3 rfl
theorem dX8_get_6 : decode cX8_get 6 = .ok (.iload_n 2, 1) := getB' kX8_get_0 4 rfl
theorem dX8_get_7 : decode cX8_get 7 = .ok (.iadd, 1) := getB' kX8_get_0 5 rfl
theorem dX8_get_8 : decode cX8_get 8 = .ok (.istore_n 3, 1) := getB' kX8_get_0 6 rfl
theorem dX8_get_9 : decode cX8_get 9 = .ok (.iload_n 1, 1) := getB' kX8_get_0 7 rfl
theorem dX8_get_10 : decode cX8_get 10 = .ok (.ifCond .lt 27, 3) := getB' kX8_get_0 8 rfl
theorem dX8_get_13 : decode cX8_get 13 = .ok (.iload_n 1, 1) := getB' kX8_get_0 9 rfl
theorem dX8_get_14 : decode cX8_get 14 = .ok (.aload_n 0, 1) := getB' kX8_get_0 10 rfl
theorem dX8_get_15 : decode cX8_get 15 = .ok (.getfield 9, 3) := getB' kX8_get_0 11 rfl
def LX8_get_1 : List (Nat × Instr × Nat) := [(18, .if_icmp .ge 19, 3), (21, .iload_n 2, 1), (22, .ifCond .lt 15, 3), (25, .iload_n 2, 1), (26, .aload_n 0, 1), (27, .getfield 15, 3), (30, .if_icmp .ge 7, 3), (33, .iconst 1, 1), (34, .goto 4, 3), (37, .iconst 0, 1), (38, .istore 4, 2), (40, .iload 4, 2)]
theorem kX8_get_1 : chkB cX8_get LX8_get_1 = true := by decide +kernel
theorem dX8_get_18 : decode cX8_get 18 = .ok (.if_icmp .ge 19, 3) := getB' kX8_get_1 0 rfl
theorem dX8_get_21 : decode cX8_get 21 = .ok (.iload_n 2, 1) := getB' kX8_get_1 1 rfl
theorem dX8_get_22 : decode cX8_get 22 = .ok (.ifCond .lt 15, 3) := getB' kX8_get_1 2 rfl
theorem dX8_get_25 : decode cX8_get 25 = .ok (.iload_n 2, 1) := getB' kX8_get_1 3 rfl
theorem dX8_get_26 : decode cX8_get 26 = .ok (.aload_n 0, 1) := getB' kX8_get_1 4 rfl
theorem dX8_get_27 : decode cX8_get 27 = .ok (.getfield 15, 3) := getB' kX8_get_1 5 rfl
theorem dX8_get_30 : decode cX8_get 30 = .ok (.if_icmp .ge 7, 3) := getB' kX8_get_1 6 rfl
theorem dX8_get_33 : decode cX8_get 33 = .ok (.iconst 1, 1) := getB' kX8_get_1 7 rfl
theorem dX8_get_34 : decode cX8_get 34 = .ok (.goto 4, 3) := getB' kX8_get_1 8 rfl
theorem dX8_get_37 : decode cX8_get 37 = .ok (.iconst 0, 1) := getB' kX8_get_1 9 rfl
theorem dX8_get_38 : decode cX8_get 38 = .ok (.istore 4, 2) := getB' kX8_get_1 10 rfl
theorem dX8_get_40 : decode cX8_get 40 = .ok (.iload 4, 2) := getB' kX8_get_1 11 rfl
def LX8_get_2 : List (Nat × Instr × Nat) := [(42, .ifCond .eq 25, 3), (45, .iload_n 3, 1), (46, .ifCond .lt 21, 3), (49, .iload_n 3, 1), (50, .aload_n 0, 1), (51, .getfield 27, 3), (54, .arraylength, 1), (55, .if_icmp .ge 12, 3), (58, .aload_n 0, 1), (59, .getfield 27, 3), (62, .iload_n 3, 1), (63, .iaload, 1)]
theorem kX8_get_2 : chkB cX8_get LX8_get_2 = true := by decide +kernel
theorem dX8_get_42 : decode cX8_get 42 = .ok (.ifCond .eq 25, 3) := getB' kX8_get_2 0 rfl
theorem dX8_get_45 : decode cX8_get 45 = .ok (.iload_n 3, 1) := getB' kX8_get_2 1 rfl
theorem dX8_get_46 : decode cX8_get 46 = .ok (.ifCond .lt 21, 3) := getB' kX8_get_2 2 rfl
theorem dX8_get_49 : decode cX8_get 49 = .ok (.iload_n 3, 1) := getB' kX8_get_2 3 rfl
theorem dX8_get_50 : decode cX8_get 50 = .ok (.aload_n 0, 1) := getB' kX8_get_2 4 rfl
theorem dX8_get_51 : decode cX8_get 51 = .ok (.getfield 27, 3) := getB' kX8_get_2 5 rfl
theorem dX8_get_54 : decode cX8_get 54 = .ok (.arraylength, 1) := getB' kX8_get_2 6 rfl
theorem dX8_get_55 : decode cX8_get 55 = .ok (.if_icmp .ge 12, 3) := getB' kX8_get_2 7 rfl
theorem dX8_get_58 : decode cX8_get 58 = .ok (.aload_n 0, 1) := getB' kX8_get_2 8 rfl
theorem dX8_get_59 : decode cX8_get 59 = .ok (.getfield 27, 3) := getB' kX8_get_2 9 rfl
theorem dX8_get_62 : decode cX8_get 62 = .ok (.iload_n 3, 1) := getB' kX8_get_2 10 rfl
theorem dX8_get_63 : decode cX8_get 63 = .ok (.iaload, 1) := getB' kX8_get_2 11 rfl
def LX8_get_3 : List (Nat × Instr × Nat) := [(64, .goto 4, 3), (67, .iconst 0, 1), (68, .ireturn, 1)]
theorem kX8_get_3 : chkB cX8_get LX8_get_3 = true := by decide +kernel
theorem dX8_get_64 : decode cX8_get 64 = .ok (.goto 4, 3) := getB' kX8_get_3 0 rfl
theorem dX8_get_67 : decode cX8_get 67 = .ok (.iconst 0, 1) := getB' kX8_get_3 1 rfl
theorem dX8_get_68 : decode cX8_get 68 = .ok (.ireturn, 1) := getB' kX8_get_3 2 rfl
def LX8_put_0 : List (Nat × Instr × Nat) := [(0, .iload_n 1, 1), (1, .aload_n 0, 1), (2, .getfield 15, 3), (5, .imul, 1), (6, .iload_n 2, 1), (7, .iadd, 1), (8, .istore 4, 2), (10, .iload_n 1, 1), (11, .ifCond .lt 27, 3), (14, .iload_n 1, 1), (15, .aload_n 0, 1), (16, .getfield 9, 3)]
theorem kX8_put_0 : chkB cX8_put LX8_put_0 = true := by decide +kernel
theorem dX8_put_0 : decode cX8_put 0 = .ok (.iload_n 1, 1) := getB' kX8_put_0 0 rfl
theorem dX8_put_1 : decode cX8_put 1 = .ok (.aload_n 0, 1) := getB' kX8_put_0 1 rfl
theorem dX8_put_2 : decode cX8_put 2 = .ok (.getfield 15, 3) := getB' kX8_put_0 2 rfl
theorem dX8_put_5 : decode cX8_put 5 = .ok (.imul, 1) := getB' kX8_put_0 3 rfl
theorem dX8_put_6 : decode cX8_put 6 = .ok (.iload_n 2, 1) := getB' kX8_put_0 4 rfl
theorem dX8_put_7 : decode cX8_put 7 = .ok (.iadd, 1) := getB' kX8_put_0 5 rfl
theorem dX8_put_8 : decode cX8_put 8 = .ok (.istore 4, 2) := getB' kX8_put_0 6 rfl
theorem dX8_put_10 : decode cX8_put 10 = .ok (.iload_n 1, 1) := getB' kX8_put_0 7 rfl
theorem dX8_put_11 : decode cX8_put 11 = .ok (.ifCond .lt 27, 3) := getB' kX8_put_0 8 rfl
theorem dX8_put_14 : decode cX8_put 14 = .ok (.iload_n 1, 1) := getB' kX8_put_0 9 rfl
theorem dX8_put_15 : decode cX8_put 15 = .ok (.aload_n 0, 1) := getB' kX8_put_0 10 rfl
theorem dX8_put_16 : decode cX8_put 16 = .ok (.getfield 9, 3) := getB' kX8_put_0 11 rfl
def LX8_put_1 : List (Nat × Instr × Nat) := [(19, .if_icmp .ge 19, 3), (22, .iload_n 2, 1), (23, .ifCond .lt 15, 3), (26, .iload_n 2, 1), (27, .aload_n 0, 1), (28, .getfield 15, 3), (31, .if_icmp .ge 7, 3), (34, .iconst 1, 1), (35, .goto 4, 3), (38, .iconst 0, 1), (39, .istore 5, 2), (41, .iload 5, 2)]
theorem kX8_put_1 : chkB cX8_put LX8_put_1 = true := by decide +kernel
theorem dX8_put_19 : decode cX8_put 19 = .ok (.if_icmp .ge 19, 3) := getB' kX8_put_1 0 rfl
theorem dX8_put_22 : decode cX8_put 22 = .ok (.iload_n 2, 1) := getB' kX8_put_1 1 rfl
theorem dX8_put_23 : decode cX8_put 23 = .ok (.ifCond .lt 15, 3) := getB' kX8_put_1 2 rfl
theorem dX8_put_26 : decode cX8_put 26 = .ok (.iload_n 2, 1) := getB' kX8_put_1 3 rfl
theorem dX8_put_27 : decode cX8_put 27 = .ok (.aload_n 0, 1) := getB' kX8_put_1 4 rfl
theorem dX8_put_28 : decode cX8_put 28 = .ok (.getfield 15, 3) := getB' kX8_put_1 5 rfl
theorem dX8_put_31 : decode cX8_put 31 = .ok (.if_icmp .ge 7, 3) := getB' kX8_put_1 6 rfl
theorem dX8_put_34 : decode cX8_put 34 = .ok (.iconst 1, 1) := getB' kX8_put_1 7 rfl
theorem dX8_put_35 : decode cX8_put 35 = .ok (.goto 4, 3) := getB' kX8_put_1 8 rfl
theorem dX8_put_38 : decode cX8_put 38 = .ok (.iconst 0, 1) := getB' kX8_put_1 9 rfl
theorem dX8_put_39 : decode cX8_put 39 = .ok (.istore 5, 2) := getB' kX8_put_1 10 rfl
theorem dX8_put_41 : decode cX8_put 41 = .ok (.iload 5, 2) := getB' kX8_put_1 11 rfl
def LX8_put_2 : List (Nat × Instr × Nat) := [(43, .ifCond .eq 26, 3), (46, .iload 4, 2), (48, .ifCond .lt 21, 3), (51, .iload 4, 2), (53, .aload_n 0, 1), (54, .getfield 27, 3), (57, .arraylength, 1), (58, .if_icmp .ge 11, 3), (61, .aload_n 0, 1), (62, .getfield 27, 3), (65, .iload 4, 2), (67, .iload_n 3, 1)]
theorem kX8_put_2 : chkB cX8_put LX8_put_2 = true := by decide +kernel
theorem dX8_put_43 : decode cX8_put 43 = .ok (.ifCond .eq 26, 3) := getB' kX8_put_2 0 rfl
theorem dX8_put_46 : decode cX8_put 46 = .ok (.iload 4, 2) := getB' kX8_put_2 1 rfl
theorem dX8_put_48 : decode cX8_put 48 = .ok (.ifCond .lt 21, 3) := getB' kX8_put_2 2 rfl
theorem dX8_put_51 : decode cX8_put 51 = .ok (.iload 4, 2) := getB' kX8_put_2 3 rfl
theorem dX8_put_53 : decode cX8_put 53 = .ok (.aload_n 0, 1) := getB' kX8_put_2 4 rfl
theorem dX8_put_54 : decode cX8_put 54 = .ok (.getfield 27, 3) := getB' kX8_put_2 5 rfl
theorem dX8_put_57 : decode cX8_put 57 = .ok (.arraylength, 1) := getB' kX8_put_2 6 rfl
theorem dX8_put_58 : decode cX8_put 58 = .ok (.if_icmp .ge 11, 3) := getB' kX8_put_2 7 rfl
theorem dX8_put_61 : decode cX8_put 61 = .ok (.aload_n 0, 1) := getB' kX8_put_2 8 rfl
theorem dX8_put_62 : decode cX8_put 62 = .ok (.getfield 27, 3) := getB' kX8_put_2 9 rfl
theorem dX8_put_65 : decode cX8_put 65 = .ok (.iload 4, 2) := getB' kX8_put_2 10 rfl
theorem dX8_put_67 : decode cX8_put 67 = .ok (.iload_n 3, 1) := getB' kX8_put_2 11 rfl
def LX8_put_3 : List (Nat × Instr × Nat) := [(68, .iastore, 1), (69, .return_, 1)]
theorem kX8_put_3 : chkB cX8_put LX8_put_3 = true := by decide +kernel
theorem dX8_put_68 : decode cX8_put 68 = .ok (.iastore, 1) := getB' kX8_put_3 0 rfl
theorem dX8_put_69 : decode cX8_put 69 = .ok (.return_, 1) := getB' kX8_put_3 1 rfl
def LX8_append_0 : List (Nat × Instr × Nat) := [(0, .aload_n 0, 1), (1, .invokevirtual 31, 3), (4, .ifCond .eq 5, 3), (7, .iconst (-1), 1), (8, .ireturn, 1), (9, .aload_n 0, 1), (10, .getfield 9, 3), (13, .istore 6, 2), (15, .aload_n 0, 1), (16, .dup, 1), (17, .getfield 9, 3), (20, .iconst 1, 1)]
theorem kX8_append_0 : chkB cX8_append LX8_append_0 = true := by decide +kernel
theorem dX8_append_0 : decode cX8_append 0 = .ok (.aload_n 0, 1) := getB' kX8_append_0 0 rfl
theorem dX8_append_1 : decode cX8_append 1 = .ok (.invokevirtual 31, 3) := getB' kX8_append_0 1 rfl
theorem dX8_append_4 : decode cX8_append 4 = .ok (.ifCond .eq 5, 3) := getB' kX8_append_0 2 rfl
theorem dX8_append_7 : decode cX8_append 7 = .ok (.iconst (-1), 1) := getB' kX8_append_0 3 rfl
theorem dX8_append_8 : decode cX8_append 8 = .ok (.ireturn, 1) := getB' kX8_append_0 4 rfl
theorem dX8_append_9 : decode cX8_append 9 = .ok (.aload_n 0, 1) := getB' kX8_append_0 5 rfl
theorem dX8_append_10 : decode cX8_append 10 = .ok (.getfield 9, 3) := getB' kX8_append_0 6 rfl
theorem dX8_append_13 : decode cX8_append 13 = .ok (.istore 6, 2) := getB' kX8_append_0 7 rfl
theorem dX8_append_15 : decode cX8_append 15 = .ok (.aload_n 0, 1) := getB' kX8_append_0 8 rfl
theorem dX8_append_16 : decode cX8_append 16 = .ok (.dup, 1) := getB' kX8_append_0 9 rfl
theorem dX8_append_17 : decode cX8_append 17 = .ok (.getfield 9, 3) := getB' kX8_append_0 10 rfl
theorem dX8_append_20 : decode cX8_append 20 = .ok (.iconst 1, 1) := getB' kX8_append_0 11 rfl
def LX8_append_1 : List (Nat × Instr × Nat) := [(21, .iadd, 1), (22, .putfield 9, 3), (25, .aload_n 0, 1), (26, .iload 6, 2), (28, .iconst 0, 1), (29, .iload_n 1, 1), (30, .invokevirtual 35, 3), (33, .aload_n 0, 1), (34, .iload 6, 2), (36, .iconst 1, 1), (37, .iload_n 2, 1), (38, .invokevirtual 35, 3)]
theorem kX8_append_1 : chkB cX8_append LX8_append_1 = true := by decide +kernel
theorem dX8_append_21 : decode cX8_append 21 = .ok (.iadd, 1) := getB' kX8_append_1 0 rfl
theorem dX8_append_22 : decode cX8_append 22 = .ok (.putfield 9, 3) := getB' kX8_append_1 1 rfl
theorem dX8_append_25 : decode cX8_append 25 = .ok (.aload_n 0, 1) := getB' kX8_append_1 2 rfl
theorem dX8_append_26 : decode cX8_append 26 = .ok (.iload 6, 2) := getB' kX8_append_1 3 rfl
theorem dX8_append_28 : decode cX8_append 28 = .ok (.iconst 0, 1) := getB' kX8_append_1 4 rfl
theorem dX8_append_29 : decode cX8_append 29 = .ok (.iload_n 1, 1) := getB' kX8_append_1 5 rfl
theorem dX8_append_30 : decode cX8_append 30 = .ok (.invokevirtual 35, 3) := getB' kX8_append_1 6 rfl
theorem dX8_append_33 : decode cX8_append 33 = .ok (.aload_n 0, 1) := getB' kX8_append_1 7 rfl
theorem dX8_append_34 : decode cX8_append 34 = .ok (.iload 6, 2) := getB' kX8_append_1 8 rfl
theorem dX8_append_36 : decode cX8_append 36 = .ok (.iconst 1, 1) := getB' kX8_append_1 9 rfl
theorem dX8_append_37 : decode cX8_append 37 = .ok (.iload_n 2, 1) := getB' kX8_append_1 10 rfl
theorem dX8_append_38 : decode cX8_append 38 = .ok (.invokevirtual 35, 3) := getB' kX8_append_1 11 rfl
def LX8_append_2 : List (Nat × Instr × Nat) := [(41, .aload_n 0, 1), (42, .iload 6, 2), (44, .iconst 2, 1), (45, .iload_n 3, 1), (46, .invokevirtual 35, 3), (49, .aload_n 0, 1), (50, .iload 6, 2), (52, .iconst 3, 1), (53, .iload 4, 2), (55, .invokevirtual 35, 3), (58, .aload_n 0, 1), (59, .iload 6, 2)]
theorem kX8_append_2 : chkB cX8_append LX8_append_2 = true := by decide +kernel
theorem dX8_append_41 : decode cX8_append 41 = .ok (.aload_n 0, 1) := getB' kX8_append_2 0 rfl
theorem dX8_append_42 : decode cX8_append 42 = .ok (.iload 6, 2) := getB' kX8_append_2 1 rfl
theorem dX8_append_44 : decode cX8_append 44 = .ok (.iconst 2, 1) := getB' kX8_append_2 2 rfl
theorem dX8_append_45 : decode cX8_append 45 = .ok (.iload_n 3, 1) := getB' kX8_append_2 3 rfl
theorem dX8_append_46 : decode cX8_append 46 = .ok (.invokevirtual 35, 3) := getB' kX8_append_2 4 rfl
theorem dX8_append_49 : decode cX8_append 49 = .ok (.aload_n 0, 1) := getB' kX8_append_2 5 rfl
theorem dX8_append_50 : decode cX8_append 50 = .ok (.iload 6, 2) := getB' kX8_append_2 6 rfl
theorem dX8_append_52 : decode cX8_append 52 = .ok (.iconst 3, 1) := getB' kX8_append_2 7 rfl
theorem dX8_append_53 : decode cX8_append 53 = .ok (.iload 4, 2) := getB' kX8_append_2 8 rfl
theorem dX8_append_55 : decode cX8_append 55 = .ok (.invokevirtual 35, 3) := getB' kX8_append_2 9 rfl
theorem dX8_append_58 : decode cX8_append 58 = .ok (.aload_n 0, 1) := getB' kX8_append_2 10 rfl
theorem dX8_append_59 : decode cX8_append 59 = .ok (.iload 6, 2) := getB' kX8_append_2 11 rfl
def LX8_append_3 : List (Nat × Instr × Nat) := [(61, .iconst 4, 1), (62, .iload 5, 2), (64, .invokevirtual 35, 3), (67, .iload 6, 2), (69, .ireturn, 1)]
theorem kX8_append_3 : chkB cX8_append LX8_append_3 = true := by decide +kernel
theorem dX8_append_61 : decode cX8_append 61 = .ok (.iconst 4, 1) := getB' kX8_append_3 0 rfl
theorem dX8_append_62 : decode cX8_append 62 = .ok (.iload 5, 2) := getB' kX8_append_3 1 rfl
theorem dX8_append_64 : decode cX8_append 64 = .ok (.invokevirtual 35, 3) := getB' kX8_append_3 2 rfl
theorem dX8_append_67 : decode cX8_append 67 = .ok (.iload 6, 2) := getB' kX8_append_3 3 rfl
theorem dX8_append_69 : decode cX8_append 69 = .ok (.ireturn, 1) := getB' kX8_append_3 4 rfl
def LX9_init_0 : List (Nat × Instr × Nat) := [(0, .aload_n 0, 1), (1, .invokespecial 3, 3), (4, .aload_n 0, 1), (5, .iconst 0, 1), (6, .putfield 9, 3), (9, .aload_n 0, 1), (10, .iload_n 1, 1), (11, .putfield 15, 3), (14, .aload_n 0, 1), (15, .iload_n 2, 1), (16, .putfield 18, 3), (19, .aload_n 0, 1)]
theorem kX9_init_0 : chkB cX9_init LX9_init_0 = true := by decide +kernel
theorem dX9_init_0 : decode cX9_init 0 = .ok (.aload_n 0, 1) := getB' kX9_init_0 0 rfl
theorem dX9_init_1 : decode cX9_init 1 = .ok (.invokespecial 3, 3) := getB' kX9_init_0 1 rfl
theorem dX9_init_4 : decode cX9_init 4 = .ok (.aload_n 0, 1) := getB' kX9_init_0 2 rfl
theorem dX9_init_5 : decode cX9_init 5 = .ok (.iconst 0, 1) := getB' kX9_init_0 3 rfl
theorem dX9_init_6 : decode cX9_init 6 = .ok (.putfield 9, 3) := getB' kX9_init_0 4 rfl
theorem dX9_init_9 : decode cX9_init 9 = .ok (.aload_n 0, 1) := getB' kX9_init_0 5 rfl
theorem dX9_init_10 : decode cX9_init 10 = .ok (.iload_n 1, 1) := getB' kX9_init_0 6 rfl
theorem dX9_init_11 : decode cX9_init 11 = .ok (.putfield 15, 3) := getB' kX9_init_0 7 rfl
theorem dX9_init_14 : decode cX9_init 14 = .ok (.aload_n 0, 1) := getB' kX9_init_0 8 rfl
theorem dX9_init_15 : decode cX9_init 15 = .ok (.iload_n 2, 1) := getB' kX9_init_0 9 rfl
theorem dX9_init_16 : decode cX9_init 16 = .ok (.putfield 18, 3) := getB' kX9_init_0 10 rfl
theorem dX9_init_19 : decode cX9_init 19 = .ok (.aload_n 0, 1) := getB' kX9_init_0 11 rfl
def LX9_init_1 : List (Nat × Instr × Nat) := [(20, .new 21, 3), (23, .dup, 1), (24, .bipush 6, 2), (26, .iload 4, 2), (28, .invokespecial 23, 3), (31, .putfield 26, 3), (34, .aload_n 0, 1), (35, .iconst 0, 1), (36, .iload_n 3, 1), (37, .invokestatic 30, 3), (40, .newarray .int, 2), (42, .putfield 36, 3)]
theorem kX9_init_1 : chkB cX9_init LX9_init_1 = true := by decide +kernel
theorem dX9_init_20 : decode cX9_init 20 = .ok (.new 21, 3) := getB' kX9_init_1 0 rfl
theorem dX9_init_23 : decode cX9_init 23 = .ok (.dup, 1) := getB' kX9_init_1 1 rfl
theorem dX9_init_24 : decode cX9_init 24 = .ok (.bipush 6, 2) := getB' kX9_init_1 2 rfl
theorem dX9_init_26 : decode cX9_init 26 = .ok (.iload 4, 2) := getB' kX9_init_1 3 rfl
theorem dX9_init_28 : decode cX9_init 28 = .ok (.invokespecial 23, 3) := getB' kX9_init_1 4 rfl
theorem dX9_init_31 : decode cX9_init 31 = .ok (.putfield 26, 3) := getB' kX9_init_1 5 rfl
theorem dX9_init_34 : decode cX9_init 34 = .ok (.aload_n 0, 1) := getB' kX9_init_1 6 rfl
theorem dX9_init_35 : decode cX9_init 35 = .ok (.iconst 0, 1) := getB' kX9_init_1 7 rfl
theorem dX9_init_36 : decode cX9_init 36 = .ok (.iload_n 3, 1) := getB' kX9_init_1 8 rfl
theorem dX9_init_37 : decode cX9_init 37 = .ok (.invokestatic 30, 3) := getB' kX9_init_1 9 rfl
theorem dX9_init_40 : decode cX9_init 40 = .ok (.newarray .int, 2) := getB' kX9_init_1 10 rfl
theorem dX9_init_42 : decode cX9_init 42 = .ok (.putfield 36, 3) := getB' kX9_init_1 11 rfl
def LX9_init_2 : List (Nat × Instr × Nat) := [(45, .return_, 1)]
theorem kX9_init_2 : chkB cX9_init LX9_init_2 = true := by decide +kernel
theorem dX9_init_45 : decode cX9_init 45 = .ok (.return_, 1) := getB' kX9_init_2 0 rfl
def LX9_isInForce : List (Nat × Instr × Nat) := [(0, .iload_n 1, 1), (1, .aload_n 0, 1), (2, .getfield 15, 3), (5, .if_icmp .lt 15, 3), (8, .iload_n 1, 1), (9, .aload_n 0, 1), (10, .getfield 18, 3), (13, .if_icmp .gt 7, 3), (16, .iconst 1, 1), (17, .goto 4, 3), (20, .iconst 0, 1), (21, .ireturn, 1)]
theorem kX9_isInForce : chkB cX9_isInForce LX9_isInForce = true := by decide +kernel
theorem dX9_isInForce_0 : decode cX9_isInForce 0 = .ok (.iload_n 1, 1) := getB' kX9_isInForce 0 rfl
theorem dX9_isInForce_1 : decode cX9_isInForce 1 = .ok (.aload_n 0, 1) := getB' kX9_isInForce 1 rfl
theorem dX9_isInForce_2 : decode cX9_isInForce 2 = .ok (.getfield 15, 3) := getB' kX9_isInForce 2 rfl
theorem dX9_isInForce_5 : decode cX9_isInForce 5 = .ok (.if_icmp .lt 15, 3) := getB' kX9_isInForce 3 rfl
theorem dX9_isInForce_8 : decode cX9_isInForce 8 = .ok (.iload_n 1, 1) := getB' kX9_isInForce 4 rfl
theorem dX9_isInForce_9 : decode cX9_isInForce 9 = .ok (.aload_n 0, 1) := getB' kX9_isInForce 5 rfl
theorem dX9_isInForce_10 : decode cX9_isInForce 10 = .ok (.getfield 18, 3) := getB' kX9_isInForce 6 rfl
theorem dX9_isInForce_13 : decode cX9_isInForce 13 = .ok (.if_icmp .gt 7, 3) := getB' kX9_isInForce 7 rfl
theorem dX9_isInForce_16 : decode cX9_isInForce 16 = .ok (.iconst 1, 1) := getB' kX9_isInForce 8 rfl
theorem dX9_isInForce_17 : decode cX9_isInForce 17 = .ok (.goto 4, 3) := getB' kX9_isInForce 9 rfl
theorem dX9_isInForce_20 : decode cX9_isInForce 20 = .ok (.iconst 0, 1) := getB' kX9_isInForce 10 rfl
theorem dX9_isInForce_21 : decode cX9_isInForce 21 = .ok (.ireturn, 1) := getB' kX9_isInForce 11 rfl
def LX9_letterOf : List (Nat × Instr × Nat) := [(0, .aload_n 0, 1), (1, .getfield 26, 3), (4, .iload_n 1, 1), (5, .iconst 0, 1), (6, .invokevirtual 40, 3), (9, .ireturn, 1)]
theorem kX9_letterOf : chkB cX9_letterOf LX9_letterOf = true := by decide +kernel
theorem dX9_letterOf_0 : decode cX9_letterOf 0 = .ok (.aload_n 0, 1) := getB' kX9_letterOf 0 rfl
theorem dX9_letterOf_1 : decode cX9_letterOf 1 = .ok (.getfield 26, 3) := getB' kX9_letterOf 1 rfl
theorem dX9_letterOf_4 : decode cX9_letterOf 4 = .ok (.iload_n 1, 1) := getB' kX9_letterOf 2 rfl
theorem dX9_letterOf_5 : decode cX9_letterOf 5 = .ok (.iconst 0, 1) := getB' kX9_letterOf 3 rfl
theorem dX9_letterOf_6 : decode cX9_letterOf 6 = .ok (.invokevirtual 40, 3) := getB' kX9_letterOf 4 rfl
theorem dX9_letterOf_9 : decode cX9_letterOf 9 = .ok (.ireturn, 1) := getB' kX9_letterOf 5 rfl
def LX9_hasCondition_0 : List (Nat × Instr × Nat) := [(0, .aload_n 0, 1), (1, .getfield 26, 3), (4, .iload_n 1, 1), (5, .invokevirtual 43, 3), (8, .ifCond .eq 28, 3), (11, .aload_n 0, 1), (12, .getfield 26, 3), (15, .iload_n 1, 1), (16, .iconst 5, 1), (17, .invokevirtual 40, 3), (20, .aload_n 0, 1), (21, .getfield 26, 3)]
theorem kX9_hasCondition_0 : chkB cX9_hasCondition LX9_hasCondition_0 = true := by decide +kernel
theorem dX9_hasCondition_0 : decode cX9_hasCondition 0 = .ok (.aload_n 0, 1) := getB' kX9_hasCondition_0 0 rfl
theorem dX9_hasCondition_1 : decode cX9_hasCondition 1 = .ok (.getfield 26, 3) := getB' kX9_hasCondition_0 1 rfl
theorem dX9_hasCondition_4 : decode cX9_hasCondition 4 = .ok (.iload_n 1, 1) := getB' kX9_hasCondition_0 2 rfl
theorem dX9_hasCondition_5 : decode cX9_hasCondition 5 = .ok (.invokevirtual 43, 3) := getB' kX9_hasCondition_0 3 rfl
theorem dX9_hasCondition_8 : decode cX9_hasCondition 8 = .ok (.ifCond .eq 28, 3) := getB' kX9_hasCondition_0 4 rfl
theorem dX9_hasCondition_11 : decode cX9_hasCondition 11 = .ok (.aload_n 0, 1) := getB' kX9_hasCondition_0 5 rfl
theorem dX9_hasCondition_12 : decode cX9_hasCondition 12 = .ok (.getfield 26, 3) := getB' kX9_hasCondition_0 6 rfl
theorem dX9_hasCondition_15 : decode cX9_hasCondition 15 = .ok (.iload_n 1, 1) := getB' kX9_hasCondition_0 7 rfl
theorem dX9_hasCondition_16 : decode cX9_hasCondition 16 = .ok (.iconst 5, 1) := getB' kX9_hasCondition_0 8 rfl
theorem dX9_hasCondition_17 : decode cX9_hasCondition 17 = .ok (.invokevirtual 40, 3) := getB' kX9_hasCondition_0 9 rfl
theorem dX9_hasCondition_20 : decode cX9_hasCondition 20 = .ok (.aload_n 0, 1) := getB' kX9_hasCondition_0 10 rfl
theorem dX9_hasCondition_21 : decode cX9_hasCondition 21 = .ok (.getfield 26, 3) := getB' kX9_hasCondition_0 11 rfl
def LX9_hasCondition_1 : List (Nat × Instr × Nat) := [(24, .iload_n 1, 1), (25, .iconst 4, 1), (26, .invokevirtual 40, 3), (29, .if_icmp .le 7, 3), (32, .iconst 1, 1), (33, .goto 4, 3), (36, .iconst 0, 1), (37, .ireturn, 1)]
theorem kX9_hasCondition_1 : chkB cX9_hasCondition LX9_hasCondition_1 = true := by decide +kernel
theorem dX9_hasCondition_24 : decode cX9_hasCondition 24 = .ok (.iload_n 1, 1) := getB' kX9_hasCondition_1 0 rfl
theorem dX9_hasCondition_25 : decode cX9_hasCondition 25 = .ok (.iconst 4, 1) := getB' kX9_hasCondition_1 1 rfl
theorem dX9_hasCondition_26 : decode cX9_hasCondition 26 = .ok (.invokevirtual 40, 3) := getB' kX9_hasCondition_1 2 rfl
theorem dX9_hasCondition_29 : decode cX9_hasCondition 29 = .ok (.if_icmp .le 7, 3) := getB' kX9_hasCondition_1 3 rfl
theorem dX9_hasCondition_32 : decode cX9_hasCondition 32 = .ok (.iconst 1, 1) := getB' kX9_hasCondition_1 4 rfl
theorem dX9_hasCondition_33 : decode cX9_hasCondition 33 = .ok (.goto 4, 3) := getB' kX9_hasCondition_1 5 rfl
theorem dX9_hasCondition_36 : decode cX9_hasCondition 36 = .ok (.iconst 0, 1) := getB' kX9_hasCondition_1 6 rfl
theorem dX9_hasCondition_37 : decode cX9_hasCondition 37 = .ok (.ireturn, 1) := getB' kX9_hasCondition_1 7 rfl
def LX9_addStep_0 : List (Nat × Instr × Nat) := [(0, .aload_n 0, 1), (1, .getfield 9, 3), (4, .istore_n 3, 1), (5, .aload_n 0, 1), (6, .getfield 36, 3), (9, .iload_n 3, 1), (10, .iload_n 2, 1), (11, .iconst 5, 1), (12, .ishl, 1), (13, .iload_n 1, 1), (14, .ior, 1), (15, .invokestatic 47, 3)]
theorem kX9_addStep_0 : chkB cX9_addStep LX9_addStep_0 = true := by decide +kernel
theorem dX9_addStep_0 : decode cX9_addStep 0 = .ok (.aload_n 0, 1) := getB' kX9_addStep_0 0 rfl
theorem dX9_addStep_1 : decode cX9_addStep 1 = .ok (.getfield 9, 3) := getB' kX9_addStep_0 1 rfl
theorem dX9_addStep_4 : decode cX9_addStep 4 = .ok (.istore_n 3, 1) := getB' kX9_addStep_0 2 rfl
theorem dX9_addStep_5 : decode cX9_addStep 5 = .ok (.aload_n 0, 1) := getB' kX9_addStep_0 3 rfl
theorem dX9_addStep_6 : decode cX9_addStep 6 = .ok (.getfield 36, 3) := getB' kX9_addStep_0 4 rfl
theorem dX9_addStep_9 : decode cX9_addStep 9 = .ok (.iload_n 3, 1) := getB' kX9_addStep_0 5 rfl
theorem dX9_addStep_10 : decode cX9_addStep 10 = .ok (.iload_n 2, 1) := getB' kX9_addStep_0 6 rfl
theorem dX9_addStep_11 : decode cX9_addStep 11 = .ok (.iconst 5, 1) := getB' kX9_addStep_0 7 rfl
theorem dX9_addStep_12 : decode cX9_addStep 12 = .ok (.ishl, 1) := getB' kX9_addStep_0 8 rfl
theorem dX9_addStep_13 : decode cX9_addStep 13 = .ok (.iload_n 1, 1) := getB' kX9_addStep_0 9 rfl
theorem dX9_addStep_14 : decode cX9_addStep 14 = .ok (.ior, 1) := getB' kX9_addStep_0 10 rfl
theorem dX9_addStep_15 : decode cX9_addStep 15 = .ok (.invokestatic 47, 3) := getB' kX9_addStep_0 11 rfl
def LX9_addStep_1 : List (Nat × Instr × Nat) := [(18, .aload_n 0, 1), (19, .dup, 1), (20, .getfield 9, 3), (23, .iconst 1, 1), (24, .iadd, 1), (25, .putfield 9, 3), (28, .iload_n 3, 1), (29, .ireturn, 1)]
theorem kX9_addStep_1 : chkB cX9_addStep LX9_addStep_1 = true := by decide +kernel
theorem dX9_addStep_18 : decode cX9_addStep 18 = .ok (.aload_n 0, 1) := getB' kX9_addStep_1 0 rfl
theorem dX9_addStep_19 : decode cX9_addStep 19 = .ok (.dup, 1) := getB' kX9_addStep_1 1 rfl
theorem dX9_addStep_20 : decode cX9_addStep 20 = .ok (.getfield 9, 3) := getB' kX9_addStep_1 2 rfl
theorem dX9_addStep_23 : decode cX9_addStep 23 = .ok (.iconst 1, 1) := getB' kX9_addStep_1 3 rfl
theorem dX9_addStep_24 : decode cX9_addStep 24 = .ok (.iadd, 1) := getB' kX9_addStep_1 4 rfl
theorem dX9_addStep_25 : decode cX9_addStep 25 = .ok (.putfield 9, 3) := getB' kX9_addStep_1 5 rfl
theorem dX9_addStep_28 : decode cX9_addStep 28 = .ok (.iload_n 3, 1) := getB' kX9_addStep_1 6 rfl
theorem dX9_addStep_29 : decode cX9_addStep 29 = .ok (.ireturn, 1) := getB' kX9_addStep_1 7 rfl
def LX9_lead_0 : List (Nat × Instr × Nat) := [(0, .iload_n 1, 1), (1, .iconst (-1), 1), (2, .if_icmp .eq 29, 3), (5, .aload_n 0, 1), (6, .getfield 36, 3), (9, .iload_n 1, 1), (10, .aload_n 0, 1), (11, .getfield 9, 3), (14, .iconst 5, 1), (15, .ishl, 1), (16, .aload_n 0, 1), (17, .getfield 36, 3)]
theorem kX9_lead_0 : chkB cX9_lead LX9_lead_0 = true := by decide +kernel
theorem dX9_lead_0 : decode cX9_lead 0 = .ok (.iload_n 1, 1) := getB' kX9_lead_0 0 rfl
theorem dX9_lead_1 : decode cX9_lead 1 = .ok (.iconst (-1), 1) := getB' kX9_lead_0 1 rfl
theorem dX9_lead_2 : decode cX9_lead 2 = .ok (.if_icmp .eq 29, 3) := getB' kX9_lead_0 2 rfl
theorem dX9_lead_5 : decode cX9_lead 5 = .ok (.aload_n 0, 1) := getB' kX9_lead_0 3 rfl
theorem dX9_lead_6 : decode cX9_lead 6 = .ok (.getfield 36, 3) := getB' kX9_lead_0 4 rfl
theorem dX9_lead_9 : decode cX9_lead 9 = .ok (.iload_n 1, 1) := getB' kX9_lead_0 5 rfl
theorem dX9_lead_10 : decode cX9_lead 10 = .ok (.aload_n 0, 1) := getB' kX9_lead_0 6 rfl
theorem dX9_lead_11 : decode cX9_lead 11 = .ok (.getfield 9, 3) := getB' kX9_lead_0 7 rfl
theorem dX9_lead_14 : decode cX9_lead 14 = .ok (.iconst 5, 1) := getB' kX9_lead_0 8 rfl
theorem dX9_lead_15 : decode cX9_lead 15 = .ok (.ishl, 1) := getB' kX9_lead_0 9 rfl
theorem dX9_lead_16 : decode cX9_lead 16 = .ok (.aload_n 0, 1) := getB' kX9_lead_0 10 rfl
theorem dX9_lead_17 : decode cX9_lead 17 = .ok (.getfield 36, 3) := getB' kX9_lead_0 11 rfl
def LX9_lead_1 : List (Nat × Instr × Nat) := [(20, .iload_n 1, 1), (21, .invokestatic 53, 3), (24, .bipush 31, 2), (26, .iand, 1), (27, .ior, 1), (28, .invokestatic 47, 3), (31, .return_, 1)]
theorem kX9_lead_1 : chkB cX9_lead LX9_lead_1 = true := by decide +kernel
theorem dX9_lead_20 : decode cX9_lead 20 = .ok (.iload_n 1, 1) := getB' kX9_lead_1 0 rfl
theorem dX9_lead_21 : decode cX9_lead 21 = .ok (.invokestatic 53, 3) := getB' kX9_lead_1 1 rfl
theorem dX9_lead_24 : decode cX9_lead 24 = .ok (.bipush 31, 2) := getB' kX9_lead_1 2 rfl
theorem dX9_lead_26 : decode cX9_lead 26 = .ok (.iand, 1) := getB' kX9_lead_1 3 rfl
theorem dX9_lead_27 : decode cX9_lead 27 = .ok (.ior, 1) := getB' kX9_lead_1 4 rfl
theorem dX9_lead_28 : decode cX9_lead 28 = .ok (.invokestatic 47, 3) := getB' kX9_lead_1 5 rfl
theorem dX9_lead_31 : decode cX9_lead 31 = .ok (.return_, 1) := getB' kX9_lead_1 6 rfl
def LX10_init_0 : List (Nat × Instr × Nat) := [(0, .aload_n 0, 1), (1, .invokespecial 3, 3), (4, .aload_n 0, 1), (5, .iconst 0, 1), (6, .putfield 9, 3), (9, .aload_n 0, 1), (10, .iconst 0, 1), (11, .putfield 15, 3), (14, .aload_n 0, 1), (15, .iconst 0, 1), (16, .putfield 18, 3), (19, .aload_n 0, 1)]
theorem kX10_init_0 : chkB cX10_init LX10_init_0 = true := by decide +kernel
theorem dX10_init_0 : decode cX10_init 0 = .ok (.aload_n 0, 1) := getB' kX10_init_0 0 rfl
theorem dX10_init_1 : decode cX10_init 1 = .ok (.invokespecial 3, 3) := getB' kX10_init_0 1 rfl
theorem dX10_init_4 : decode cX10_init 4 = .ok (.aload_n 0, 1) := getB' kX10_init_0 2 rfl
theorem dX10_init_5 : decode cX10_init 5 = .ok (.iconst 0, 1) := getB' kX10_init_0 3 rfl
theorem dX10_init_6 : decode cX10_init 6 = .ok (.putfield 9, 3) := getB' kX10_init_0 4 rfl
theorem dX10_init_9 : decode cX10_init 9 = .ok (.aload_n 0, 1) := getB' kX10_init_0 5 rfl
theorem dX10_init_10 : decode cX10_init 10 = .ok (.iconst 0, 1) := getB' kX10_init_0 6 rfl
theorem dX10_init_11 : decode cX10_init 11 = .ok (.putfield 15, 3) := getB' kX10_init_0 7 rfl
theorem dX10_init_14 : decode cX10_init 14 = .ok (.aload_n 0, 1) := getB' kX10_init_0 8 rfl
theorem dX10_init_15 : decode cX10_init 15 = .ok (.iconst 0, 1) := getB' kX10_init_0 9 rfl
theorem dX10_init_16 : decode cX10_init 16 = .ok (.putfield 18, 3) := getB' kX10_init_0 10 rfl
theorem dX10_init_19 : decode cX10_init 19 = .ok (.aload_n 0, 1) := getB' kX10_init_0 11 rfl
def LX10_init_1 : List (Nat × Instr × Nat) := [(20, .iconst 0, 1), (21, .putfield 21, 3), (24, .aload_n 0, 1), (25, .iconst (-1), 1), (26, .putfield 24, 3), (29, .aload_n 0, 1), (30, .iconst (-1), 1), (31, .putfield 27, 3), (34, .aload_n 0, 1), (35, .iconst (-1), 1), (36, .putfield 30, 3), (39, .aload_n 0, 1)]
theorem kX10_init_1 : chkB cX10_init LX10_init_1 = true := by decide +kernel
theorem dX10_init_20 : decode cX10_init 20 = .ok (.iconst 0, 1) := getB' kX10_init_1 0 rfl
theorem dX10_init_21 : decode cX10_init 21 = .ok (.putfield 21, 3) := getB' kX10_init_1 1 rfl
theorem dX10_init_24 : decode cX10_init 24 = .ok (.aload_n 0, 1) := getB' kX10_init_1 2 rfl
theorem dX10_init_25 : decode cX10_init 25 = .ok (.iconst (-1), 1) := getB' kX10_init_1 3 rfl
theorem dX10_init_26 : decode cX10_init 26 = .ok (.putfield 24, 3) := getB' kX10_init_1 4 rfl
theorem dX10_init_29 : decode cX10_init 29 = .ok (.aload_n 0, 1) := getB' kX10_init_1 5 rfl
theorem dX10_init_30 : decode cX10_init 30 = .ok (.iconst (-1), 1) := getB' kX10_init_1 6 rfl
theorem dX10_init_31 : decode cX10_init 31 = .ok (.putfield 27, 3) := getB' kX10_init_1 7 rfl
theorem dX10_init_34 : decode cX10_init 34 = .ok (.aload_n 0, 1) := getB' kX10_init_1 8 rfl
theorem dX10_init_35 : decode cX10_init 35 = .ok (.iconst (-1), 1) := getB' kX10_init_1 9 rfl
theorem dX10_init_36 : decode cX10_init 36 = .ok (.putfield 30, 3) := getB' kX10_init_1 10 rfl
theorem dX10_init_39 : decode cX10_init 39 = .ok (.aload_n 0, 1) := getB' kX10_init_1 11 rfl
def LX10_init_2 : List (Nat × Instr × Nat) := [(40, .iconst (-1), 1), (41, .putfield 33, 3), (44, .aload_n 0, 1), (45, .iconst 0, 1), (46, .putfield 36, 3), (49, .aload_n 0, 1), (50, .iconst 0, 1), (51, .putfield 39, 3), (54, .aload_n 0, 1), (55, .iload_n 1, 1), (56, .putfield 42, 3), (59, .aload_n 0, 1)]
theorem kX10_init_2 : chkB cX10_init LX10_init_2 = true := by decide +kernel
theorem dX10_init_40 : decode cX10_init 40 = .ok (.iconst (-1), 1) := getB' kX10_init_2 0 rfl
theorem dX10_init_41 : decode cX10_init 41 = .ok (.putfield 33, 3) := getB' kX10_init_2 1 rfl
theorem dX10_init_44 : decode cX10_init 44 = .ok (.aload_n 0, 1) := getB' kX10_init_2 2 rfl
theorem dX10_init_45 : decode cX10_init 45 = .ok (.iconst 0, 1) := getB' kX10_init_2 3 rfl
theorem dX10_init_46 : decode cX10_init 46 = .ok (.putfield 36, 3) := getB' kX10_init_2 4 rfl
theorem dX10_init_49 : decode cX10_init 49 = .ok (.aload_n 0, 1) := getB' kX10_init_2 5 rfl
theorem dX10_init_50 : decode cX10_init 50 = .ok (.iconst 0, 1) := getB' kX10_init_2 6 rfl
theorem dX10_init_51 : decode cX10_init 51 = .ok (.putfield 39, 3) := getB' kX10_init_2 7 rfl
theorem dX10_init_54 : decode cX10_init 54 = .ok (.aload_n 0, 1) := getB' kX10_init_2 8 rfl
theorem dX10_init_55 : decode cX10_init 55 = .ok (.iload_n 1, 1) := getB' kX10_init_2 9 rfl
theorem dX10_init_56 : decode cX10_init 56 = .ok (.putfield 42, 3) := getB' kX10_init_2 10 rfl
theorem dX10_init_59 : decode cX10_init 59 = .ok (.aload_n 0, 1) := getB' kX10_init_2 11 rfl
def LX10_init_3 : List (Nat × Instr × Nat) := [(60, .iload_n 2, 1), (61, .putfield 45, 3), (64, .aload_n 0, 1), (65, .iload_n 3, 1), (66, .putfield 48, 3), (69, .aload_n 0, 1), (70, .iload 4, 2), (72, .putfield 51, 3), (75, .aload_n 0, 1), (76, .iload 5, 2), (78, .putfield 54, 3), (81, .return_, 1)]
theorem kX10_init_3 : chkB cX10_init LX10_init_3 = true := by decide +kernel
theorem dX10_init_60 : decode cX10_init 60 = .ok (.iload_n 2, 1) := getB' kX10_init_3 0 rfl
theorem dX10_init_61 : decode cX10_init 61 = .ok (.putfield 45, 3) := getB' kX10_init_3 1 rfl
theorem dX10_init_64 : decode cX10_init 64 = .ok (.aload_n 0, 1) := getB' kX10_init_3 2 rfl
theorem dX10_init_65 : decode cX10_init 65 = .ok (.iload_n 3, 1) := getB' kX10_init_3 3 rfl
theorem dX10_init_66 : decode cX10_init 66 = .ok (.putfield 48, 3) := getB' kX10_init_3 4 rfl
theorem dX10_init_69 : decode cX10_init 69 = .ok (.aload_n 0, 1) := getB' kX10_init_3 5 rfl
theorem dX10_init_70 : decode cX10_init 70 = .ok (.iload 4, 2) := getB' kX10_init_3 6 rfl
theorem dX10_init_72 : decode cX10_init 72 = .ok (.putfield 51, 3) := getB' kX10_init_3 7 rfl
theorem dX10_init_75 : decode cX10_init 75 = .ok (.aload_n 0, 1) := getB' kX10_init_3 8 rfl
theorem dX10_init_76 : decode cX10_init 76 = .ok (.iload 5, 2) := getB' kX10_init_3 9 rfl
theorem dX10_init_78 : decode cX10_init 78 = .ok (.putfield 54, 3) := getB' kX10_init_3 10 rfl
theorem dX10_init_81 : decode cX10_init 81 = .ok (.return_, 1) := getB' kX10_init_3 11 rfl
def LX11_ice_0 : List (Nat × Instr × Nat) := [(0, .iload_n 1, 1), (1, .iconst 4, 1), (2, .bipush 12, 2), (4, .invokestatic 112, 3), (7, .ifCond .eq 27, 3), (10, .iload_n 2, 1), (11, .iconst 4, 1), (12, .bipush 12, 2), (14, .invokestatic 112, 3), (17, .ifCond .eq 17, 3), (20, .aload_n 0, 1), (21, .getfield 46, 3)]
theorem kX11_ice_0 : chkB cX11_ice LX11_ice_0 = true := by decide +kernel
theorem dX11_ice_0 : decode cX11_ice 0 = .ok (.iload_n 1, 1) := getB' kX11_ice_0 0 rfl
theorem dX11_ice_1 : decode cX11_ice 1 = .ok (.iconst 4, 1) := getB' kX11_ice_0 1 rfl
theorem dX11_ice_2 : decode cX11_ice 2 = .ok (.bipush 12, 2) := getB' kX11_ice_0 2 rfl
theorem dX11_ice_4 : decode cX11_ice 4 = .ok (.invokestatic 112, 3) := getB' kX11_ice_0 3 rfl
theorem dX11_ice_7 : decode cX11_ice 7 = .ok (.ifCond .eq 27, 3) := getB' kX11_ice_0 4 rfl
theorem dX11_ice_10 : decode cX11_ice 10 = .ok (.iload_n 2, 1) := getB' kX11_ice_0 5 rfl
theorem dX11_ice_11 : decode cX11_ice 11 = .ok (.iconst 4, 1) := getB' kX11_ice_0 6 rfl
theorem dX11_ice_12 : decode cX11_ice 12 = .ok (.bipush 12, 2) := getB' kX11_ice_0 7 rfl
theorem dX11_ice_14 : decode cX11_ice 14 = .ok (.invokestatic 112, 3) := getB' kX11_ice_0 8 rfl
theorem dX11_ice_17 : decode cX11_ice 17 = .ok (.ifCond .eq 17, 3) := getB' kX11_ice_0 9 rfl
theorem dX11_ice_20 : decode cX11_ice 20 = .ok (.aload_n 0, 1) := getB' kX11_ice_0 10 rfl
theorem dX11_ice_21 : decode cX11_ice 21 = .ok (.getfield 46, 3) := getB' kX11_ice_0 11 rfl
def LX11_ice_1 : List (Nat × Instr × Nat) := [(24, .ifCond .gt 10, 3), (27, .aload_n 0, 1), (28, .getfield 55, 3), (31, .ifCond .le 5, 3), (34, .iconst 0, 1), (35, .ireturn, 1), (36, .aload_n 0, 1), (37, .getfield 12, 3), (40, .iload_n 1, 1), (41, .iload_n 2, 1), (42, .invokevirtual 116, 3), (45, .iconst 1, 1)]
theorem kX11_ice_1 : chkB cX11_ice LX11_ice_1 = true := by decide +kernel
theorem dX11_ice_24 : decode cX11_ice 24 = .ok (.ifCond .gt 10, 3) := getB' kX11_ice_1 0 rfl
theorem dX11_ice_27 : decode cX11_ice 27 = .ok (.aload_n 0, 1) := getB' kX11_ice_1 1 rfl
theorem dX11_ice_28 : decode cX11_ice 28 = .ok (.getfield 55, 3) := getB' kX11_ice_1 2 rfl
theorem dX11_ice_31 : decode cX11_ice 31 = .ok (.ifCond .le 5, 3) := getB' kX11_ice_1 3 rfl
theorem dX11_ice_34 : decode cX11_ice 34 = .ok (.iconst 0, 1) := getB' kX11_ice_1 4 rfl
theorem dX11_ice_35 : decode cX11_ice 35 = .ok (.ireturn, 1) := getB' kX11_ice_1 5 rfl
theorem dX11_ice_36 : decode cX11_ice 36 = .ok (.aload_n 0, 1) := getB' kX11_ice_1 6 rfl
theorem dX11_ice_37 : decode cX11_ice 37 = .ok (.getfield 12, 3) := getB' kX11_ice_1 7 rfl
theorem dX11_ice_40 : decode cX11_ice 40 = .ok (.iload_n 1, 1) := getB' kX11_ice_1 8 rfl
theorem dX11_ice_41 : decode cX11_ice 41 = .ok (.iload_n 2, 1) := getB' kX11_ice_1 9 rfl
theorem dX11_ice_42 : decode cX11_ice 42 = .ok (.invokevirtual 116, 3) := getB' kX11_ice_1 10 rfl
theorem dX11_ice_45 : decode cX11_ice 45 = .ok (.iconst 1, 1) := getB' kX11_ice_1 11 rfl
def LX11_ice_2 : List (Nat × Instr × Nat) := [(46, .ireturn, 1)]
theorem kX11_ice_2 : chkB cX11_ice LX11_ice_2 = true := by decide +kernel
theorem dX11_ice_46 : decode cX11_ice 46 = .ok (.ireturn, 1) := getB' kX11_ice_2 0 rfl
def LX11_cell_0 : List (Nat × Instr × Nat) := [(0, .iload 4, 2), (2, .iconst (-1), 1), (3, .if_icmp .ne 12, 3), (6, .iload 5, 2), (8, .ifCond .ne 7, 3), (11, .iconst 1, 1), (12, .goto 4, 3), (15, .iconst 0, 1), (16, .istore 6, 2), (18, .iload 4, 2), (20, .iconst 0, 1), (21, .bipush 7, 2)]
theorem kX11_cell_0 : chkB cX11_cell LX11_cell_0 = true := by decide +kernel
theorem dX11_cell_0 : decode cX11_cell 0 = .ok (.iload 4, 2) := getB' kX11_cell_0 0 rfl
theorem dX11_cell_2 : decode cX11_cell 2 = .ok (.iconst (-1), 1) := getB' kX11_cell_0 1 rfl
theorem dX11_cell_3 : decode cX11_cell 3 = .ok (.if_icmp .ne 12, 3) := getB' kX11_cell_0 2 rfl
theorem dX11_cell_6 : decode cX11_cell 6 = .ok (.iload 5, 2) := getB' kX11_cell_0 3 rfl
theorem dX11_cell_8 : decode cX11_cell 8 = .ok (.ifCond .ne 7, 3) := getB' kX11_cell_0 4 rfl
theorem dX11_cell_11 : decode cX11_cell 11 = .ok (.iconst 1, 1) := getB' kX11_cell_0 5 rfl
theorem dX11_cell_12 : decode cX11_cell 12 = .ok (.goto 4, 3) := getB' kX11_cell_0 6 rfl
theorem dX11_cell_15 : decode cX11_cell 15 = .ok (.iconst 0, 1) := getB' kX11_cell_0 7 rfl
theorem dX11_cell_16 : decode cX11_cell 16 = .ok (.istore 6, 2) := getB' kX11_cell_0 8 rfl
theorem dX11_cell_18 : decode cX11_cell 18 = .ok (.iload 4, 2) := getB' kX11_cell_0 9 rfl
theorem dX11_cell_20 : decode cX11_cell 20 = .ok (.iconst 0, 1) := getB' kX11_cell_0 10 rfl
theorem dX11_cell_21 : decode cX11_cell 21 = .ok (.bipush 7, 2) := getB' kX11_cell_0 11 rfl
def LX11_cell_1 : List (Nat × Instr × Nat) := [(23, .invokestatic 112, 3), (26, .ifCond .eq 20, 3), (29, .iload 5, 2), (31, .bipush 10, 2), (33, .sipush 3600, 3), (36, .invokestatic 112, 3), (39, .ifCond .eq 7, 3), (42, .iconst 1, 1), (43, .goto 4, 3), (46, .iconst 0, 1), (47, .istore 7, 2), (49, .aload_n 0, 1)]
theorem kX11_cell_1 : chkB cX11_cell LX11_cell_1 = true := by decide +kernel
theorem dX11_cell_23 : decode cX11_cell 23 = .ok (.invokestatic 112, 3) := getB' kX11_cell_1 0 rfl
theorem dX11_cell_26 : decode cX11_cell 26 = .ok (.ifCond .eq 20, 3) := getB' kX11_cell_1 1 rfl
theorem dX11_cell_29 : decode cX11_cell 29 = .ok (.iload 5, 2) := getB' kX11_cell_1 2 rfl
theorem dX11_cell_31 : decode cX11_cell 31 = .ok (.bipush 10, 2) := getB' kX11_cell_1 3 rfl
theorem dX11_cell_33 : decode cX11_cell 33 = .ok (.sipush 3600, 3) := getB' kX11_cell_1 4 rfl
theorem dX11_cell_36 : decode cX11_cell 36 = .ok (.invokestatic 112, 3) := getB' kX11_cell_1 5 rfl
theorem dX11_cell_39 : decode cX11_cell 39 = .ok (.ifCond .eq 7, 3) := getB' kX11_cell_1 6 rfl
theorem dX11_cell_42 : decode cX11_cell 42 = .ok (.iconst 1, 1) := getB' kX11_cell_1 7 rfl
theorem dX11_cell_43 : decode cX11_cell 43 = .ok (.goto 4, 3) := getB' kX11_cell_1 8 rfl
theorem dX11_cell_46 : decode cX11_cell 46 = .ok (.iconst 0, 1) := getB' kX11_cell_1 9 rfl
theorem dX11_cell_47 : decode cX11_cell 47 = .ok (.istore 7, 2) := getB' kX11_cell_1 10 rfl
theorem dX11_cell_49 : decode cX11_cell 49 = .ok (.aload_n 0, 1) := getB' kX11_cell_1 11 rfl
def LX11_cell_2 : List (Nat × Instr × Nat) := [(50, .getfield 12, 3), (53, .iload_n 1, 1), (54, .invokevirtual 119, 3), (57, .ifCond .eq 32, 3), (60, .iload_n 2, 1), (61, .iconst 0, 1), (62, .bipush 40, 2), (64, .invokestatic 112, 3), (67, .ifCond .eq 22, 3), (70, .iload_n 3, 1), (71, .iconst 0, 1), (72, .iconst 3, 1)]
theorem kX11_cell_2 : chkB cX11_cell LX11_cell_2 = true := by decide +kernel
theorem dX11_cell_50 : decode cX11_cell 50 = .ok (.getfield 12, 3) := getB' kX11_cell_2 0 rfl
theorem dX11_cell_53 : decode cX11_cell 53 = .ok (.iload_n 1, 1) := getB' kX11_cell_2 1 rfl
theorem dX11_cell_54 : decode cX11_cell 54 = .ok (.invokevirtual 119, 3) := getB' kX11_cell_2 2 rfl
theorem dX11_cell_57 : decode cX11_cell 57 = .ok (.ifCond .eq 32, 3) := getB' kX11_cell_2 3 rfl
theorem dX11_cell_60 : decode cX11_cell 60 = .ok (.iload_n 2, 1) := getB' kX11_cell_2 4 rfl
theorem dX11_cell_61 : decode cX11_cell 61 = .ok (.iconst 0, 1) := getB' kX11_cell_2 5 rfl
theorem dX11_cell_62 : decode cX11_cell 62 = .ok (.bipush 40, 2) := getB' kX11_cell_2 6 rfl
theorem dX11_cell_64 : decode cX11_cell 64 = .ok (.invokestatic 112, 3) := getB' kX11_cell_2 7 rfl
theorem dX11_cell_67 : decode cX11_cell 67 = .ok (.ifCond .eq 22, 3) := getB' kX11_cell_2 8 rfl
theorem dX11_cell_70 : decode cX11_cell 70 = .ok (.iload_n 3, 1) := getB' kX11_cell_2 9 rfl
theorem dX11_cell_71 : decode cX11_cell 71 = .ok (.iconst 0, 1) := getB' kX11_cell_2 10 rfl
theorem dX11_cell_72 : decode cX11_cell 72 = .ok (.iconst 3, 1) := getB' kX11_cell_2 11 rfl
def LX11_cell_3 : List (Nat × Instr × Nat) := [(73, .invokestatic 112, 3), (76, .ifCond .eq 13, 3), (79, .iload 6, 2), (81, .ifCond .ne 10, 3), (84, .iload 7, 2), (86, .ifCond .ne 5, 3), (89, .iconst 0, 1), (90, .ireturn, 1), (91, .aload_n 0, 1), (92, .getfield 12, 3), (95, .getfield 123, 3), (98, .iload_n 1, 1)]
theorem kX11_cell_3 : chkB cX11_cell LX11_cell_3 = true := by decide +kernel
theorem dX11_cell_73 : decode cX11_cell 73 = .ok (.invokestatic 112, 3) := getB' kX11_cell_3 0 rfl
theorem dX11_cell_76 : decode cX11_cell 76 = .ok (.ifCond .eq 13, 3) := getB' kX11_cell_3 1 rfl
theorem dX11_cell_79 : decode cX11_cell 79 = .ok (.iload 6, 2) := getB' kX11_cell_3 2 rfl
theorem dX11_cell_81 : decode cX11_cell 81 = .ok (.ifCond .ne 10, 3) := getB' kX11_cell_3 3 rfl
theorem dX11_cell_84 : decode cX11_cell 84 = .ok (.iload 7, 2) := getB' kX11_cell_3 4 rfl
theorem dX11_cell_86 : decode cX11_cell 86 = .ok (.ifCond .ne 5, 3) := getB' kX11_cell_3 5 rfl
theorem dX11_cell_89 : decode cX11_cell 89 = .ok (.iconst 0, 1) := getB' kX11_cell_3 6 rfl
theorem dX11_cell_90 : decode cX11_cell 90 = .ok (.ireturn, 1) := getB' kX11_cell_3 7 rfl
theorem dX11_cell_91 : decode cX11_cell 91 = .ok (.aload_n 0, 1) := getB' kX11_cell_3 8 rfl
theorem dX11_cell_92 : decode cX11_cell 92 = .ok (.getfield 12, 3) := getB' kX11_cell_3 9 rfl
theorem dX11_cell_95 : decode cX11_cell 95 = .ok (.getfield 123, 3) := getB' kX11_cell_3 10 rfl
theorem dX11_cell_98 : decode cX11_cell 98 = .ok (.iload_n 1, 1) := getB' kX11_cell_3 11 rfl
def LX11_cell_4 : List (Nat × Instr × Nat) := [(99, .iload_n 2, 1), (100, .invokestatic 108, 3), (103, .aload_n 0, 1), (104, .getfield 12, 3), (107, .getfield 126, 3), (110, .iload_n 1, 1), (111, .iload_n 3, 1), (112, .invokestatic 108, 3), (115, .aload_n 0, 1), (116, .getfield 12, 3), (119, .getfield 129, 3), (122, .iload_n 1, 1)]
theorem kX11_cell_4 : chkB cX11_cell LX11_cell_4 = true := by decide +kernel
theorem dX11_cell_99 : decode cX11_cell 99 = .ok (.iload_n 2, 1) := getB' kX11_cell_4 0 rfl
theorem dX11_cell_100 : decode cX11_cell 100 = .ok (.invokestatic 108, 3) := getB' kX11_cell_4 1 rfl
theorem dX11_cell_103 : decode cX11_cell 103 = .ok (.aload_n 0, 1) := getB' kX11_cell_4 2 rfl
theorem dX11_cell_104 : decode cX11_cell 104 = .ok (.getfield 12, 3) := getB' kX11_cell_4 3 rfl
theorem dX11_cell_107 : decode cX11_cell 107 = .ok (.getfield 126, 3) := getB' kX11_cell_4 4 rfl
theorem dX11_cell_110 : decode cX11_cell 110 = .ok (.iload_n 1, 1) := getB' kX11_cell_4 5 rfl
theorem dX11_cell_111 : decode cX11_cell 111 = .ok (.iload_n 3, 1) := getB' kX11_cell_4 6 rfl
theorem dX11_cell_112 : decode cX11_cell 112 = .ok (.invokestatic 108, 3) := getB' kX11_cell_4 7 rfl
theorem dX11_cell_115 : decode cX11_cell 115 = .ok (.aload_n 0, 1) := getB' kX11_cell_4 8 rfl
theorem dX11_cell_116 : decode cX11_cell 116 = .ok (.getfield 12, 3) := getB' kX11_cell_4 9 rfl
theorem dX11_cell_119 : decode cX11_cell 119 = .ok (.getfield 129, 3) := getB' kX11_cell_4 10 rfl
theorem dX11_cell_122 : decode cX11_cell 122 = .ok (.iload_n 1, 1) := getB' kX11_cell_4 11 rfl
def LX11_cell_5 : List (Nat × Instr × Nat) := [(123, .iload 4, 2), (125, .invokestatic 108, 3), (128, .aload_n 0, 1), (129, .getfield 12, 3), (132, .getfield 132, 3), (135, .iload_n 1, 1), (136, .iload 5, 2), (138, .invokestatic 108, 3), (141, .iconst 1, 1), (142, .ireturn, 1)]
theorem kX11_cell_5 : chkB cX11_cell LX11_cell_5 = true := by decide +kernel
theorem dX11_cell_123 : decode cX11_cell 123 = .ok (.iload 4, 2) := getB' kX11_cell_5 0 rfl
theorem dX11_cell_125 : decode cX11_cell 125 = .ok (.invokestatic 108, 3) := getB' kX11_cell_5 1 rfl
theorem dX11_cell_128 : decode cX11_cell 128 = .ok (.aload_n 0, 1) := getB' kX11_cell_5 2 rfl
theorem dX11_cell_129 : decode cX11_cell 129 = .ok (.getfield 12, 3) := getB' kX11_cell_5 3 rfl
theorem dX11_cell_132 : decode cX11_cell 132 = .ok (.getfield 132, 3) := getB' kX11_cell_5 4 rfl
theorem dX11_cell_135 : decode cX11_cell 135 = .ok (.iload_n 1, 1) := getB' kX11_cell_5 5 rfl
theorem dX11_cell_136 : decode cX11_cell 136 = .ok (.iload 5, 2) := getB' kX11_cell_5 6 rfl
theorem dX11_cell_138 : decode cX11_cell 138 = .ok (.invokestatic 108, 3) := getB' kX11_cell_5 7 rfl
theorem dX11_cell_141 : decode cX11_cell 141 = .ok (.iconst 1, 1) := getB' kX11_cell_5 8 rfl
theorem dX11_cell_142 : decode cX11_cell 142 = .ok (.ireturn, 1) := getB' kX11_cell_5 9 rfl
def LX11_dark_0 : List (Nat × Instr × Nat) := [(0, .iload_n 1, 1), (1, .iload_n 2, 1), (2, .invokestatic 135, 3), (5, .ifCond .ne 5, 3), (8, .iconst 0, 1), (9, .ireturn, 1), (10, .aload_n 0, 1), (11, .getfield 12, 3), (14, .iload_n 1, 1), (15, .putfield 139, 3), (18, .aload_n 0, 1), (19, .getfield 12, 3)]
theorem kX11_dark_0 : chkB cX11_dark LX11_dark_0 = true := by decide +kernel
theorem dX11_dark_0 : decode cX11_dark 0 = .ok (.iload_n 1, 1) := getB' kX11_dark_0 0 rfl
theorem dX11_dark_1 : decode cX11_dark 1 = .ok (.iload_n 2, 1) := getB' kX11_dark_0 1 rfl
theorem dX11_dark_2 : decode cX11_dark 2 = .ok (.invokestatic 135, 3) := getB' kX11_dark_0 2 rfl
theorem dX11_dark_5 : decode cX11_dark 5 = .ok (.ifCond .ne 5, 3) := getB' kX11_dark_0 3 rfl
theorem dX11_dark_8 : decode cX11_dark 8 = .ok (.iconst 0, 1) := getB' kX11_dark_0 4 rfl
theorem dX11_dark_9 : decode cX11_dark 9 = .ok (.ireturn, 1) := getB' kX11_dark_0 5 rfl
theorem dX11_dark_10 : decode cX11_dark 10 = .ok (.aload_n 0, 1) := getB' kX11_dark_0 6 rfl
theorem dX11_dark_11 : decode cX11_dark 11 = .ok (.getfield 12, 3) := getB' kX11_dark_0 7 rfl
theorem dX11_dark_14 : decode cX11_dark 14 = .ok (.iload_n 1, 1) := getB' kX11_dark_0 8 rfl
theorem dX11_dark_15 : decode cX11_dark 15 = .ok (.putfield 139, 3) := getB' kX11_dark_0 9 rfl
theorem dX11_dark_18 : decode cX11_dark 18 = .ok (.aload_n 0, 1) := getB' kX11_dark_0 10 rfl
theorem dX11_dark_19 : decode cX11_dark 19 = .ok (.getfield 12, 3) := getB' kX11_dark_0 11 rfl
def LX11_dark_1 : List (Nat × Instr × Nat) := [(22, .iload_n 2, 1), (23, .putfield 142, 3), (26, .iconst 1, 1), (27, .ireturn, 1)]
theorem kX11_dark_1 : chkB cX11_dark LX11_dark_1 = true := by decide +kernel
theorem dX11_dark_22 : decode cX11_dark 22 = .ok (.iload_n 2, 1) := getB' kX11_dark_1 0 rfl
theorem dX11_dark_23 : decode cX11_dark 23 = .ok (.putfield 142, 3) := getB' kX11_dark_1 1 rfl
theorem dX11_dark_26 : decode cX11_dark 26 = .ok (.iconst 1, 1) := getB' kX11_dark_1 2 rfl
theorem dX11_dark_27 : decode cX11_dark 27 = .ok (.ireturn, 1) := getB' kX11_dark_1 3 rfl
def LX11_party_0 : List (Nat × Instr × Nat) := [(0, .aload_n 0, 1), (1, .getfield 36, 3), (4, .aload_n 0, 1), (5, .getfield 32, 3), (8, .arraylength, 1), (9, .if_icmp .lt 5, 3), (12, .iconst (-1), 1), (13, .ireturn, 1), (14, .aload_n 0, 1), (15, .getfield 32, 3), (18, .aload_n 0, 1), (19, .getfield 36, 3)]
theorem kX11_party_0 : chkB cX11_party LX11_party_0 = true := by decide +kernel
theorem dX11_party_0 : decode cX11_party 0 = .ok (.aload_n 0, 1) := getB' kX11_party_0 0 rfl
theorem dX11_party_1 : decode cX11_party 1 = .ok (.getfield 36, 3) := getB' kX11_party_0 1 rfl
theorem dX11_party_4 : decode cX11_party 4 = .ok (.aload_n 0, 1) := getB' kX11_party_0 2 rfl
theorem dX11_party_5 : decode cX11_party 5 = .ok (.getfield 32, 3) := getB' kX11_party_0 3 rfl
theorem dX11_party_8 : decode cX11_party 8 = .ok (.arraylength, 1) := getB' kX11_party_0 4 rfl
theorem dX11_party_9 : decode cX11_party 9 = .ok (.if_icmp .lt 5, 3) := getB' kX11_party_0 5 rfl
theorem dX11_party_12 : decode cX11_party 12 = .ok (.iconst (-1), 1) := getB' kX11_party_0 6 rfl
theorem dX11_party_13 : decode cX11_party 13 = .ok (.ireturn, 1) := getB' kX11_party_0 7 rfl
theorem dX11_party_14 : decode cX11_party 14 = .ok (.aload_n 0, 1) := getB' kX11_party_0 8 rfl
theorem dX11_party_15 : decode cX11_party 15 = .ok (.getfield 32, 3) := getB' kX11_party_0 9 rfl
theorem dX11_party_18 : decode cX11_party 18 = .ok (.aload_n 0, 1) := getB' kX11_party_0 10 rfl
theorem dX11_party_19 : decode cX11_party 19 = .ok (.getfield 36, 3) := getB' kX11_party_0 11 rfl
def LX11_party_1 : List (Nat × Instr × Nat) := [(22, .new 30, 3), (25, .dup, 1), (26, .iload_n 1, 1), (27, .ifCond .eq 13, 3), (30, .aload_n 0, 1), (31, .getfield 12, 3), (34, .getfield 145, 3), (37, .goto 4, 3), (40, .iconst (-1), 1), (41, .invokespecial 148, 3), (44, .aastore, 1), (45, .aload_n 0, 1)]
theorem kX11_party_1 : chkB cX11_party LX11_party_1 = true := by decide +kernel
theorem dX11_party_22 : decode cX11_party 22 = .ok (.new 30, 3) := getB' kX11_party_1 0 rfl
theorem dX11_party_25 : decode cX11_party 25 = .ok (.dup, 1) := getB' kX11_party_1 1 rfl
theorem dX11_party_26 : decode cX11_party 26 = .ok (.iload_n 1, 1) := getB' kX11_party_1 2 rfl
theorem dX11_party_27 : decode cX11_party 27 = .ok (.ifCond .eq 13, 3) := getB' kX11_party_1 3 rfl
theorem dX11_party_30 : decode cX11_party 30 = .ok (.aload_n 0, 1) := getB' kX11_party_1 4 rfl
theorem dX11_party_31 : decode cX11_party 31 = .ok (.getfield 12, 3) := getB' kX11_party_1 5 rfl
theorem dX11_party_34 : decode cX11_party 34 = .ok (.getfield 145, 3) := getB' kX11_party_1 6 rfl
theorem dX11_party_37 : decode cX11_party 37 = .ok (.goto 4, 3) := getB' kX11_party_1 7 rfl
theorem dX11_party_40 : decode cX11_party 40 = .ok (.iconst (-1), 1) := getB' kX11_party_1 8 rfl
theorem dX11_party_41 : decode cX11_party 41 = .ok (.invokespecial 148, 3) := getB' kX11_party_1 9 rfl
theorem dX11_party_44 : decode cX11_party 44 = .ok (.aastore, 1) := getB' kX11_party_1 10 rfl
theorem dX11_party_45 : decode cX11_party 45 = .ok (.aload_n 0, 1) := getB' kX11_party_1 11 rfl
def LX11_party_2 : List (Nat × Instr × Nat) := [(46, .dup, 1), (47, .getfield 36, 3), (50, .dup_x1, 1), (51, .iconst 1, 1), (52, .iadd, 1), (53, .putfield 36, 3), (56, .ireturn, 1)]
theorem kX11_party_2 : chkB cX11_party LX11_party_2 = true := by decide +kernel
theorem dX11_party_46 : decode cX11_party 46 = .ok (.dup, 1) := getB' kX11_party_2 0 rfl
theorem dX11_party_47 : decode cX11_party 47 = .ok (.getfield 36, 3) := getB' kX11_party_2 1 rfl
theorem dX11_party_50 : decode cX11_party 50 = .ok (.dup_x1, 1) := getB' kX11_party_2 2 rfl
theorem dX11_party_51 : decode cX11_party 51 = .ok (.iconst 1, 1) := getB' kX11_party_2 3 rfl
theorem dX11_party_52 : decode cX11_party 52 = .ok (.iadd, 1) := getB' kX11_party_2 4 rfl
theorem dX11_party_53 : decode cX11_party 53 = .ok (.putfield 36, 3) := getB' kX11_party_2 5 rfl
theorem dX11_party_56 : decode cX11_party 56 = .ok (.ireturn, 1) := getB' kX11_party_2 6 rfl
def LX11_claim_0 : List (Nat × Instr × Nat) := [(0, .aload_n 0, 1), (1, .iload_n 1, 1), (2, .invokevirtual 151, 3), (5, .astore 5, 2), (7, .aload 5, 2), (9, .ifnull 37, 3), (12, .aload_n 0, 1), (13, .getfield 12, 3), (16, .iload_n 2, 1), (17, .iload_n 3, 1), (18, .invokevirtual 155, 3), (21, .ifCond .eq 25, 3)]
theorem kX11_claim_0 : chkB cX11_claim LX11_claim_0 = true := by decide +kernel
theorem dX11_claim_0 : decode cX11_claim 0 = .ok (.aload_n 0, 1) := getB' kX11_claim_0 0 rfl
theorem dX11_claim_1 : decode cX11_claim 1 = .ok (.iload_n 1, 1) := getB' kX11_claim_0 1 rfl
theorem dX11_claim_2 : decode cX11_claim 2 = .ok (.invokevirtual 151, 3) := getB' kX11_claim_0 2 rfl
theorem dX11_claim_5 : decode cX11_claim 5 = .ok (.astore 5, 2) := getB' kX11_claim_0 3 rfl
theorem dX11_claim_7 : decode cX11_claim 7 = .ok (.aload 5, 2) := getB' kX11_claim_0 4 rfl
theorem dX11_claim_9 : decode cX11_claim 9 = .ok (.ifnull 37, 3) := getB' kX11_claim_0 5 rfl
theorem dX11_claim_12 : decode cX11_claim 12 = .ok (.aload_n 0, 1) := getB' kX11_claim_0 6 rfl
theorem dX11_claim_13 : decode cX11_claim 13 = .ok (.getfield 12, 3) := getB' kX11_claim_0 7 rfl
theorem dX11_claim_16 : decode cX11_claim 16 = .ok (.iload_n 2, 1) := getB' kX11_claim_0 8 rfl
theorem dX11_claim_17 : decode cX11_claim 17 = .ok (.iload_n 3, 1) := getB' kX11_claim_0 9 rfl
theorem dX11_claim_18 : decode cX11_claim 18 = .ok (.invokevirtual 155, 3) := getB' kX11_claim_0 10 rfl
theorem dX11_claim_21 : decode cX11_claim 21 = .ok (.ifCond .eq 25, 3) := getB' kX11_claim_0 11 rfl
def LX11_claim_1 : List (Nat × Instr × Nat) := [(24, .iload 4, 2), (26, .iconst 0, 1), (27, .sipush 999, 3), (30, .invokestatic 112, 3), (33, .ifCond .eq 13, 3), (36, .aload_n 0, 1), (37, .iload_n 1, 1), (38, .aload 5, 2), (40, .invokevirtual 158, 3), (43, .ifCond .eq 5, 3), (46, .iconst (-1), 1), (47, .ireturn, 1)]
theorem kX11_claim_1 : chkB cX11_claim LX11_claim_1 = true := by decide +kernel
theorem dX11_claim_24 : decode cX11_claim 24 = .ok (.iload 4, 2) := getB' kX11_claim_1 0 rfl
theorem dX11_claim_26 : decode cX11_claim 26 = .ok (.iconst 0, 1) := getB' kX11_claim_1 1 rfl
theorem dX11_claim_27 : decode cX11_claim 27 = .ok (.sipush 999, 3) := getB' kX11_claim_1 2 rfl
theorem dX11_claim_30 : decode cX11_claim 30 = .ok (.invokestatic 112, 3) := getB' kX11_claim_1 3 rfl
theorem dX11_claim_33 : decode cX11_claim 33 = .ok (.ifCond .eq 13, 3) := getB' kX11_claim_1 4 rfl
theorem dX11_claim_36 : decode cX11_claim 36 = .ok (.aload_n 0, 1) := getB' kX11_claim_1 5 rfl
theorem dX11_claim_37 : decode cX11_claim 37 = .ok (.iload_n 1, 1) := getB' kX11_claim_1 6 rfl
theorem dX11_claim_38 : decode cX11_claim 38 = .ok (.aload 5, 2) := getB' kX11_claim_1 7 rfl
theorem dX11_claim_40 : decode cX11_claim 40 = .ok (.invokevirtual 158, 3) := getB' kX11_claim_1 8 rfl
theorem dX11_claim_43 : decode cX11_claim 43 = .ok (.ifCond .eq 5, 3) := getB' kX11_claim_1 9 rfl
theorem dX11_claim_46 : decode cX11_claim 46 = .ok (.iconst (-1), 1) := getB' kX11_claim_1 10 rfl
theorem dX11_claim_47 : decode cX11_claim 47 = .ok (.ireturn, 1) := getB' kX11_claim_1 11 rfl
def LX11_claim_2 : List (Nat × Instr × Nat) := [(48, .aload_n 0, 1), (49, .new 40, 3), (52, .dup, 1), (53, .iconst 0, 1), (54, .iload_n 1, 1), (55, .iload_n 2, 1), (56, .iload_n 3, 1), (57, .iload 4, 2), (59, .invokespecial 162, 3), (62, .invokevirtual 165, 3), (65, .ireturn, 1)]
theorem kX11_claim_2 : chkB cX11_claim LX11_claim_2 = true := by decide +kernel
theorem dX11_claim_48 : decode cX11_claim 48 = .ok (.aload_n 0, 1) := getB' kX11_claim_2 0 rfl
theorem dX11_claim_49 : decode cX11_claim 49 = .ok (.new 40, 3) := getB' kX11_claim_2 1 rfl
theorem dX11_claim_52 : decode cX11_claim 52 = .ok (.dup, 1) := getB' kX11_claim_2 2 rfl
theorem dX11_claim_53 : decode cX11_claim 53 = .ok (.iconst 0, 1) := getB' kX11_claim_2 3 rfl
theorem dX11_claim_54 : decode cX11_claim 54 = .ok (.iload_n 1, 1) := getB' kX11_claim_2 4 rfl
theorem dX11_claim_55 : decode cX11_claim 55 = .ok (.iload_n 2, 1) := getB' kX11_claim_2 5 rfl
theorem dX11_claim_56 : decode cX11_claim 56 = .ok (.iload_n 3, 1) := getB' kX11_claim_2 6 rfl
theorem dX11_claim_57 : decode cX11_claim 57 = .ok (.iload 4, 2) := getB' kX11_claim_2 7 rfl
theorem dX11_claim_59 : decode cX11_claim 59 = .ok (.invokespecial 162, 3) := getB' kX11_claim_2 8 rfl
theorem dX11_claim_62 : decode cX11_claim 62 = .ok (.invokevirtual 165, 3) := getB' kX11_claim_2 9 rfl
theorem dX11_claim_65 : decode cX11_claim 65 = .ok (.ireturn, 1) := getB' kX11_claim_2 10 rfl
def LX11_title_0 : List (Nat × Instr × Nat) := [(0, .aload_n 0, 1), (1, .iload_n 1, 1), (2, .iconst 0, 1), (3, .invokevirtual 169, 3), (6, .astore_n 3, 1), (7, .aload_n 3, 1), (8, .ifnull 14, 3), (11, .iload_n 2, 1), (12, .iconst 0, 1), (13, .sipush 999, 3), (16, .invokestatic 112, 3), (19, .ifCond .ne 5, 3)]
theorem kX11_title_0 : chkB cX11_title LX11_title_0 = true := by decide +kernel
theorem dX11_title_0 : decode cX11_title 0 = .ok (.aload_n 0, 1) := getB' kX11_title_0 0 rfl
theorem dX11_title_1 : decode cX11_title 1 = .ok (.iload_n 1, 1) := getB' kX11_title_0 1 rfl
theorem dX11_title_2 : decode cX11_title 2 = .ok (.iconst 0, 1) := getB' kX11_title_0 2 rfl
theorem dX11_title_3 : decode cX11_title 3 = .ok (.invokevirtual 169, 3) := getB' kX11_title_0 3 rfl
theorem dX11_title_6 : decode cX11_title 6 = .ok (.astore_n 3, 1) := getB' kX11_title_0 4 rfl
theorem dX11_title_7 : decode cX11_title 7 = .ok (.aload_n 3, 1) := getB' kX11_title_0 5 rfl
theorem dX11_title_8 : decode cX11_title 8 = .ok (.ifnull 14, 3) := getB' kX11_title_0 6 rfl
theorem dX11_title_11 : decode cX11_title 11 = .ok (.iload_n 2, 1) := getB' kX11_title_0 7 rfl
theorem dX11_title_12 : decode cX11_title 12 = .ok (.iconst 0, 1) := getB' kX11_title_0 8 rfl
theorem dX11_title_13 : decode cX11_title 13 = .ok (.sipush 999, 3) := getB' kX11_title_0 9 rfl
theorem dX11_title_16 : decode cX11_title 16 = .ok (.invokestatic 112, 3) := getB' kX11_title_0 10 rfl
theorem dX11_title_19 : decode cX11_title 19 = .ok (.ifCond .ne 5, 3) := getB' kX11_title_0 11 rfl
def LX11_title_1 : List (Nat × Instr × Nat) := [(22, .iconst 0, 1), (23, .ireturn, 1), (24, .aload_n 0, 1), (25, .aload_n 3, 1), (26, .getfield 173, 3), (29, .invokevirtual 151, 3), (32, .astore 4, 2), (34, .iload_n 2, 1), (35, .aload_n 3, 1), (36, .getfield 176, 3), (39, .if_icmp .le 23, 3), (42, .aload 4, 2)]
theorem kX11_title_1 : chkB cX11_title LX11_title_1 = true := by decide +kernel
theorem dX11_title_22 : decode cX11_title 22 = .ok (.iconst 0, 1) := getB' kX11_title_1 0 rfl
theorem dX11_title_23 : decode cX11_title 23 = .ok (.ireturn, 1) := getB' kX11_title_1 1 rfl
theorem dX11_title_24 : decode cX11_title 24 = .ok (.aload_n 0, 1) := getB' kX11_title_1 2 rfl
theorem dX11_title_25 : decode cX11_title 25 = .ok (.aload_n 3, 1) := getB' kX11_title_1 3 rfl
theorem dX11_title_26 : decode cX11_title 26 = .ok (.getfield 173, 3) := getB' kX11_title_1 4 rfl
theorem dX11_title_29 : decode cX11_title 29 = .ok (.invokevirtual 151, 3) := getB' kX11_title_1 5 rfl
theorem dX11_title_32 : decode cX11_title 32 = .ok (.astore 4, 2) := getB' kX11_title_1 6 rfl
theorem dX11_title_34 : decode cX11_title 34 = .ok (.iload_n 2, 1) := getB' kX11_title_1 7 rfl
theorem dX11_title_35 : decode cX11_title 35 = .ok (.aload_n 3, 1) := getB' kX11_title_1 8 rfl
theorem dX11_title_36 : decode cX11_title 36 = .ok (.getfield 176, 3) := getB' kX11_title_1 9 rfl
theorem dX11_title_39 : decode cX11_title 39 = .ok (.if_icmp .le 23, 3) := getB' kX11_title_1 10 rfl
theorem dX11_title_42 : decode cX11_title 42 = .ok (.aload 4, 2) := getB' kX11_title_1 11 rfl
def LX11_title_2 : List (Nat × Instr × Nat) := [(44, .ifnull 18, 3), (47, .aload_n 0, 1), (48, .aload_n 3, 1), (49, .getfield 173, 3), (52, .aload 4, 2), (54, .invokevirtual 158, 3), (57, .ifCond .eq 5, 3), (60, .iconst 0, 1), (61, .ireturn, 1), (62, .aload_n 3, 1), (63, .iload_n 2, 1), (64, .putfield 176, 3)]
theorem kX11_title_2 : chkB cX11_title LX11_title_2 = true := by decide +kernel
theorem dX11_title_44 : decode cX11_title 44 = .ok (.ifnull 18, 3) := getB' kX11_title_2 0 rfl
theorem dX11_title_47 : decode cX11_title 47 = .ok (.aload_n 0, 1) := getB' kX11_title_2 1 rfl
theorem dX11_title_48 : decode cX11_title 48 = .ok (.aload_n 3, 1) := getB' kX11_title_2 2 rfl
theorem dX11_title_49 : decode cX11_title 49 = .ok (.getfield 173, 3) := getB' kX11_title_2 3 rfl
theorem dX11_title_52 : decode cX11_title 52 = .ok (.aload 4, 2) := getB' kX11_title_2 4 rfl
theorem dX11_title_54 : decode cX11_title 54 = .ok (.invokevirtual 158, 3) := getB' kX11_title_2 5 rfl
theorem dX11_title_57 : decode cX11_title 57 = .ok (.ifCond .eq 5, 3) := getB' kX11_title_2 6 rfl
theorem dX11_title_60 : decode cX11_title 60 = .ok (.iconst 0, 1) := getB' kX11_title_2 7 rfl
theorem dX11_title_61 : decode cX11_title 61 = .ok (.ireturn, 1) := getB' kX11_title_2 8 rfl
theorem dX11_title_62 : decode cX11_title 62 = .ok (.aload_n 3, 1) := getB' kX11_title_2 9 rfl
theorem dX11_title_63 : decode cX11_title 63 = .ok (.iload_n 2, 1) := getB' kX11_title_2 10 rfl
theorem dX11_title_64 : decode cX11_title 64 = .ok (.putfield 176, 3) := getB' kX11_title_2 11 rfl
def LX11_title_3 : List (Nat × Instr × Nat) := [(67, .iconst 1, 1), (68, .ireturn, 1)]
theorem kX11_title_3 : chkB cX11_title LX11_title_3 = true := by decide +kernel
theorem dX11_title_67 : decode cX11_title 67 = .ok (.iconst 1, 1) := getB' kX11_title_3 0 rfl
theorem dX11_title_68 : decode cX11_title 68 = .ok (.ireturn, 1) := getB' kX11_title_3 1 rfl
def LX11_station_0 : List (Nat × Instr × Nat) := [(0, .aload_n 0, 1), (1, .iload_n 1, 1), (2, .invokevirtual 151, 3), (5, .ifnull 36, 3), (8, .aload_n 0, 1), (9, .getfield 12, 3), (12, .iload_n 2, 1), (13, .invokevirtual 179, 3), (16, .ifCond .eq 25, 3), (19, .iload_n 3, 1), (20, .iconst 0, 1), (21, .sipush 500, 3)]
theorem kX11_station_0 : chkB cX11_station LX11_station_0 = true := by decide +kernel
theorem dX11_station_0 : decode cX11_station 0 = .ok (.aload_n 0, 1) := getB' kX11_station_0 0 rfl
theorem dX11_station_1 : decode cX11_station 1 = .ok (.iload_n 1, 1) := getB' kX11_station_0 1 rfl
theorem dX11_station_2 : decode cX11_station 2 = .ok (.invokevirtual 151, 3) := getB' kX11_station_0 2 rfl
theorem dX11_station_5 : decode cX11_station 5 = .ok (.ifnull 36, 3) := getB' kX11_station_0 3 rfl
theorem dX11_station_8 : decode cX11_station 8 = .ok (.aload_n 0, 1) := getB' kX11_station_0 4 rfl
theorem dX11_station_9 : decode cX11_station 9 = .ok (.getfield 12, 3) := getB' kX11_station_0 5 rfl
theorem dX11_station_12 : decode cX11_station 12 = .ok (.iload_n 2, 1) := getB' kX11_station_0 6 rfl
theorem dX11_station_13 : decode cX11_station 13 = .ok (.invokevirtual 179, 3) := getB' kX11_station_0 7 rfl
theorem dX11_station_16 : decode cX11_station 16 = .ok (.ifCond .eq 25, 3) := getB' kX11_station_0 8 rfl
theorem dX11_station_19 : decode cX11_station 19 = .ok (.iload_n 3, 1) := getB' kX11_station_0 9 rfl
theorem dX11_station_20 : decode cX11_station 20 = .ok (.iconst 0, 1) := getB' kX11_station_0 10 rfl
theorem dX11_station_21 : decode cX11_station 21 = .ok (.sipush 500, 3) := getB' kX11_station_0 11 rfl
def LX11_station_1 : List (Nat × Instr × Nat) := [(24, .invokestatic 112, 3), (27, .ifCond .eq 14, 3), (30, .iload 4, 2), (32, .iconst 0, 1), (33, .ldc 182, 2), (35, .invokestatic 112, 3), (38, .ifCond .ne 5, 3), (41, .iconst (-1), 1), (42, .ireturn, 1), (43, .new 40, 3), (46, .dup, 1), (47, .iconst 1, 1)]
theorem kX11_station_1 : chkB cX11_station LX11_station_1 = true := by decide +kernel
theorem dX11_station_24 : decode cX11_station 24 = .ok (.invokestatic 112, 3) := getB' kX11_station_1 0 rfl
theorem dX11_station_27 : decode cX11_station 27 = .ok (.ifCond .eq 14, 3) := getB' kX11_station_1 1 rfl
theorem dX11_station_30 : decode cX11_station 30 = .ok (.iload 4, 2) := getB' kX11_station_1 2 rfl
theorem dX11_station_32 : decode cX11_station 32 = .ok (.iconst 0, 1) := getB' kX11_station_1 3 rfl
theorem dX11_station_33 : decode cX11_station 33 = .ok (.ldc 182, 2) := getB' kX11_station_1 4 rfl
theorem dX11_station_35 : decode cX11_station 35 = .ok (.invokestatic 112, 3) := getB' kX11_station_1 5 rfl
theorem dX11_station_38 : decode cX11_station 38 = .ok (.ifCond .ne 5, 3) := getB' kX11_station_1 6 rfl
theorem dX11_station_41 : decode cX11_station 41 = .ok (.iconst (-1), 1) := getB' kX11_station_1 7 rfl
theorem dX11_station_42 : decode cX11_station 42 = .ok (.ireturn, 1) := getB' kX11_station_1 8 rfl
theorem dX11_station_43 : decode cX11_station 43 = .ok (.new 40, 3) := getB' kX11_station_1 9 rfl
theorem dX11_station_46 : decode cX11_station 46 = .ok (.dup, 1) := getB' kX11_station_1 10 rfl
theorem dX11_station_47 : decode cX11_station 47 = .ok (.iconst 1, 1) := getB' kX11_station_1 11 rfl
def LX11_station_2 : List (Nat × Instr × Nat) := [(48, .iload_n 1, 1), (49, .iload_n 2, 1), (50, .iconst (-1), 1), (51, .iconst (-1), 1), (52, .invokespecial 162, 3), (55, .astore 5, 2), (57, .aload 5, 2), (59, .iload_n 3, 1), (60, .putfield 183, 3), (63, .aload 5, 2), (65, .iload 4, 2), (67, .putfield 186, 3)]
theorem kX11_station_2 : chkB cX11_station LX11_station_2 = true := by decide +kernel
theorem dX11_station_48 : decode cX11_station 48 = .ok (.iload_n 1, 1) := getB' kX11_station_2 0 rfl
theorem dX11_station_49 : decode cX11_station 49 = .ok (.iload_n 2, 1) := getB' kX11_station_2 1 rfl
theorem dX11_station_50 : decode cX11_station 50 = .ok (.iconst (-1), 1) := getB' kX11_station_2 2 rfl
theorem dX11_station_51 : decode cX11_station 51 = .ok (.iconst (-1), 1) := getB' kX11_station_2 3 rfl
theorem dX11_station_52 : decode cX11_station 52 = .ok (.invokespecial 162, 3) := getB' kX11_station_2 4 rfl
theorem dX11_station_55 : decode cX11_station 55 = .ok (.astore 5, 2) := getB' kX11_station_2 5 rfl
theorem dX11_station_57 : decode cX11_station 57 = .ok (.aload 5, 2) := getB' kX11_station_2 6 rfl
theorem dX11_station_59 : decode cX11_station 59 = .ok (.iload_n 3, 1) := getB' kX11_station_2 7 rfl
theorem dX11_station_60 : decode cX11_station 60 = .ok (.putfield 183, 3) := getB' kX11_station_2 8 rfl
theorem dX11_station_63 : decode cX11_station 63 = .ok (.aload 5, 2) := getB' kX11_station_2 9 rfl
theorem dX11_station_65 : decode cX11_station 65 = .ok (.iload 4, 2) := getB' kX11_station_2 10 rfl
theorem dX11_station_67 : decode cX11_station 67 = .ok (.putfield 186, 3) := getB' kX11_station_2 11 rfl
def LX11_station_3 : List (Nat × Instr × Nat) := [(70, .aload 5, 2), (72, .aload_n 0, 1), (73, .getfield 12, 3), (76, .getfield 145, 3), (79, .putfield 189, 3), (82, .aload_n 0, 1), (83, .aload 5, 2), (85, .invokevirtual 165, 3), (88, .istore 6, 2), (90, .iload 6, 2), (92, .iconst (-1), 1), (93, .if_icmp .eq 10, 3)]
theorem kX11_station_3 : chkB cX11_station LX11_station_3 = true := by decide +kernel
theorem dX11_station_70 : decode cX11_station 70 = .ok (.aload 5, 2) := getB' kX11_station_3 0 rfl
theorem dX11_station_72 : decode cX11_station 72 = .ok (.aload_n 0, 1) := getB' kX11_station_3 1 rfl
theorem dX11_station_73 : decode cX11_station 73 = .ok (.getfield 12, 3) := getB' kX11_station_3 2 rfl
theorem dX11_station_76 : decode cX11_station 76 = .ok (.getfield 145, 3) := getB' kX11_station_3 3 rfl
theorem dX11_station_79 : decode cX11_station 79 = .ok (.putfield 189, 3) := getB' kX11_station_3 4 rfl
theorem dX11_station_82 : decode cX11_station 82 = .ok (.aload_n 0, 1) := getB' kX11_station_3 5 rfl
theorem dX11_station_83 : decode cX11_station 83 = .ok (.aload 5, 2) := getB' kX11_station_3 6 rfl
theorem dX11_station_85 : decode cX11_station 85 = .ok (.invokevirtual 165, 3) := getB' kX11_station_3 7 rfl
theorem dX11_station_88 : decode cX11_station 88 = .ok (.istore 6, 2) := getB' kX11_station_3 8 rfl
theorem dX11_station_90 : decode cX11_station 90 = .ok (.iload 6, 2) := getB' kX11_station_3 9 rfl
theorem dX11_station_92 : decode cX11_station 92 = .ok (.iconst (-1), 1) := getB' kX11_station_3 10 rfl
theorem dX11_station_93 : decode cX11_station 93 = .ok (.if_icmp .eq 10, 3) := getB' kX11_station_3 11 rfl
def LX11_station_4 : List (Nat × Instr × Nat) := [(96, .aload_n 0, 1), (97, .iconst 0, 1), (98, .iload 4, 2), (100, .invokevirtual 192, 3), (103, .iload 6, 2), (105, .ireturn, 1)]
theorem kX11_station_4 : chkB cX11_station LX11_station_4 = true := by decide +kernel
theorem dX11_station_96 : decode cX11_station 96 = .ok (.aload_n 0, 1) := getB' kX11_station_4 0 rfl
theorem dX11_station_97 : decode cX11_station 97 = .ok (.iconst 0, 1) := getB' kX11_station_4 1 rfl
theorem dX11_station_98 : decode cX11_station 98 = .ok (.iload 4, 2) := getB' kX11_station_4 2 rfl
theorem dX11_station_100 : decode cX11_station 100 = .ok (.invokevirtual 192, 3) := getB' kX11_station_4 3 rfl
theorem dX11_station_103 : decode cX11_station 103 = .ok (.iload 6, 2) := getB' kX11_station_4 4 rfl
theorem dX11_station_105 : decode cX11_station 105 = .ok (.ireturn, 1) := getB' kX11_station_4 5 rfl
def LX11_field_0 : List (Nat × Instr × Nat) := [(0, .aload_n 0, 1), (1, .iload_n 1, 1), (2, .invokevirtual 195, 3), (5, .astore_n 3, 1), (6, .aload_n 3, 1), (7, .ifnull 14, 3), (10, .aload_n 0, 1), (11, .getfield 12, 3), (14, .iload_n 2, 1), (15, .invokevirtual 179, 3), (18, .ifCond .ne 5, 3), (21, .iconst (-1), 1)]
theorem kX11_field_0 : chkB cX11_field LX11_field_0 = true := by decide +kernel
theorem dX11_field_0 : decode cX11_field 0 = .ok (.aload_n 0, 1) := getB' kX11_field_0 0 rfl
theorem dX11_field_1 : decode cX11_field 1 = .ok (.iload_n 1, 1) := getB' kX11_field_0 1 rfl
theorem dX11_field_2 : decode cX11_field 2 = .ok (.invokevirtual 195, 3) := getB' kX11_field_0 2 rfl
theorem dX11_field_5 : decode cX11_field 5 = .ok (.astore_n 3, 1) := getB' kX11_field_0 3 rfl
theorem dX11_field_6 : decode cX11_field 6 = .ok (.aload_n 3, 1) := getB' kX11_field_0 4 rfl
theorem dX11_field_7 : decode cX11_field 7 = .ok (.ifnull 14, 3) := getB' kX11_field_0 5 rfl
theorem dX11_field_10 : decode cX11_field 10 = .ok (.aload_n 0, 1) := getB' kX11_field_0 6 rfl
theorem dX11_field_11 : decode cX11_field 11 = .ok (.getfield 12, 3) := getB' kX11_field_0 7 rfl
theorem dX11_field_14 : decode cX11_field 14 = .ok (.iload_n 2, 1) := getB' kX11_field_0 8 rfl
theorem dX11_field_15 : decode cX11_field 15 = .ok (.invokevirtual 179, 3) := getB' kX11_field_0 9 rfl
theorem dX11_field_18 : decode cX11_field 18 = .ok (.ifCond .ne 5, 3) := getB' kX11_field_0 10 rfl
theorem dX11_field_21 : decode cX11_field 21 = .ok (.iconst (-1), 1) := getB' kX11_field_0 11 rfl
def LX11_field_1 : List (Nat × Instr × Nat) := [(22, .ireturn, 1), (23, .aload_n 0, 1), (24, .new 40, 3), (27, .dup, 1), (28, .iconst 2, 1), (29, .aload_n 3, 1), (30, .getfield 173, 3), (33, .iload_n 2, 1), (34, .iconst (-1), 1), (35, .iload_n 1, 1), (36, .invokespecial 162, 3), (39, .invokevirtual 165, 3)]
theorem kX11_field_1 : chkB cX11_field LX11_field_1 = true := by decide +kernel
theorem dX11_field_22 : decode cX11_field 22 = .ok (.ireturn, 1) := getB' kX11_field_1 0 rfl
theorem dX11_field_23 : decode cX11_field 23 = .ok (.aload_n 0, 1) := getB' kX11_field_1 1 rfl
theorem dX11_field_24 : decode cX11_field 24 = .ok (.new 40, 3) := getB' kX11_field_1 2 rfl
theorem dX11_field_27 : decode cX11_field 27 = .ok (.dup, 1) := getB' kX11_field_1 3 rfl
theorem dX11_field_28 : decode cX11_field 28 = .ok (.iconst 2, 1) := getB' kX11_field_1 4 rfl
theorem dX11_field_29 : decode cX11_field 29 = .ok (.aload_n 3, 1) := getB' kX11_field_1 5 rfl
theorem dX11_field_30 : decode cX11_field 30 = .ok (.getfield 173, 3) := getB' kX11_field_1 6 rfl
theorem dX11_field_33 : decode cX11_field 33 = .ok (.iload_n 2, 1) := getB' kX11_field_1 7 rfl
theorem dX11_field_34 : decode cX11_field 34 = .ok (.iconst (-1), 1) := getB' kX11_field_1 8 rfl
theorem dX11_field_35 : decode cX11_field 35 = .ok (.iload_n 1, 1) := getB' kX11_field_1 9 rfl
theorem dX11_field_36 : decode cX11_field 36 = .ok (.invokespecial 162, 3) := getB' kX11_field_1 10 rfl
theorem dX11_field_39 : decode cX11_field 39 = .ok (.invokevirtual 165, 3) := getB' kX11_field_1 11 rfl
def LX11_field_2 : List (Nat × Instr × Nat) := [(42, .ireturn, 1)]
theorem kX11_field_2 : chkB cX11_field LX11_field_2 = true := by decide +kernel
theorem dX11_field_42 : decode cX11_field 42 = .ok (.ireturn, 1) := getB' kX11_field_2 0 rfl
def LX11_reserve_0 : List (Nat × Instr × Nat) := [(0, .aload_n 0, 1), (1, .getfield 12, 3), (4, .iload_n 1, 1), (5, .iload_n 2, 1), (6, .invokevirtual 155, 3), (9, .ifCond .eq 13, 3), (12, .iload_n 3, 1), (13, .iconst 1, 1), (14, .bipush 9, 2), (16, .invokestatic 112, 3), (19, .ifCond .ne 5, 3), (22, .iconst (-1), 1)]
theorem kX11_reserve_0 : chkB cX11_reserve LX11_reserve_0 = true := by decide +kernel
theorem dX11_reserve_0 : decode cX11_reserve 0 = .ok (.aload_n 0, 1) := getB' kX11_reserve_0 0 rfl
theorem dX11_reserve_1 : decode cX11_reserve 1 = .ok (.getfield 12, 3) := getB' kX11_reserve_0 1 rfl
theorem dX11_reserve_4 : decode cX11_reserve 4 = .ok (.iload_n 1, 1) := getB' kX11_reserve_0 2 rfl
theorem dX11_reserve_5 : decode cX11_reserve 5 = .ok (.iload_n 2, 1) := getB' kX11_reserve_0 3 rfl
theorem dX11_reserve_6 : decode cX11_reserve 6 = .ok (.invokevirtual 155, 3) := getB' kX11_reserve_0 4 rfl
theorem dX11_reserve_9 : decode cX11_reserve 9 = .ok (.ifCond .eq 13, 3) := getB' kX11_reserve_0 5 rfl
theorem dX11_reserve_12 : decode cX11_reserve 12 = .ok (.iload_n 3, 1) := getB' kX11_reserve_0 6 rfl
theorem dX11_reserve_13 : decode cX11_reserve 13 = .ok (.iconst 1, 1) := getB' kX11_reserve_0 7 rfl
theorem dX11_reserve_14 : decode cX11_reserve 14 = .ok (.bipush 9, 2) := getB' kX11_reserve_0 8 rfl
theorem dX11_reserve_16 : decode cX11_reserve 16 = .ok (.invokestatic 112, 3) := getB' kX11_reserve_0 9 rfl
theorem dX11_reserve_19 : decode cX11_reserve 19 = .ok (.ifCond .ne 5, 3) := getB' kX11_reserve_0 10 rfl
theorem dX11_reserve_22 : decode cX11_reserve 22 = .ok (.iconst (-1), 1) := getB' kX11_reserve_0 11 rfl
def LX11_reserve_1 : List (Nat × Instr × Nat) := [(23, .ireturn, 1), (24, .aload_n 0, 1), (25, .new 40, 3), (28, .dup, 1), (29, .iconst 3, 1), (30, .iconst (-1), 1), (31, .iload_n 1, 1), (32, .iload_n 2, 1), (33, .iload_n 3, 1), (34, .invokespecial 162, 3), (37, .invokevirtual 165, 3), (40, .ireturn, 1)]
theorem kX11_reserve_1 : chkB cX11_reserve LX11_reserve_1 = true := by decide +kernel
theorem dX11_reserve_23 : decode cX11_reserve 23 = .ok (.ireturn, 1) := getB' kX11_reserve_1 0 rfl
theorem dX11_reserve_24 : decode cX11_reserve 24 = .ok (.aload_n 0, 1) := getB' kX11_reserve_1 1 rfl
theorem dX11_reserve_25 : decode cX11_reserve 25 = .ok (.new 40, 3) := getB' kX11_reserve_1 2 rfl
theorem dX11_reserve_28 : decode cX11_reserve 28 = .ok (.dup, 1) := getB' kX11_reserve_1 3 rfl
theorem dX11_reserve_29 : decode cX11_reserve 29 = .ok (.iconst 3, 1) := getB' kX11_reserve_1 4 rfl
theorem dX11_reserve_30 : decode cX11_reserve 30 = .ok (.iconst (-1), 1) := getB' kX11_reserve_1 5 rfl
theorem dX11_reserve_31 : decode cX11_reserve 31 = .ok (.iload_n 1, 1) := getB' kX11_reserve_1 6 rfl
theorem dX11_reserve_32 : decode cX11_reserve 32 = .ok (.iload_n 2, 1) := getB' kX11_reserve_1 7 rfl
theorem dX11_reserve_33 : decode cX11_reserve 33 = .ok (.iload_n 3, 1) := getB' kX11_reserve_1 8 rfl
theorem dX11_reserve_34 : decode cX11_reserve 34 = .ok (.invokespecial 162, 3) := getB' kX11_reserve_1 9 rfl
theorem dX11_reserve_37 : decode cX11_reserve 37 = .ok (.invokevirtual 165, 3) := getB' kX11_reserve_1 10 rfl
theorem dX11_reserve_40 : decode cX11_reserve 40 = .ok (.ireturn, 1) := getB' kX11_reserve_1 11 rfl
