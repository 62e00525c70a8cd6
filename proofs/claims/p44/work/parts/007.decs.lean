def LX0_lay_0 : List (Nat × Instr × Nat) := [(0, .aload_n 0, 1), (1, .iload_n 1, 1), (2, .putfield 21, 3), (5, .aload_n 0, 1), (6, .iload_n 2, 1), (7, .putfield 24, 3), (10, .aload_n 0, 1), (11, .getfield 27, 3), (14, .iconst 0, 1), (15, .invokestatic 52, 3), (18, .aload_n 0, 1), (19, .getfield 31, 3)]
theorem kX0_lay_0 : chkB cX0_lay LX0_lay_0 = true := by decide +kernel
theorem dX0_lay_0 : decode cX0_lay 0 = .ok (.aload_n 0, 1) := getB' kX0_lay_0 0 rfl
theorem dX0_lay_1 : decode cX0_lay 1 = .ok (.iload_n 1, 1) := getB' kX0_lay_0 1 rfl
theorem dX0_lay_2 : decode cX0_lay 2 = .ok (.putfield 21, 3) := getB' kX0_lay_0 2 rfl
theorem dX0_lay_5 : decode cX0_lay 5 = .ok (.aload_n 0, 1) := getB' kX0_lay_0 3 rfl
theorem dX0_lay_6 : decode cX0_lay 6 = .ok (.iload_n 2, 1) := getB' kX0_lay_0 4 rfl
theorem dX0_lay_7 : decode cX0_lay 7 = .ok (.putfield 24, 3) := getB' kX0_lay_0 5 rfl
theorem dX0_lay_10 : decode cX0_lay 10 = .ok (.aload_n 0, 1) := getB' kX0_lay_0 6 rfl
theorem dX0_lay_11 : decode cX0_lay 11 = .ok (.getfield 27, 3) := getB' kX0_lay_0 7 rfl
theorem dX0_lay_14 : decode cX0_lay 14 = .ok (.iconst 0, 1) := getB' kX0_lay_0 8 rfl
theorem dX0_lay_15 : decode cX0_lay 15 = .ok (.invokestatic 52, 3) := getB' kX0_lay_0 9 rfl
theorem dX0_lay_18 : decode cX0_lay 18 = .ok (.aload_n 0, 1) := getB' kX0_lay_0 10 rfl
theorem dX0_lay_19 : decode cX0_lay 19 = .ok (.getfield 31, 3) := getB' kX0_lay_0 11 rfl
def LX0_lay_1 : List (Nat × Instr × Nat) := [(22, .iconst 0, 1), (23, .invokestatic 52, 3), (26, .aload_n 0, 1), (27, .getfield 34, 3), (30, .iconst (-1), 1), (31, .invokestatic 52, 3), (34, .aload_n 0, 1), (35, .getfield 37, 3), (38, .iconst 0, 1), (39, .invokestatic 52, 3), (42, .return_, 1)]
theorem kX0_lay_1 : chkB cX0_lay LX0_lay_1 = true := by decide +kernel
theorem dX0_lay_22 : decode cX0_lay 22 = .ok (.iconst 0, 1) := getB' kX0_lay_1 0 rfl
theorem dX0_lay_23 : decode cX0_lay 23 = .ok (.invokestatic 52, 3) := getB' kX0_lay_1 1 rfl
theorem dX0_lay_26 : decode cX0_lay 26 = .ok (.aload_n 0, 1) := getB' kX0_lay_1 2 rfl
theorem dX0_lay_27 : decode cX0_lay 27 = .ok (.getfield 34, 3) := getB' kX0_lay_1 3 rfl
theorem dX0_lay_30 : decode cX0_lay 30 = .ok (.iconst (-1), 1) := getB' kX0_lay_1 4 rfl
theorem dX0_lay_31 : decode cX0_lay 31 = .ok (.invokestatic 52, 3) := getB' kX0_lay_1 5 rfl
theorem dX0_lay_34 : decode cX0_lay 34 = .ok (.aload_n 0, 1) := getB' kX0_lay_1 6 rfl
theorem dX0_lay_35 : decode cX0_lay 35 = .ok (.getfield 37, 3) := getB' kX0_lay_1 7 rfl
theorem dX0_lay_38 : decode cX0_lay 38 = .ok (.iconst 0, 1) := getB' kX0_lay_1 8 rfl
theorem dX0_lay_39 : decode cX0_lay 39 = .ok (.invokestatic 52, 3) := getB' kX0_lay_1 9 rfl
theorem dX0_lay_42 : decode cX0_lay 42 = .ok (.return_, 1) := getB' kX0_lay_1 10 rfl
def LX0_isCell_0 : List (Nat × Instr × Nat) := [(0, .iload_n 1, 1), (1, .ifCond .lt 20, 3), (4, .iload_n 1, 1), (5, .aload_n 0, 1), (6, .getfield 21, 3), (9, .aload_n 0, 1), (10, .getfield 24, 3), (13, .imul, 1), (14, .if_icmp .ge 7, 3), (17, .iconst 1, 1), (18, .goto 4, 3), (21, .iconst 0, 1)]
theorem kX0_isCell_0 : chkB cX0_isCell LX0_isCell_0 = true := by decide +kernel
theorem dX0_isCell_0 : decode cX0_isCell 0 = .ok (.iload_n 1, 1) := getB' kX0_isCell_0 0 rfl
theorem dX0_isCell_1 : decode cX0_isCell 1 = .ok (.ifCond .lt 20, 3) := getB' kX0_isCell_0 1 rfl
theorem dX0_isCell_4 : decode cX0_isCell 4 = .ok (.iload_n 1, 1) := getB' kX0_isCell_0 2 rfl
theorem dX0_isCell_5 : decode cX0_isCell 5 = .ok (.aload_n 0, 1) := getB' kX0_isCell_0 3 rfl
theorem dX0_isCell_6 : decode cX0_isCell 6 = .ok (.getfield 21, 3) := getB' kX0_isCell_0 4 rfl
theorem dX0_isCell_9 : decode cX0_isCell 9 = .ok (.aload_n 0, 1) := getB' kX0_isCell_0 5 rfl
theorem dX0_isCell_10 : decode cX0_isCell 10 = .ok (.getfield 24, 3) := getB' kX0_isCell_0 6 rfl
theorem dX0_isCell_13 : decode cX0_isCell 13 = .ok (.imul, 1) := getB' kX0_isCell_0 7 rfl
theorem dX0_isCell_14 : decode cX0_isCell 14 = .ok (.if_icmp .ge 7, 3) := getB' kX0_isCell_0 8 rfl
theorem dX0_isCell_17 : decode cX0_isCell 17 = .ok (.iconst 1, 1) := getB' kX0_isCell_0 9 rfl
theorem dX0_isCell_18 : decode cX0_isCell 18 = .ok (.goto 4, 3) := getB' kX0_isCell_0 10 rfl
theorem dX0_isCell_21 : decode cX0_isCell 21 = .ok (.iconst 0, 1) := getB' kX0_isCell_0 11 rfl
def LX0_isCell_1 : List (Nat × Instr × Nat) := [(22, .ireturn, 1)]
theorem kX0_isCell_1 : chkB cX0_isCell LX0_isCell_1 = true := by decide +kernel
theorem dX0_isCell_22 : decode cX0_isCell 22 = .ok (.ireturn, 1) := getB' kX0_isCell_1 0 rfl
def LX0_isFirm_0 : List (Nat × Instr × Nat) := [(0, .aload_n 0, 1), (1, .getfield 31, 3), (4, .iload_n 1, 1), (5, .invokestatic 58, 3), (8, .istore_n 2, 1), (9, .aload_n 0, 1), (10, .iload_n 1, 1), (11, .invokevirtual 62, 3), (14, .ifCond .eq 16, 3), (17, .iload_n 2, 1), (18, .ifCond .eq 8, 3), (21, .iload_n 2, 1)]
theorem kX0_isFirm_0 : chkB cX0_isFirm LX0_isFirm_0 = true := by decide +kernel
theorem dX0_isFirm_0 : decode cX0_isFirm 0 = .ok (.aload_n 0, 1) := getB' kX0_isFirm_0 0 rfl
theorem dX0_isFirm_1 : decode cX0_isFirm 1 = .ok (.getfield 31, 3) := getB' kX0_isFirm_0 1 rfl
theorem dX0_isFirm_4 : decode cX0_isFirm 4 = .ok (.iload_n 1, 1) := getB' kX0_isFirm_0 2 rfl
theorem dX0_isFirm_5 : decode cX0_isFirm 5 = .ok (.invokestatic 58, 3) := getB' kX0_isFirm_0 3 rfl
theorem dX0_isFirm_8 : decode cX0_isFirm 8 = .ok (.istore_n 2, 1) := getB' kX0_isFirm_0 4 rfl
theorem dX0_isFirm_9 : decode cX0_isFirm 9 = .ok (.aload_n 0, 1) := getB' kX0_isFirm_0 5 rfl
theorem dX0_isFirm_10 : decode cX0_isFirm 10 = .ok (.iload_n 1, 1) := getB' kX0_isFirm_0 6 rfl
theorem dX0_isFirm_11 : decode cX0_isFirm 11 = .ok (.invokevirtual 62, 3) := getB' kX0_isFirm_0 7 rfl
theorem dX0_isFirm_14 : decode cX0_isFirm 14 = .ok (.ifCond .eq 16, 3) := getB' kX0_isFirm_0 8 rfl
theorem dX0_isFirm_17 : decode cX0_isFirm 17 = .ok (.iload_n 2, 1) := getB' kX0_isFirm_0 9 rfl
theorem dX0_isFirm_18 : decode cX0_isFirm 18 = .ok (.ifCond .eq 8, 3) := getB' kX0_isFirm_0 10 rfl
theorem dX0_isFirm_21 : decode cX0_isFirm 21 = .ok (.iload_n 2, 1) := getB' kX0_isFirm_0 11 rfl
def LX0_isFirm_1 : List (Nat × Instr × Nat) := [(22, .iconst 1, 1), (23, .if_icmp .ne 7, 3), (26, .iconst 1, 1), (27, .goto 4, 3), (30, .iconst 0, 1), (31, .ireturn, 1)]
theorem kX0_isFirm_1 : chkB cX0_isFirm LX0_isFirm_1 = true := by decide +kernel
theorem dX0_isFirm_22 : decode cX0_isFirm 22 = .ok (.iconst 1, 1) := getB' kX0_isFirm_1 0 rfl
theorem dX0_isFirm_23 : decode cX0_isFirm 23 = .ok (.if_icmp .ne 7, 3) := getB' kX0_isFirm_1 1 rfl
theorem dX0_isFirm_26 : decode cX0_isFirm 26 = .ok (.iconst 1, 1) := getB' kX0_isFirm_1 2 rfl
theorem dX0_isFirm_27 : decode cX0_isFirm 27 = .ok (.goto 4, 3) := getB' kX0_isFirm_1 3 rfl
theorem dX0_isFirm_30 : decode cX0_isFirm 30 = .ok (.iconst 0, 1) := getB' kX0_isFirm_1 4 rfl
theorem dX0_isFirm_31 : decode cX0_isFirm 31 = .ok (.ireturn, 1) := getB' kX0_isFirm_1 5 rfl
def LX0_rowOf : List (Nat × Instr × Nat) := [(0, .aload_n 0, 1), (1, .getfield 21, 3), (4, .ifCond .le 12, 3), (7, .iload_n 1, 1), (8, .aload_n 0, 1), (9, .getfield 21, 3), (12, .idiv, 1), (13, .goto 4, 3), (16, .iconst 0, 1), (17, .ireturn, 1)]
theorem kX0_rowOf : chkB cX0_rowOf LX0_rowOf = true := by decide +kernel
theorem dX0_rowOf_0 : decode cX0_rowOf 0 = .ok (.aload_n 0, 1) := getB' kX0_rowOf 0 rfl
theorem dX0_rowOf_1 : decode cX0_rowOf 1 = .ok (.getfield 21, 3) := getB' kX0_rowOf 1 rfl
theorem dX0_rowOf_4 : decode cX0_rowOf 4 = .ok (.ifCond .le 12, 3) := getB' kX0_rowOf 2 rfl
theorem dX0_rowOf_7 : decode cX0_rowOf 7 = .ok (.iload_n 1, 1) := getB' kX0_rowOf 3 rfl
theorem dX0_rowOf_8 : decode cX0_rowOf 8 = .ok (.aload_n 0, 1) := getB' kX0_rowOf 4 rfl
theorem dX0_rowOf_9 : decode cX0_rowOf 9 = .ok (.getfield 21, 3) := getB' kX0_rowOf 5 rfl
theorem dX0_rowOf_12 : decode cX0_rowOf 12 = .ok (.idiv, 1) := getB' kX0_rowOf 6 rfl
theorem dX0_rowOf_13 : decode cX0_rowOf 13 = .ok (.goto 4, 3) := getB' kX0_rowOf 7 rfl
theorem dX0_rowOf_16 : decode cX0_rowOf 16 = .ok (.iconst 0, 1) := getB' kX0_rowOf 8 rfl
theorem dX0_rowOf_17 : decode cX0_rowOf 17 = .ok (.ireturn, 1) := getB' kX0_rowOf 9 rfl
def LX0_columnOf : List (Nat × Instr × Nat) := [(0, .aload_n 0, 1), (1, .getfield 21, 3), (4, .ifCond .le 12, 3), (7, .iload_n 1, 1), (8, .aload_n 0, 1), (9, .getfield 21, 3), (12, .irem, 1), (13, .goto 4, 3), (16, .iconst 0, 1), (17, .ireturn, 1)]
theorem kX0_columnOf : chkB cX0_columnOf LX0_columnOf = true := by decide +kernel
theorem dX0_columnOf_0 : decode cX0_columnOf 0 = .ok (.aload_n 0, 1) := getB' kX0_columnOf 0 rfl
theorem dX0_columnOf_1 : decode cX0_columnOf 1 = .ok (.getfield 21, 3) := getB' kX0_columnOf 1 rfl
theorem dX0_columnOf_4 : decode cX0_columnOf 4 = .ok (.ifCond .le 12, 3) := getB' kX0_columnOf 2 rfl
theorem dX0_columnOf_7 : decode cX0_columnOf 7 = .ok (.iload_n 1, 1) := getB' kX0_columnOf 3 rfl
theorem dX0_columnOf_8 : decode cX0_columnOf 8 = .ok (.aload_n 0, 1) := getB' kX0_columnOf 4 rfl
theorem dX0_columnOf_9 : decode cX0_columnOf 9 = .ok (.getfield 21, 3) := getB' kX0_columnOf 5 rfl
theorem dX0_columnOf_12 : decode cX0_columnOf 12 = .ok (.irem, 1) := getB' kX0_columnOf 6 rfl
theorem dX0_columnOf_13 : decode cX0_columnOf 13 = .ok (.goto 4, 3) := getB' kX0_columnOf 7 rfl
theorem dX0_columnOf_16 : decode cX0_columnOf 16 = .ok (.iconst 0, 1) := getB' kX0_columnOf 8 rfl
theorem dX0_columnOf_17 : decode cX0_columnOf 17 = .ok (.ireturn, 1) := getB' kX0_columnOf 9 rfl
def LX0_far_0 : List (Nat × Instr × Nat) := [(0, .aload_n 0, 1), (1, .iload_n 1, 1), (2, .invokevirtual 66, 3), (5, .aload_n 0, 1), (6, .iload_n 2, 1), (7, .invokevirtual 66, 3), (10, .isub, 1), (11, .invokestatic 70, 3), (14, .aload_n 0, 1), (15, .iload_n 1, 1), (16, .invokevirtual 75, 3), (19, .aload_n 0, 1)]
theorem kX0_far_0 : chkB cX0_far LX0_far_0 = true := by decide +kernel
theorem dX0_far_0 : decode cX0_far 0 = .ok (.aload_n 0, 1) := getB' kX0_far_0 0 rfl
theorem dX0_far_1 : decode cX0_far 1 = .ok (.iload_n 1, 1) := getB' kX0_far_0 1 rfl
theorem dX0_far_2 : decode cX0_far 2 = .ok (.invokevirtual 66, 3) := getB' kX0_far_0 2 rfl
theorem dX0_far_5 : decode cX0_far 5 = .ok (.aload_n 0, 1) := getB' kX0_far_0 3 rfl
theorem dX0_far_6 : decode cX0_far 6 = .ok (.iload_n 2, 1) := getB' kX0_far_0 4 rfl
theorem dX0_far_7 : decode cX0_far 7 = .ok (.invokevirtual 66, 3) := getB' kX0_far_0 5 rfl
theorem dX0_far_10 : decode cX0_far 10 = .ok (.isub, 1) := getB' kX0_far_0 6 rfl
theorem dX0_far_11 : decode cX0_far 11 = .ok (.invokestatic 70, 3) := getB' kX0_far_0 7 rfl
theorem dX0_far_14 : decode cX0_far 14 = .ok (.aload_n 0, 1) := getB' kX0_far_0 8 rfl
theorem dX0_far_15 : decode cX0_far 15 = .ok (.iload_n 1, 1) := getB' kX0_far_0 9 rfl
theorem dX0_far_16 : decode cX0_far 16 = .ok (.invokevirtual 75, 3) := getB' kX0_far_0 10 rfl
theorem dX0_far_19 : decode cX0_far 19 = .ok (.aload_n 0, 1) := getB' kX0_far_0 11 rfl
def LX0_far_1 : List (Nat × Instr × Nat) := [(20, .iload_n 2, 1), (21, .invokevirtual 75, 3), (24, .isub, 1), (25, .invokestatic 70, 3), (28, .invokestatic 78, 3), (31, .ireturn, 1)]
theorem kX0_far_1 : chkB cX0_far LX0_far_1 = true := by decide +kernel
theorem dX0_far_20 : decode cX0_far 20 = .ok (.iload_n 2, 1) := getB' kX0_far_1 0 rfl
theorem dX0_far_21 : decode cX0_far 21 = .ok (.invokevirtual 75, 3) := getB' kX0_far_1 1 rfl
theorem dX0_far_24 : decode cX0_far 24 = .ok (.isub, 1) := getB' kX0_far_1 2 rfl
theorem dX0_far_25 : decode cX0_far 25 = .ok (.invokestatic 70, 3) := getB' kX0_far_1 3 rfl
theorem dX0_far_28 : decode cX0_far 28 = .ok (.invokestatic 78, 3) := getB' kX0_far_1 4 rfl
theorem dX0_far_31 : decode cX0_far 31 = .ok (.ireturn, 1) := getB' kX0_far_1 5 rfl
def LX0_isRectangle_0 : List (Nat × Instr × Nat) := [(0, .aload_n 0, 1), (1, .iload_n 1, 1), (2, .invokevirtual 62, 3), (5, .ifCond .eq 41, 3), (8, .aload_n 0, 1), (9, .iload_n 2, 1), (10, .invokevirtual 62, 3), (13, .ifCond .eq 33, 3), (16, .aload_n 0, 1), (17, .iload_n 1, 1), (18, .invokevirtual 66, 3), (21, .aload_n 0, 1)]
theorem kX0_isRectangle_0 : chkB cX0_isRectangle LX0_isRectangle_0 = true := by decide +kernel
theorem dX0_isRectangle_0 : decode cX0_isRectangle 0 = .ok (.aload_n 0, 1) := getB' kX0_isRectangle_0 0 rfl
theorem dX0_isRectangle_1 : decode cX0_isRectangle 1 = .ok (.iload_n 1, 1) := getB' kX0_isRectangle_0 1 rfl
theorem dX0_isRectangle_2 : decode cX0_isRectangle 2 = .ok (.invokevirtual 62, 3) := getB' kX0_isRectangle_0 2 rfl
theorem dX0_isRectangle_5 : decode cX0_isRectangle 5 = .ok (.ifCond .eq 41, 3) := getB' kX0_isRectangle_0 3 rfl
theorem dX0_isRectangle_8 : decode cX0_isRectangle 8 = .ok (.aload_n 0, 1) := getB' kX0_isRectangle_0 4 rfl
theorem dX0_isRectangle_9 : decode cX0_isRectangle 9 = .ok (.iload_n 2, 1) := getB' kX0_isRectangle_0 5 rfl
theorem dX0_isRectangle_10 : decode cX0_isRectangle 10 = .ok (.invokevirtual 62, 3) := getB' kX0_isRectangle_0 6 rfl
theorem dX0_isRectangle_13 : decode cX0_isRectangle 13 = .ok (.ifCond .eq 33, 3) := getB' kX0_isRectangle_0 7 rfl
theorem dX0_isRectangle_16 : decode cX0_isRectangle 16 = .ok (.aload_n 0, 1) := getB' kX0_isRectangle_0 8 rfl
theorem dX0_isRectangle_17 : decode cX0_isRectangle 17 = .ok (.iload_n 1, 1) := getB' kX0_isRectangle_0 9 rfl
theorem dX0_isRectangle_18 : decode cX0_isRectangle 18 = .ok (.invokevirtual 66, 3) := getB' kX0_isRectangle_0 10 rfl
theorem dX0_isRectangle_21 : decode cX0_isRectangle 21 = .ok (.aload_n 0, 1) := getB' kX0_isRectangle_0 11 rfl
def LX0_isRectangle_1 : List (Nat × Instr × Nat) := [(22, .iload_n 2, 1), (23, .invokevirtual 66, 3), (26, .if_icmp .gt 20, 3), (29, .aload_n 0, 1), (30, .iload_n 1, 1), (31, .invokevirtual 75, 3), (34, .aload_n 0, 1), (35, .iload_n 2, 1), (36, .invokevirtual 75, 3), (39, .if_icmp .gt 7, 3), (42, .iconst 1, 1), (43, .goto 4, 3)]
theorem kX0_isRectangle_1 : chkB cX0_isRectangle LX0_isRectangle_1 = true := by decide +kernel
theorem dX0_isRectangle_22 : decode cX0_isRectangle 22 = .ok (.iload_n 2, 1) := getB' kX0_isRectangle_1 0 rfl
theorem dX0_isRectangle_23 : decode cX0_isRectangle 23 = .ok (.invokevirtual 66, 3) := getB' kX0_isRectangle_1 1 rfl
theorem dX0_isRectangle_26 : decode cX0_isRectangle 26 = .ok (.if_icmp .gt 20, 3) := getB' kX0_isRectangle_1 2 rfl
theorem dX0_isRectangle_29 : decode cX0_isRectangle 29 = .ok (.aload_n 0, 1) := getB' kX0_isRectangle_1 3 rfl
theorem dX0_isRectangle_30 : decode cX0_isRectangle 30 = .ok (.iload_n 1, 1) := getB' kX0_isRectangle_1 4 rfl
theorem dX0_isRectangle_31 : decode cX0_isRectangle 31 = .ok (.invokevirtual 75, 3) := getB' kX0_isRectangle_1 5 rfl
theorem dX0_isRectangle_34 : decode cX0_isRectangle 34 = .ok (.aload_n 0, 1) := getB' kX0_isRectangle_1 6 rfl
theorem dX0_isRectangle_35 : decode cX0_isRectangle 35 = .ok (.iload_n 2, 1) := getB' kX0_isRectangle_1 7 rfl
theorem dX0_isRectangle_36 : decode cX0_isRectangle 36 = .ok (.invokevirtual 75, 3) := getB' kX0_isRectangle_1 8 rfl
theorem dX0_isRectangle_39 : decode cX0_isRectangle 39 = .ok (.if_icmp .gt 7, 3) := getB' kX0_isRectangle_1 9 rfl
theorem dX0_isRectangle_42 : decode cX0_isRectangle 42 = .ok (.iconst 1, 1) := getB' kX0_isRectangle_1 10 rfl
theorem dX0_isRectangle_43 : decode cX0_isRectangle 43 = .ok (.goto 4, 3) := getB' kX0_isRectangle_1 11 rfl
def LX0_isRectangle_2 : List (Nat × Instr × Nat) := [(46, .iconst 0, 1), (47, .ireturn, 1)]
theorem kX0_isRectangle_2 : chkB cX0_isRectangle LX0_isRectangle_2 = true := by decide +kernel
theorem dX0_isRectangle_46 : decode cX0_isRectangle 46 = .ok (.iconst 0, 1) := getB' kX0_isRectangle_2 0 rfl
theorem dX0_isRectangle_47 : decode cX0_isRectangle 47 = .ok (.ireturn, 1) := getB' kX0_isRectangle_2 1 rfl
def LX0_isWithin_0 : List (Nat × Instr × Nat) := [(0, .aload_n 0, 1), (1, .iload_n 2, 1), (2, .iload_n 1, 1), (3, .invokevirtual 82, 3), (6, .ifCond .eq 16, 3), (9, .aload_n 0, 1), (10, .iload_n 1, 1), (11, .iload_n 3, 1), (12, .invokevirtual 82, 3), (15, .ifCond .eq 7, 3), (18, .iconst 1, 1), (19, .goto 4, 3)]
theorem kX0_isWithin_0 : chkB cX0_isWithin LX0_isWithin_0 = true := by decide +kernel
theorem dX0_isWithin_0 : decode cX0_isWithin 0 = .ok (.aload_n 0, 1) := getB' kX0_isWithin_0 0 rfl
theorem dX0_isWithin_1 : decode cX0_isWithin 1 = .ok (.iload_n 2, 1) := getB' kX0_isWithin_0 1 rfl
theorem dX0_isWithin_2 : decode cX0_isWithin 2 = .ok (.iload_n 1, 1) := getB' kX0_isWithin_0 2 rfl
theorem dX0_isWithin_3 : decode cX0_isWithin 3 = .ok (.invokevirtual 82, 3) := getB' kX0_isWithin_0 3 rfl
theorem dX0_isWithin_6 : decode cX0_isWithin 6 = .ok (.ifCond .eq 16, 3) := getB' kX0_isWithin_0 4 rfl
theorem dX0_isWithin_9 : decode cX0_isWithin 9 = .ok (.aload_n 0, 1) := getB' kX0_isWithin_0 5 rfl
theorem dX0_isWithin_10 : decode cX0_isWithin 10 = .ok (.iload_n 1, 1) := getB' kX0_isWithin_0 6 rfl
theorem dX0_isWithin_11 : decode cX0_isWithin 11 = .ok (.iload_n 3, 1) := getB' kX0_isWithin_0 7 rfl
theorem dX0_isWithin_12 : decode cX0_isWithin 12 = .ok (.invokevirtual 82, 3) := getB' kX0_isWithin_0 8 rfl
theorem dX0_isWithin_15 : decode cX0_isWithin 15 = .ok (.ifCond .eq 7, 3) := getB' kX0_isWithin_0 9 rfl
theorem dX0_isWithin_18 : decode cX0_isWithin 18 = .ok (.iconst 1, 1) := getB' kX0_isWithin_0 10 rfl
theorem dX0_isWithin_19 : decode cX0_isWithin 19 = .ok (.goto 4, 3) := getB' kX0_isWithin_0 11 rfl
def LX0_isWithin_1 : List (Nat × Instr × Nat) := [(22, .iconst 0, 1), (23, .ireturn, 1)]
theorem kX0_isWithin_1 : chkB cX0_isWithin LX0_isWithin_1 = true := by decide +kernel
theorem dX0_isWithin_22 : decode cX0_isWithin 22 = .ok (.iconst 0, 1) := getB' kX0_isWithin_1 0 rfl
theorem dX0_isWithin_23 : decode cX0_isWithin 23 = .ok (.ireturn, 1) := getB' kX0_isWithin_1 1 rfl
def LX0_beside_0 : List (Nat × Instr × Nat) := [(0, .aload_n 0, 1), (1, .iload_n 1, 1), (2, .invokevirtual 62, 3), (5, .ifCond .eq 13, 3), (8, .iload_n 2, 1), (9, .ifCond .lt 9, 3), (12, .iload_n 2, 1), (13, .bipush 8, 2), (15, .if_icmp .lt 5, 3), (18, .iconst (-1), 1), (19, .ireturn, 1), (20, .aload_n 0, 1)]
theorem kX0_beside_0 : chkB cX0_beside LX0_beside_0 = true := by decide +kernel
theorem dX0_beside_0 : decode cX0_beside 0 = .ok (.aload_n 0, 1) := getB' kX0_beside_0 0 rfl
theorem dX0_beside_1 : decode cX0_beside 1 = .ok (.iload_n 1, 1) := getB' kX0_beside_0 1 rfl
theorem dX0_beside_2 : decode cX0_beside 2 = .ok (.invokevirtual 62, 3) := getB' kX0_beside_0 2 rfl
theorem dX0_beside_5 : decode cX0_beside 5 = .ok (.ifCond .eq 13, 3) := getB' kX0_beside_0 3 rfl
theorem dX0_beside_8 : decode cX0_beside 8 = .ok (.iload_n 2, 1) := getB' kX0_beside_0 4 rfl
theorem dX0_beside_9 : decode cX0_beside 9 = .ok (.ifCond .lt 9, 3) := getB' kX0_beside_0 5 rfl
theorem dX0_beside_12 : decode cX0_beside 12 = .ok (.iload_n 2, 1) := getB' kX0_beside_0 6 rfl
theorem dX0_beside_13 : decode cX0_beside 13 = .ok (.bipush 8, 2) := getB' kX0_beside_0 7 rfl
theorem dX0_beside_15 : decode cX0_beside 15 = .ok (.if_icmp .lt 5, 3) := getB' kX0_beside_0 8 rfl
theorem dX0_beside_18 : decode cX0_beside 18 = .ok (.iconst (-1), 1) := getB' kX0_beside_0 9 rfl
theorem dX0_beside_19 : decode cX0_beside 19 = .ok (.ireturn, 1) := getB' kX0_beside_0 10 rfl
theorem dX0_beside_20 : decode cX0_beside 20 = .ok (.aload_n 0, 1) := getB' kX0_beside_0 11 rfl
def LX0_beside_1 : List (Nat × Instr × Nat) := [(21, .iload_n 1, 1), (22, .invokevirtual 66, 3), (25, .getstatic 86, 3), (28, .iload_n 2, 1), (29, .invokestatic 58, 3), (32, .iadd, 1), (33, .istore_n 3, 1), (34, .aload_n 0, 1), (35, .iload_n 1, 1), (36, .invokevirtual 75, 3), (39, .getstatic 89, 3), (42, .iload_n 2, 1)]
theorem kX0_beside_1 : chkB cX0_beside LX0_beside_1 = true := by decide +kernel
theorem dX0_beside_21 : decode cX0_beside 21 = .ok (.iload_n 1, 1) := getB' kX0_beside_1 0 rfl
theorem dX0_beside_22 : decode cX0_beside 22 = .ok (.invokevirtual 66, 3) := getB' kX0_beside_1 1 rfl
theorem dX0_beside_25 : decode cX0_beside 25 = .ok (.getstatic 86, 3) := getB' kX0_beside_1 2 rfl
theorem dX0_beside_28 : decode cX0_beside 28 = .ok (.iload_n 2, 1) := getB' kX0_beside_1 3 rfl
theorem dX0_beside_29 : decode cX0_beside 29 = .ok (.invokestatic 58, 3) := getB' kX0_beside_1 4 rfl
theorem dX0_beside_32 : decode cX0_beside 32 = .ok (.iadd, 1) := getB' kX0_beside_1 5 rfl
theorem dX0_beside_33 : decode cX0_beside 33 = .ok (.istore_n 3, 1) := getB' kX0_beside_1 6 rfl
theorem dX0_beside_34 : decode cX0_beside 34 = .ok (.aload_n 0, 1) := getB' kX0_beside_1 7 rfl
theorem dX0_beside_35 : decode cX0_beside 35 = .ok (.iload_n 1, 1) := getB' kX0_beside_1 8 rfl
theorem dX0_beside_36 : decode cX0_beside 36 = .ok (.invokevirtual 75, 3) := getB' kX0_beside_1 9 rfl
theorem dX0_beside_39 : decode cX0_beside 39 = .ok (.getstatic 89, 3) := getB' kX0_beside_1 10 rfl
theorem dX0_beside_42 : decode cX0_beside 42 = .ok (.iload_n 2, 1) := getB' kX0_beside_1 11 rfl
def LX0_beside_2 : List (Nat × Instr × Nat) := [(43, .invokestatic 58, 3), (46, .iadd, 1), (47, .istore 4, 2), (49, .iload_n 3, 1), (50, .ifCond .lt 25, 3), (53, .iload_n 3, 1), (54, .aload_n 0, 1), (55, .getfield 24, 3), (58, .if_icmp .ge 17, 3), (61, .iload 4, 2), (63, .ifCond .lt 12, 3), (66, .iload 4, 2)]
theorem kX0_beside_2 : chkB cX0_beside LX0_beside_2 = true := by decide +kernel
theorem dX0_beside_43 : decode cX0_beside 43 = .ok (.invokestatic 58, 3) := getB' kX0_beside_2 0 rfl
theorem dX0_beside_46 : decode cX0_beside 46 = .ok (.iadd, 1) := getB' kX0_beside_2 1 rfl
theorem dX0_beside_47 : decode cX0_beside 47 = .ok (.istore 4, 2) := getB' kX0_beside_2 2 rfl
theorem dX0_beside_49 : decode cX0_beside 49 = .ok (.iload_n 3, 1) := getB' kX0_beside_2 3 rfl
theorem dX0_beside_50 : decode cX0_beside 50 = .ok (.ifCond .lt 25, 3) := getB' kX0_beside_2 4 rfl
theorem dX0_beside_53 : decode cX0_beside 53 = .ok (.iload_n 3, 1) := getB' kX0_beside_2 5 rfl
theorem dX0_beside_54 : decode cX0_beside 54 = .ok (.aload_n 0, 1) := getB' kX0_beside_2 6 rfl
theorem dX0_beside_55 : decode cX0_beside 55 = .ok (.getfield 24, 3) := getB' kX0_beside_2 7 rfl
theorem dX0_beside_58 : decode cX0_beside 58 = .ok (.if_icmp .ge 17, 3) := getB' kX0_beside_2 8 rfl
theorem dX0_beside_61 : decode cX0_beside 61 = .ok (.iload 4, 2) := getB' kX0_beside_2 9 rfl
theorem dX0_beside_63 : decode cX0_beside 63 = .ok (.ifCond .lt 12, 3) := getB' kX0_beside_2 10 rfl
theorem dX0_beside_66 : decode cX0_beside 66 = .ok (.iload 4, 2) := getB' kX0_beside_2 11 rfl
def LX0_beside_3 : List (Nat × Instr × Nat) := [(68, .aload_n 0, 1), (69, .getfield 21, 3), (72, .if_icmp .lt 7, 3), (75, .iconst 1, 1), (76, .goto 4, 3), (79, .iconst 0, 1), (80, .istore 5, 2), (82, .iload 5, 2), (84, .ifCond .eq 7, 3), (87, .iconst (-1), 1), (88, .goto 12, 3), (91, .iload_n 3, 1)]
theorem kX0_beside_3 : chkB cX0_beside LX0_beside_3 = true := by decide +kernel
theorem dX0_beside_68 : decode cX0_beside 68 = .ok (.aload_n 0, 1) := getB' kX0_beside_3 0 rfl
theorem dX0_beside_69 : decode cX0_beside 69 = .ok (.getfield 21, 3) := getB' kX0_beside_3 1 rfl
theorem dX0_beside_72 : decode cX0_beside 72 = .ok (.if_icmp .lt 7, 3) := getB' kX0_beside_3 2 rfl
theorem dX0_beside_75 : decode cX0_beside 75 = .ok (.iconst 1, 1) := getB' kX0_beside_3 3 rfl
theorem dX0_beside_76 : decode cX0_beside 76 = .ok (.goto 4, 3) := getB' kX0_beside_3 4 rfl
theorem dX0_beside_79 : decode cX0_beside 79 = .ok (.iconst 0, 1) := getB' kX0_beside_3 5 rfl
theorem dX0_beside_80 : decode cX0_beside 80 = .ok (.istore 5, 2) := getB' kX0_beside_3 6 rfl
theorem dX0_beside_82 : decode cX0_beside 82 = .ok (.iload 5, 2) := getB' kX0_beside_3 7 rfl
theorem dX0_beside_84 : decode cX0_beside 84 = .ok (.ifCond .eq 7, 3) := getB' kX0_beside_3 8 rfl
theorem dX0_beside_87 : decode cX0_beside 87 = .ok (.iconst (-1), 1) := getB' kX0_beside_3 9 rfl
theorem dX0_beside_88 : decode cX0_beside 88 = .ok (.goto 12, 3) := getB' kX0_beside_3 10 rfl
theorem dX0_beside_91 : decode cX0_beside 91 = .ok (.iload_n 3, 1) := getB' kX0_beside_3 11 rfl
def LX0_beside_4 : List (Nat × Instr × Nat) := [(92, .aload_n 0, 1), (93, .getfield 21, 3), (96, .imul, 1), (97, .iload 4, 2), (99, .iadd, 1), (100, .ireturn, 1)]
theorem kX0_beside_4 : chkB cX0_beside LX0_beside_4 = true := by decide +kernel
theorem dX0_beside_92 : decode cX0_beside 92 = .ok (.aload_n 0, 1) := getB' kX0_beside_4 0 rfl
theorem dX0_beside_93 : decode cX0_beside 93 = .ok (.getfield 21, 3) := getB' kX0_beside_4 1 rfl
theorem dX0_beside_96 : decode cX0_beside 96 = .ok (.imul, 1) := getB' kX0_beside_4 2 rfl
theorem dX0_beside_97 : decode cX0_beside 97 = .ok (.iload 4, 2) := getB' kX0_beside_4 3 rfl
theorem dX0_beside_99 : decode cX0_beside 99 = .ok (.iadd, 1) := getB' kX0_beside_4 4 rfl
theorem dX0_beside_100 : decode cX0_beside 100 = .ok (.ireturn, 1) := getB' kX0_beside_4 5 rfl
def LX0_isNearSea_0 : List (Nat × Instr × Nat) := [(0, .aload_n 0, 1), (1, .iload_n 1, 1), (2, .invokevirtual 62, 3), (5, .ifCond .eq 17, 3), (8, .aload_n 0, 1), (9, .getfield 31, 3), (12, .iload_n 1, 1), (13, .invokestatic 58, 3), (16, .iconst 2, 1), (17, .if_icmp .ne 5, 3), (20, .iconst 1, 1), (21, .ireturn, 1)]
theorem kX0_isNearSea_0 : chkB cX0_isNearSea LX0_isNearSea_0 = true := by decide +kernel
theorem dX0_isNearSea_0 : decode cX0_isNearSea 0 = .ok (.aload_n 0, 1) := getB' kX0_isNearSea_0 0 rfl
theorem dX0_isNearSea_1 : decode cX0_isNearSea 1 = .ok (.iload_n 1, 1) := getB' kX0_isNearSea_0 1 rfl
theorem dX0_isNearSea_2 : decode cX0_isNearSea 2 = .ok (.invokevirtual 62, 3) := getB' kX0_isNearSea_0 2 rfl
theorem dX0_isNearSea_5 : decode cX0_isNearSea 5 = .ok (.ifCond .eq 17, 3) := getB' kX0_isNearSea_0 3 rfl
theorem dX0_isNearSea_8 : decode cX0_isNearSea 8 = .ok (.aload_n 0, 1) := getB' kX0_isNearSea_0 4 rfl
theorem dX0_isNearSea_9 : decode cX0_isNearSea 9 = .ok (.getfield 31, 3) := getB' kX0_isNearSea_0 5 rfl
theorem dX0_isNearSea_12 : decode cX0_isNearSea 12 = .ok (.iload_n 1, 1) := getB' kX0_isNearSea_0 6 rfl
theorem dX0_isNearSea_13 : decode cX0_isNearSea 13 = .ok (.invokestatic 58, 3) := getB' kX0_isNearSea_0 7 rfl
theorem dX0_isNearSea_16 : decode cX0_isNearSea 16 = .ok (.iconst 2, 1) := getB' kX0_isNearSea_0 8 rfl
theorem dX0_isNearSea_17 : decode cX0_isNearSea 17 = .ok (.if_icmp .ne 5, 3) := getB' kX0_isNearSea_0 9 rfl
theorem dX0_isNearSea_20 : decode cX0_isNearSea 20 = .ok (.iconst 1, 1) := getB' kX0_isNearSea_0 10 rfl
theorem dX0_isNearSea_21 : decode cX0_isNearSea 21 = .ok (.ireturn, 1) := getB' kX0_isNearSea_0 11 rfl
def LX0_isNearSea_1 : List (Nat × Instr × Nat) := [(22, .iconst 0, 1), (23, .istore_n 2, 1), (24, .iload_n 2, 1), (25, .bipush 8, 2), (27, .if_icmp .ge 35, 3), (30, .aload_n 0, 1), (31, .iload_n 1, 1), (32, .iload_n 2, 1), (33, .invokevirtual 92, 3), (36, .istore_n 3, 1), (37, .iload_n 3, 1), (38, .iconst (-1), 1)]
theorem kX0_isNearSea_1 : chkB cX0_isNearSea LX0_isNearSea_1 = true := by decide +kernel
theorem dX0_isNearSea_22 : decode cX0_isNearSea 22 = .ok (.iconst 0, 1) := getB' kX0_isNearSea_1 0 rfl
theorem dX0_isNearSea_23 : decode cX0_isNearSea 23 = .ok (.istore_n 2, 1) := getB' kX0_isNearSea_1 1 rfl
theorem dX0_isNearSea_24 : decode cX0_isNearSea 24 = .ok (.iload_n 2, 1) := getB' kX0_isNearSea_1 2 rfl
theorem dX0_isNearSea_25 : decode cX0_isNearSea 25 = .ok (.bipush 8, 2) := getB' kX0_isNearSea_1 3 rfl
theorem dX0_isNearSea_27 : decode cX0_isNearSea 27 = .ok (.if_icmp .ge 35, 3) := getB' kX0_isNearSea_1 4 rfl
theorem dX0_isNearSea_30 : decode cX0_isNearSea 30 = .ok (.aload_n 0, 1) := getB' kX0_isNearSea_1 5 rfl
theorem dX0_isNearSea_31 : decode cX0_isNearSea 31 = .ok (.iload_n 1, 1) := getB' kX0_isNearSea_1 6 rfl
theorem dX0_isNearSea_32 : decode cX0_isNearSea 32 = .ok (.iload_n 2, 1) := getB' kX0_isNearSea_1 7 rfl
theorem dX0_isNearSea_33 : decode cX0_isNearSea 33 = .ok (.invokevirtual 92, 3) := getB' kX0_isNearSea_1 8 rfl
theorem dX0_isNearSea_36 : decode cX0_isNearSea 36 = .ok (.istore_n 3, 1) := getB' kX0_isNearSea_1 9 rfl
theorem dX0_isNearSea_37 : decode cX0_isNearSea 37 = .ok (.iload_n 3, 1) := getB' kX0_isNearSea_1 10 rfl
theorem dX0_isNearSea_38 : decode cX0_isNearSea 38 = .ok (.iconst (-1), 1) := getB' kX0_isNearSea_1 11 rfl
def LX0_isNearSea_2 : List (Nat × Instr × Nat) := [(39, .if_icmp .eq 17, 3), (42, .aload_n 0, 1), (43, .getfield 31, 3), (46, .iload_n 3, 1), (47, .invokestatic 58, 3), (50, .iconst 2, 1), (51, .if_icmp .ne 5, 3), (54, .iconst 1, 1), (55, .ireturn, 1), (56, .iinc 2 1, 3), (59, .goto (-35), 3), (62, .iconst 0, 1)]
theorem kX0_isNearSea_2 : chkB cX0_isNearSea LX0_isNearSea_2 = true := by decide +kernel
theorem dX0_isNearSea_39 : decode cX0_isNearSea 39 = .ok (.if_icmp .eq 17, 3) := getB' kX0_isNearSea_2 0 rfl
theorem dX0_isNearSea_42 : decode cX0_isNearSea 42 = .ok (.aload_n 0, 1) := getB' kX0_isNearSea_2 1 rfl
theorem dX0_isNearSea_43 : decode cX0_isNearSea 43 = .ok (.getfield 31, 3) := getB' kX0_isNearSea_2 2 rfl
theorem dX0_isNearSea_46 : decode cX0_isNearSea 46 = .ok (.iload_n 3, 1) := getB' kX0_isNearSea_2 3 rfl
theorem dX0_isNearSea_47 : decode cX0_isNearSea 47 = .ok (.invokestatic 58, 3) := getB' kX0_isNearSea_2 4 rfl
theorem dX0_isNearSea_50 : decode cX0_isNearSea 50 = .ok (.iconst 2, 1) := getB' kX0_isNearSea_2 5 rfl
theorem dX0_isNearSea_51 : decode cX0_isNearSea 51 = .ok (.if_icmp .ne 5, 3) := getB' kX0_isNearSea_2 6 rfl
theorem dX0_isNearSea_54 : decode cX0_isNearSea 54 = .ok (.iconst 1, 1) := getB' kX0_isNearSea_2 7 rfl
theorem dX0_isNearSea_55 : decode cX0_isNearSea 55 = .ok (.ireturn, 1) := getB' kX0_isNearSea_2 8 rfl
theorem dX0_isNearSea_56 : decode cX0_isNearSea 56 = .ok (.iinc 2 1, 3) := getB' kX0_isNearSea_2 9 rfl
theorem dX0_isNearSea_59 : decode cX0_isNearSea 59 = .ok (.goto (-35), 3) := getB' kX0_isNearSea_2 10 rfl
theorem dX0_isNearSea_62 : decode cX0_isNearSea 62 = .ok (.iconst 0, 1) := getB' kX0_isNearSea_2 11 rfl
def LX0_isNearSea_3 : List (Nat × Instr × Nat) := [(63, .ireturn, 1)]
theorem kX0_isNearSea_3 : chkB cX0_isNearSea LX0_isNearSea_3 = true := by decide +kernel
theorem dX0_isNearSea_63 : decode cX0_isNearSea 63 = .ok (.ireturn, 1) := getB' kX0_isNearSea_3 0 rfl
def LX0_isDark_0 : List (Nat × Instr × Nat) := [(0, .iload_n 1, 1), (1, .sipush 360, 3), (4, .irem, 1), (5, .istore_n 2, 1), (6, .iload_n 2, 1), (7, .aload_n 0, 1), (8, .getfield 15, 3), (11, .if_icmp .lt 15, 3), (14, .iload_n 2, 1), (15, .aload_n 0, 1), (16, .getfield 18, 3), (19, .if_icmp .gt 7, 3)]
theorem kX0_isDark_0 : chkB cX0_isDark LX0_isDark_0 = true := by decide +kernel
theorem dX0_isDark_0 : decode cX0_isDark 0 = .ok (.iload_n 1, 1) := getB' kX0_isDark_0 0 rfl
theorem dX0_isDark_1 : decode cX0_isDark 1 = .ok (.sipush 360, 3) := getB' kX0_isDark_0 1 rfl
theorem dX0_isDark_4 : decode cX0_isDark 4 = .ok (.irem, 1) := getB' kX0_isDark_0 2 rfl
theorem dX0_isDark_5 : decode cX0_isDark 5 = .ok (.istore_n 2, 1) := getB' kX0_isDark_0 3 rfl
theorem dX0_isDark_6 : decode cX0_isDark 6 = .ok (.iload_n 2, 1) := getB' kX0_isDark_0 4 rfl
theorem dX0_isDark_7 : decode cX0_isDark 7 = .ok (.aload_n 0, 1) := getB' kX0_isDark_0 5 rfl
theorem dX0_isDark_8 : decode cX0_isDark 8 = .ok (.getfield 15, 3) := getB' kX0_isDark_0 6 rfl
theorem dX0_isDark_11 : decode cX0_isDark 11 = .ok (.if_icmp .lt 15, 3) := getB' kX0_isDark_0 7 rfl
theorem dX0_isDark_14 : decode cX0_isDark 14 = .ok (.iload_n 2, 1) := getB' kX0_isDark_0 8 rfl
theorem dX0_isDark_15 : decode cX0_isDark 15 = .ok (.aload_n 0, 1) := getB' kX0_isDark_0 9 rfl
theorem dX0_isDark_16 : decode cX0_isDark 16 = .ok (.getfield 18, 3) := getB' kX0_isDark_0 10 rfl
theorem dX0_isDark_19 : decode cX0_isDark 19 = .ok (.if_icmp .gt 7, 3) := getB' kX0_isDark_0 11 rfl
def LX0_isDark_1 : List (Nat × Instr × Nat) := [(22, .iconst 1, 1), (23, .goto 4, 3), (26, .iconst 0, 1), (27, .ireturn, 1)]
theorem kX0_isDark_1 : chkB cX0_isDark LX0_isDark_1 = true := by decide +kernel
theorem dX0_isDark_22 : decode cX0_isDark 22 = .ok (.iconst 1, 1) := getB' kX0_isDark_1 0 rfl
theorem dX0_isDark_23 : decode cX0_isDark 23 = .ok (.goto 4, 3) := getB' kX0_isDark_1 1 rfl
theorem dX0_isDark_26 : decode cX0_isDark 26 = .ok (.iconst 0, 1) := getB' kX0_isDark_1 2 rfl
theorem dX0_isDark_27 : decode cX0_isDark 27 = .ok (.ireturn, 1) := getB' kX0_isDark_1 3 rfl
def LX0_coverOn_0 : List (Nat × Instr × Nat) := [(0, .aload_n 0, 1), (1, .getfield 40, 3), (4, .iload_n 1, 1), (5, .bipush 12, 2), (7, .imul, 1), (8, .iload_n 2, 1), (9, .sipush 360, 3), (12, .irem, 1), (13, .bipush 30, 2), (15, .idiv, 1), (16, .iadd, 1), (17, .invokestatic 58, 3)]
theorem kX0_coverOn_0 : chkB cX0_coverOn LX0_coverOn_0 = true := by decide +kernel
theorem dX0_coverOn_0 : decode cX0_coverOn 0 = .ok (.aload_n 0, 1) := getB' kX0_coverOn_0 0 rfl
theorem dX0_coverOn_1 : decode cX0_coverOn 1 = .ok (.getfield 40, 3) := getB' kX0_coverOn_0 1 rfl
theorem dX0_coverOn_4 : decode cX0_coverOn 4 = .ok (.iload_n 1, 1) := getB' kX0_coverOn_0 2 rfl
theorem dX0_coverOn_5 : decode cX0_coverOn 5 = .ok (.bipush 12, 2) := getB' kX0_coverOn_0 3 rfl
theorem dX0_coverOn_7 : decode cX0_coverOn 7 = .ok (.imul, 1) := getB' kX0_coverOn_0 4 rfl
theorem dX0_coverOn_8 : decode cX0_coverOn 8 = .ok (.iload_n 2, 1) := getB' kX0_coverOn_0 5 rfl
theorem dX0_coverOn_9 : decode cX0_coverOn 9 = .ok (.sipush 360, 3) := getB' kX0_coverOn_0 6 rfl
theorem dX0_coverOn_12 : decode cX0_coverOn 12 = .ok (.irem, 1) := getB' kX0_coverOn_0 7 rfl
theorem dX0_coverOn_13 : decode cX0_coverOn 13 = .ok (.bipush 30, 2) := getB' kX0_coverOn_0 8 rfl
theorem dX0_coverOn_15 : decode cX0_coverOn 15 = .ok (.idiv, 1) := getB' kX0_coverOn_0 9 rfl
theorem dX0_coverOn_16 : decode cX0_coverOn 16 = .ok (.iadd, 1) := getB' kX0_coverOn_0 10 rfl
theorem dX0_coverOn_17 : decode cX0_coverOn 17 = .ok (.invokestatic 58, 3) := getB' kX0_coverOn_0 11 rfl
def LX0_coverOn_1 : List (Nat × Instr × Nat) := [(20, .ireturn, 1)]
theorem kX0_coverOn_1 : chkB cX0_coverOn LX0_coverOn_1 = true := by decide +kernel
theorem dX0_coverOn_20 : decode cX0_coverOn 20 = .ok (.ireturn, 1) := getB' kX0_coverOn_1 0 rfl
def LX0_carries_0 : List (Nat × Instr × Nat) := [(0, .aload_n 0, 1), (1, .getfield 31, 3), (4, .iload_n 1, 1), (5, .invokestatic 58, 3), (8, .ifCond .ne 19, 3), (11, .aload_n 0, 1), (12, .getfield 34, 3), (15, .iload_n 1, 1), (16, .invokestatic 58, 3), (19, .iconst (-1), 1), (20, .if_icmp .eq 7, 3), (23, .iconst 1, 1)]
theorem kX0_carries_0 : chkB cX0_carries LX0_carries_0 = true := by decide +kernel
theorem dX0_carries_0 : decode cX0_carries 0 = .ok (.aload_n 0, 1) := getB' kX0_carries_0 0 rfl
theorem dX0_carries_1 : decode cX0_carries 1 = .ok (.getfield 31, 3) := getB' kX0_carries_0 1 rfl
theorem dX0_carries_4 : decode cX0_carries 4 = .ok (.iload_n 1, 1) := getB' kX0_carries_0 2 rfl
theorem dX0_carries_5 : decode cX0_carries 5 = .ok (.invokestatic 58, 3) := getB' kX0_carries_0 3 rfl
theorem dX0_carries_8 : decode cX0_carries 8 = .ok (.ifCond .ne 19, 3) := getB' kX0_carries_0 4 rfl
theorem dX0_carries_11 : decode cX0_carries 11 = .ok (.aload_n 0, 1) := getB' kX0_carries_0 5 rfl
theorem dX0_carries_12 : decode cX0_carries 12 = .ok (.getfield 34, 3) := getB' kX0_carries_0 6 rfl
theorem dX0_carries_15 : decode cX0_carries 15 = .ok (.iload_n 1, 1) := getB' kX0_carries_0 7 rfl
theorem dX0_carries_16 : decode cX0_carries 16 = .ok (.invokestatic 58, 3) := getB' kX0_carries_0 8 rfl
theorem dX0_carries_19 : decode cX0_carries 19 = .ok (.iconst (-1), 1) := getB' kX0_carries_0 9 rfl
theorem dX0_carries_20 : decode cX0_carries 20 = .ok (.if_icmp .eq 7, 3) := getB' kX0_carries_0 10 rfl
theorem dX0_carries_23 : decode cX0_carries 23 = .ok (.iconst 1, 1) := getB' kX0_carries_0 11 rfl
def LX0_carries_1 : List (Nat × Instr × Nat) := [(24, .goto 4, 3), (27, .iconst 0, 1), (28, .istore_n 3, 1), (29, .iload_n 3, 1), (30, .ifCond .eq 19, 3), (33, .iload_n 2, 1), (34, .aload_n 0, 1), (35, .getfield 37, 3), (38, .iload_n 1, 1), (39, .invokestatic 58, 3), (42, .if_icmp .lt 7, 3), (45, .iconst 1, 1)]
theorem kX0_carries_1 : chkB cX0_carries LX0_carries_1 = true := by decide +kernel
theorem dX0_carries_24 : decode cX0_carries 24 = .ok (.goto 4, 3) := getB' kX0_carries_1 0 rfl
theorem dX0_carries_27 : decode cX0_carries 27 = .ok (.iconst 0, 1) := getB' kX0_carries_1 1 rfl
theorem dX0_carries_28 : decode cX0_carries 28 = .ok (.istore_n 3, 1) := getB' kX0_carries_1 2 rfl
theorem dX0_carries_29 : decode cX0_carries 29 = .ok (.iload_n 3, 1) := getB' kX0_carries_1 3 rfl
theorem dX0_carries_30 : decode cX0_carries 30 = .ok (.ifCond .eq 19, 3) := getB' kX0_carries_1 4 rfl
theorem dX0_carries_33 : decode cX0_carries 33 = .ok (.iload_n 2, 1) := getB' kX0_carries_1 5 rfl
theorem dX0_carries_34 : decode cX0_carries 34 = .ok (.aload_n 0, 1) := getB' kX0_carries_1 6 rfl
theorem dX0_carries_35 : decode cX0_carries 35 = .ok (.getfield 37, 3) := getB' kX0_carries_1 7 rfl
theorem dX0_carries_38 : decode cX0_carries 38 = .ok (.iload_n 1, 1) := getB' kX0_carries_1 8 rfl
theorem dX0_carries_39 : decode cX0_carries 39 = .ok (.invokestatic 58, 3) := getB' kX0_carries_1 9 rfl
theorem dX0_carries_42 : decode cX0_carries 42 = .ok (.if_icmp .lt 7, 3) := getB' kX0_carries_1 10 rfl
theorem dX0_carries_45 : decode cX0_carries 45 = .ok (.iconst 1, 1) := getB' kX0_carries_1 11 rfl
def LX0_carries_2 : List (Nat × Instr × Nat) := [(46, .goto 4, 3), (49, .iconst 0, 1), (50, .ireturn, 1)]
theorem kX0_carries_2 : chkB cX0_carries LX0_carries_2 = true := by decide +kernel
theorem dX0_carries_46 : decode cX0_carries 46 = .ok (.goto 4, 3) := getB' kX0_carries_2 0 rfl
theorem dX0_carries_49 : decode cX0_carries 49 = .ok (.iconst 0, 1) := getB' kX0_carries_2 1 rfl
theorem dX0_carries_50 : decode cX0_carries 50 = .ok (.ireturn, 1) := getB' kX0_carries_2 2 rfl
def LX0_leastDays_0 : List (Nat × Instr × Nat) := [(0, .aload_n 0, 1), (1, .getfield 46, 3), (4, .iconst (-1), 1), (5, .invokestatic 52, 3), (8, .aload_n 0, 1), (9, .getfield 49, 3), (12, .iconst 0, 1), (13, .invokestatic 52, 3), (16, .aload_n 0, 1), (17, .getfield 46, 3), (20, .iload_n 1, 1), (21, .iconst 0, 1)]
theorem kX0_leastDays_0 : chkB cX0_leastDays LX0_leastDays_0 = true := by decide +kernel
theorem dX0_leastDays_0 : decode cX0_leastDays 0 = .ok (.aload_n 0, 1) := getB' kX0_leastDays_0 0 rfl
theorem dX0_leastDays_1 : decode cX0_leastDays 1 = .ok (.getfield 46, 3) := getB' kX0_leastDays_0 1 rfl
theorem dX0_leastDays_4 : decode cX0_leastDays 4 = .ok (.iconst (-1), 1) := getB' kX0_leastDays_0 2 rfl
theorem dX0_leastDays_5 : decode cX0_leastDays 5 = .ok (.invokestatic 52, 3) := getB' kX0_leastDays_0 3 rfl
theorem dX0_leastDays_8 : decode cX0_leastDays 8 = .ok (.aload_n 0, 1) := getB' kX0_leastDays_0 4 rfl
theorem dX0_leastDays_9 : decode cX0_leastDays 9 = .ok (.getfield 49, 3) := getB' kX0_leastDays_0 5 rfl
theorem dX0_leastDays_12 : decode cX0_leastDays 12 = .ok (.iconst 0, 1) := getB' kX0_leastDays_0 6 rfl
theorem dX0_leastDays_13 : decode cX0_leastDays 13 = .ok (.invokestatic 52, 3) := getB' kX0_leastDays_0 7 rfl
theorem dX0_leastDays_16 : decode cX0_leastDays 16 = .ok (.aload_n 0, 1) := getB' kX0_leastDays_0 8 rfl
theorem dX0_leastDays_17 : decode cX0_leastDays 17 = .ok (.getfield 46, 3) := getB' kX0_leastDays_0 9 rfl
theorem dX0_leastDays_20 : decode cX0_leastDays 20 = .ok (.iload_n 1, 1) := getB' kX0_leastDays_0 10 rfl
theorem dX0_leastDays_21 : decode cX0_leastDays 21 = .ok (.iconst 0, 1) := getB' kX0_leastDays_0 11 rfl
def LX0_leastDays_1 : List (Nat × Instr × Nat) := [(22, .invokestatic 95, 3), (25, .iconst 0, 1), (26, .istore_n 3, 1), (27, .iload_n 3, 1), (28, .sipush 144, 3), (31, .if_icmp .ge 70, 3), (34, .aload_n 0, 1), (35, .invokevirtual 99, 3), (38, .istore 4, 2), (40, .iload 4, 2), (42, .iconst (-1), 1), (43, .if_icmp .eq 58, 3)]
theorem kX0_leastDays_1 : chkB cX0_leastDays LX0_leastDays_1 = true := by decide +kernel
theorem dX0_leastDays_22 : decode cX0_leastDays 22 = .ok (.invokestatic 95, 3) := getB' kX0_leastDays_1 0 rfl
theorem dX0_leastDays_25 : decode cX0_leastDays 25 = .ok (.iconst 0, 1) := getB' kX0_leastDays_1 1 rfl
theorem dX0_leastDays_26 : decode cX0_leastDays 26 = .ok (.istore_n 3, 1) := getB' kX0_leastDays_1 2 rfl
theorem dX0_leastDays_27 : decode cX0_leastDays 27 = .ok (.iload_n 3, 1) := getB' kX0_leastDays_1 3 rfl
theorem dX0_leastDays_28 : decode cX0_leastDays 28 = .ok (.sipush 144, 3) := getB' kX0_leastDays_1 4 rfl
theorem dX0_leastDays_31 : decode cX0_leastDays 31 = .ok (.if_icmp .ge 70, 3) := getB' kX0_leastDays_1 5 rfl
theorem dX0_leastDays_34 : decode cX0_leastDays 34 = .ok (.aload_n 0, 1) := getB' kX0_leastDays_1 6 rfl
theorem dX0_leastDays_35 : decode cX0_leastDays 35 = .ok (.invokevirtual 99, 3) := getB' kX0_leastDays_1 7 rfl
theorem dX0_leastDays_38 : decode cX0_leastDays 38 = .ok (.istore 4, 2) := getB' kX0_leastDays_1 8 rfl
theorem dX0_leastDays_40 : decode cX0_leastDays 40 = .ok (.iload 4, 2) := getB' kX0_leastDays_1 9 rfl
theorem dX0_leastDays_42 : decode cX0_leastDays 42 = .ok (.iconst (-1), 1) := getB' kX0_leastDays_1 10 rfl
theorem dX0_leastDays_43 : decode cX0_leastDays 43 = .ok (.if_icmp .eq 58, 3) := getB' kX0_leastDays_1 11 rfl
def LX0_leastDays_2 : List (Nat × Instr × Nat) := [(46, .iload 4, 2), (48, .iload_n 2, 1), (49, .if_icmp .ne 6, 3), (52, .goto 49, 3), (55, .aload_n 0, 1), (56, .getfield 49, 3), (59, .iload 4, 2), (61, .iconst 1, 1), (62, .invokestatic 95, 3), (65, .iconst 0, 1), (66, .istore 5, 2), (68, .iload 5, 2)]
theorem kX0_leastDays_2 : chkB cX0_leastDays LX0_leastDays_2 = true := by decide +kernel
theorem dX0_leastDays_46 : decode cX0_leastDays 46 = .ok (.iload 4, 2) := getB' kX0_leastDays_2 0 rfl
theorem dX0_leastDays_48 : decode cX0_leastDays 48 = .ok (.iload_n 2, 1) := getB' kX0_leastDays_2 1 rfl
theorem dX0_leastDays_49 : decode cX0_leastDays 49 = .ok (.if_icmp .ne 6, 3) := getB' kX0_leastDays_2 2 rfl
theorem dX0_leastDays_52 : decode cX0_leastDays 52 = .ok (.goto 49, 3) := getB' kX0_leastDays_2 3 rfl
theorem dX0_leastDays_55 : decode cX0_leastDays 55 = .ok (.aload_n 0, 1) := getB' kX0_leastDays_2 4 rfl
theorem dX0_leastDays_56 : decode cX0_leastDays 56 = .ok (.getfield 49, 3) := getB' kX0_leastDays_2 5 rfl
theorem dX0_leastDays_59 : decode cX0_leastDays 59 = .ok (.iload 4, 2) := getB' kX0_leastDays_2 6 rfl
theorem dX0_leastDays_61 : decode cX0_leastDays 61 = .ok (.iconst 1, 1) := getB' kX0_leastDays_2 7 rfl
theorem dX0_leastDays_62 : decode cX0_leastDays 62 = .ok (.invokestatic 95, 3) := getB' kX0_leastDays_2 8 rfl
theorem dX0_leastDays_65 : decode cX0_leastDays 65 = .ok (.iconst 0, 1) := getB' kX0_leastDays_2 9 rfl
theorem dX0_leastDays_66 : decode cX0_leastDays 66 = .ok (.istore 5, 2) := getB' kX0_leastDays_2 10 rfl
theorem dX0_leastDays_68 : decode cX0_leastDays 68 = .ok (.iload 5, 2) := getB' kX0_leastDays_2 11 rfl
def LX0_leastDays_3 : List (Nat × Instr × Nat) := [(70, .bipush 8, 2), (72, .if_icmp .ge 23, 3), (75, .aload_n 0, 1), (76, .iload 4, 2), (78, .aload_n 0, 1), (79, .iload 4, 2), (81, .iload 5, 2), (83, .invokevirtual 92, 3), (86, .invokevirtual 103, 3), (89, .iinc 5 1, 3), (92, .goto (-24), 3), (95, .iinc 3 1, 3)]
theorem kX0_leastDays_3 : chkB cX0_leastDays LX0_leastDays_3 = true := by decide +kernel
theorem dX0_leastDays_70 : decode cX0_leastDays 70 = .ok (.bipush 8, 2) := getB' kX0_leastDays_3 0 rfl
theorem dX0_leastDays_72 : decode cX0_leastDays 72 = .ok (.if_icmp .ge 23, 3) := getB' kX0_leastDays_3 1 rfl
theorem dX0_leastDays_75 : decode cX0_leastDays 75 = .ok (.aload_n 0, 1) := getB' kX0_leastDays_3 2 rfl
theorem dX0_leastDays_76 : decode cX0_leastDays 76 = .ok (.iload 4, 2) := getB' kX0_leastDays_3 3 rfl
theorem dX0_leastDays_78 : decode cX0_leastDays 78 = .ok (.aload_n 0, 1) := getB' kX0_leastDays_3 4 rfl
theorem dX0_leastDays_79 : decode cX0_leastDays 79 = .ok (.iload 4, 2) := getB' kX0_leastDays_3 5 rfl
theorem dX0_leastDays_81 : decode cX0_leastDays 81 = .ok (.iload 5, 2) := getB' kX0_leastDays_3 6 rfl
theorem dX0_leastDays_83 : decode cX0_leastDays 83 = .ok (.invokevirtual 92, 3) := getB' kX0_leastDays_3 7 rfl
theorem dX0_leastDays_86 : decode cX0_leastDays 86 = .ok (.invokevirtual 103, 3) := getB' kX0_leastDays_3 8 rfl
theorem dX0_leastDays_89 : decode cX0_leastDays 89 = .ok (.iinc 5 1, 3) := getB' kX0_leastDays_3 9 rfl
theorem dX0_leastDays_92 : decode cX0_leastDays 92 = .ok (.goto (-24), 3) := getB' kX0_leastDays_3 10 rfl
theorem dX0_leastDays_95 : decode cX0_leastDays 95 = .ok (.iinc 3 1, 3) := getB' kX0_leastDays_3 11 rfl
def LX0_leastDays_4 : List (Nat × Instr × Nat) := [(98, .goto (-71), 3), (101, .aload_n 0, 1), (102, .iload_n 2, 1), (103, .invokevirtual 62, 3), (106, .ifCond .eq 14, 3), (109, .aload_n 0, 1), (110, .getfield 46, 3), (113, .iload_n 2, 1), (114, .invokestatic 58, 3), (117, .goto 4, 3), (120, .iconst (-1), 1), (121, .ireturn, 1)]
theorem kX0_leastDays_4 : chkB cX0_leastDays LX0_leastDays_4 = true := by decide +kernel
theorem dX0_leastDays_98 : decode cX0_leastDays 98 = .ok (.goto (-71), 3) := getB' kX0_leastDays_4 0 rfl
theorem dX0_leastDays_101 : decode cX0_leastDays 101 = .ok (.aload_n 0, 1) := getB' kX0_leastDays_4 1 rfl
theorem dX0_leastDays_102 : decode cX0_leastDays 102 = .ok (.iload_n 2, 1) := getB' kX0_leastDays_4 2 rfl
theorem dX0_leastDays_103 : decode cX0_leastDays 103 = .ok (.invokevirtual 62, 3) := getB' kX0_leastDays_4 3 rfl
theorem dX0_leastDays_106 : decode cX0_leastDays 106 = .ok (.ifCond .eq 14, 3) := getB' kX0_leastDays_4 4 rfl
theorem dX0_leastDays_109 : decode cX0_leastDays 109 = .ok (.aload_n 0, 1) := getB' kX0_leastDays_4 5 rfl
theorem dX0_leastDays_110 : decode cX0_leastDays 110 = .ok (.getfield 46, 3) := getB' kX0_leastDays_4 6 rfl
theorem dX0_leastDays_113 : decode cX0_leastDays 113 = .ok (.iload_n 2, 1) := getB' kX0_leastDays_4 7 rfl
theorem dX0_leastDays_114 : decode cX0_leastDays 114 = .ok (.invokestatic 58, 3) := getB' kX0_leastDays_4 8 rfl
theorem dX0_leastDays_117 : decode cX0_leastDays 117 = .ok (.goto 4, 3) := getB' kX0_leastDays_4 9 rfl
theorem dX0_leastDays_120 : decode cX0_leastDays 120 = .ok (.iconst (-1), 1) := getB' kX0_leastDays_4 10 rfl
theorem dX0_leastDays_121 : decode cX0_leastDays 121 = .ok (.ireturn, 1) := getB' kX0_leastDays_4 11 rfl
def LX0_nearestOpen_0 : List (Nat × Instr × Nat) := [(0, .iconst (-1), 1), (1, .istore_n 1, 1), (2, .iconst 0, 1), (3, .istore_n 2, 1), (4, .iload_n 2, 1), (5, .aload_n 0, 1), (6, .getfield 21, 3), (9, .aload_n 0, 1), (10, .getfield 24, 3), (13, .imul, 1), (14, .if_icmp .ge 65, 3), (17, .aload_n 0, 1)]
theorem kX0_nearestOpen_0 : chkB cX0_nearestOpen LX0_nearestOpen_0 = true := by decide +kernel
theorem dX0_nearestOpen_0 : decode cX0_nearestOpen 0 = .ok (.iconst (-1), 1) := getB' kX0_nearestOpen_0 0 rfl
theorem dX0_nearestOpen_1 : decode cX0_nearestOpen 1 = .ok (.istore_n 1, 1) := getB' kX0_nearestOpen_0 1 rfl
theorem dX0_nearestOpen_2 : decode cX0_nearestOpen 2 = .ok (.iconst 0, 1) := getB' kX0_nearestOpen_0 2 rfl
theorem dX0_nearestOpen_3 : decode cX0_nearestOpen 3 = .ok (.istore_n 2, 1) := getB' kX0_nearestOpen_0 3 rfl
theorem dX0_nearestOpen_4 : decode cX0_nearestOpen 4 = .ok (.iload_n 2, 1) := getB' kX0_nearestOpen_0 4 rfl
theorem dX0_nearestOpen_5 : decode cX0_nearestOpen 5 = .ok (.aload_n 0, 1) := getB' kX0_nearestOpen_0 5 rfl
theorem dX0_nearestOpen_6 : decode cX0_nearestOpen 6 = .ok (.getfield 21, 3) := getB' kX0_nearestOpen_0 6 rfl
theorem dX0_nearestOpen_9 : decode cX0_nearestOpen 9 = .ok (.aload_n 0, 1) := getB' kX0_nearestOpen_0 7 rfl
theorem dX0_nearestOpen_10 : decode cX0_nearestOpen 10 = .ok (.getfield 24, 3) := getB' kX0_nearestOpen_0 8 rfl
theorem dX0_nearestOpen_13 : decode cX0_nearestOpen 13 = .ok (.imul, 1) := getB' kX0_nearestOpen_0 9 rfl
theorem dX0_nearestOpen_14 : decode cX0_nearestOpen 14 = .ok (.if_icmp .ge 65, 3) := getB' kX0_nearestOpen_0 10 rfl
theorem dX0_nearestOpen_17 : decode cX0_nearestOpen 17 = .ok (.aload_n 0, 1) := getB' kX0_nearestOpen_0 11 rfl
def LX0_nearestOpen_1 : List (Nat × Instr × Nat) := [(18, .getfield 46, 3), (21, .iload_n 2, 1), (22, .invokestatic 58, 3), (25, .istore_n 3, 1), (26, .iload_n 3, 1), (27, .iconst (-1), 1), (28, .if_icmp .eq 18, 3), (31, .aload_n 0, 1), (32, .getfield 49, 3), (35, .iload_n 2, 1), (36, .invokestatic 58, 3), (39, .ifCond .ne 7, 3)]
theorem kX0_nearestOpen_1 : chkB cX0_nearestOpen LX0_nearestOpen_1 = true := by decide +kernel
theorem dX0_nearestOpen_18 : decode cX0_nearestOpen 18 = .ok (.getfield 46, 3) := getB' kX0_nearestOpen_1 0 rfl
theorem dX0_nearestOpen_21 : decode cX0_nearestOpen 21 = .ok (.iload_n 2, 1) := getB' kX0_nearestOpen_1 1 rfl
theorem dX0_nearestOpen_22 : decode cX0_nearestOpen 22 = .ok (.invokestatic 58, 3) := getB' kX0_nearestOpen_1 2 rfl
theorem dX0_nearestOpen_25 : decode cX0_nearestOpen 25 = .ok (.istore_n 3, 1) := getB' kX0_nearestOpen_1 3 rfl
theorem dX0_nearestOpen_26 : decode cX0_nearestOpen 26 = .ok (.iload_n 3, 1) := getB' kX0_nearestOpen_1 4 rfl
theorem dX0_nearestOpen_27 : decode cX0_nearestOpen 27 = .ok (.iconst (-1), 1) := getB' kX0_nearestOpen_1 5 rfl
theorem dX0_nearestOpen_28 : decode cX0_nearestOpen 28 = .ok (.if_icmp .eq 18, 3) := getB' kX0_nearestOpen_1 6 rfl
theorem dX0_nearestOpen_31 : decode cX0_nearestOpen 31 = .ok (.aload_n 0, 1) := getB' kX0_nearestOpen_1 7 rfl
theorem dX0_nearestOpen_32 : decode cX0_nearestOpen 32 = .ok (.getfield 49, 3) := getB' kX0_nearestOpen_1 8 rfl
theorem dX0_nearestOpen_35 : decode cX0_nearestOpen 35 = .ok (.iload_n 2, 1) := getB' kX0_nearestOpen_1 9 rfl
theorem dX0_nearestOpen_36 : decode cX0_nearestOpen 36 = .ok (.invokestatic 58, 3) := getB' kX0_nearestOpen_1 10 rfl
theorem dX0_nearestOpen_39 : decode cX0_nearestOpen 39 = .ok (.ifCond .ne 7, 3) := getB' kX0_nearestOpen_1 11 rfl
def LX0_nearestOpen_2 : List (Nat × Instr × Nat) := [(42, .iconst 1, 1), (43, .goto 4, 3), (46, .iconst 0, 1), (47, .istore 4, 2), (49, .iload 4, 2), (51, .ifCond .eq 22, 3), (54, .iload_n 1, 1), (55, .iconst (-1), 1), (56, .if_icmp .eq 15, 3), (59, .iload_n 3, 1), (60, .aload_n 0, 1), (61, .getfield 46, 3)]
theorem kX0_nearestOpen_2 : chkB cX0_nearestOpen LX0_nearestOpen_2 = true := by decide +kernel
theorem dX0_nearestOpen_42 : decode cX0_nearestOpen 42 = .ok (.iconst 1, 1) := getB' kX0_nearestOpen_2 0 rfl
theorem dX0_nearestOpen_43 : decode cX0_nearestOpen 43 = .ok (.goto 4, 3) := getB' kX0_nearestOpen_2 1 rfl
theorem dX0_nearestOpen_46 : decode cX0_nearestOpen 46 = .ok (.iconst 0, 1) := getB' kX0_nearestOpen_2 2 rfl
theorem dX0_nearestOpen_47 : decode cX0_nearestOpen 47 = .ok (.istore 4, 2) := getB' kX0_nearestOpen_2 3 rfl
theorem dX0_nearestOpen_49 : decode cX0_nearestOpen 49 = .ok (.iload 4, 2) := getB' kX0_nearestOpen_2 4 rfl
theorem dX0_nearestOpen_51 : decode cX0_nearestOpen 51 = .ok (.ifCond .eq 22, 3) := getB' kX0_nearestOpen_2 5 rfl
theorem dX0_nearestOpen_54 : decode cX0_nearestOpen 54 = .ok (.iload_n 1, 1) := getB' kX0_nearestOpen_2 6 rfl
theorem dX0_nearestOpen_55 : decode cX0_nearestOpen 55 = .ok (.iconst (-1), 1) := getB' kX0_nearestOpen_2 7 rfl
theorem dX0_nearestOpen_56 : decode cX0_nearestOpen 56 = .ok (.if_icmp .eq 15, 3) := getB' kX0_nearestOpen_2 8 rfl
theorem dX0_nearestOpen_59 : decode cX0_nearestOpen 59 = .ok (.iload_n 3, 1) := getB' kX0_nearestOpen_2 9 rfl
theorem dX0_nearestOpen_60 : decode cX0_nearestOpen 60 = .ok (.aload_n 0, 1) := getB' kX0_nearestOpen_2 10 rfl
theorem dX0_nearestOpen_61 : decode cX0_nearestOpen 61 = .ok (.getfield 46, 3) := getB' kX0_nearestOpen_2 11 rfl
def LX0_nearestOpen_3 : List (Nat × Instr × Nat) := [(64, .iload_n 1, 1), (65, .invokestatic 58, 3), (68, .if_icmp .ge 5, 3), (71, .iload_n 2, 1), (72, .istore_n 1, 1), (73, .iinc 2 1, 3), (76, .goto (-72), 3), (79, .iload_n 1, 1), (80, .ireturn, 1)]
theorem kX0_nearestOpen_3 : chkB cX0_nearestOpen LX0_nearestOpen_3 = true := by decide +kernel
theorem dX0_nearestOpen_64 : decode cX0_nearestOpen 64 = .ok (.iload_n 1, 1) := getB' kX0_nearestOpen_3 0 rfl
theorem dX0_nearestOpen_65 : decode cX0_nearestOpen 65 = .ok (.invokestatic 58, 3) := getB' kX0_nearestOpen_3 1 rfl
theorem dX0_nearestOpen_68 : decode cX0_nearestOpen 68 = .ok (.if_icmp .ge 5, 3) := getB' kX0_nearestOpen_3 2 rfl
theorem dX0_nearestOpen_71 : decode cX0_nearestOpen 71 = .ok (.iload_n 2, 1) := getB' kX0_nearestOpen_3 3 rfl
theorem dX0_nearestOpen_72 : decode cX0_nearestOpen 72 = .ok (.istore_n 1, 1) := getB' kX0_nearestOpen_3 4 rfl
theorem dX0_nearestOpen_73 : decode cX0_nearestOpen 73 = .ok (.iinc 2 1, 3) := getB' kX0_nearestOpen_3 5 rfl
theorem dX0_nearestOpen_76 : decode cX0_nearestOpen 76 = .ok (.goto (-72), 3) := getB' kX0_nearestOpen_3 6 rfl
theorem dX0_nearestOpen_79 : decode cX0_nearestOpen 79 = .ok (.iload_n 1, 1) := getB' kX0_nearestOpen_3 7 rfl
theorem dX0_nearestOpen_80 : decode cX0_nearestOpen 80 = .ok (.ireturn, 1) := getB' kX0_nearestOpen_3 8 rfl
def LX0_step_0 : List (Nat × Instr × Nat) := [(0, .aload_n 0, 1), (1, .iload_n 2, 1), (2, .invokevirtual 107, 3), (5, .ifCond .ne 4, 3), (8, .return_, 1), (9, .aload_n 0, 1), (10, .getfield 27, 3), (13, .iload_n 1, 1), (14, .invokestatic 58, 3), (17, .aload_n 0, 1), (18, .getfield 27, 3), (21, .iload_n 2, 1)]
theorem kX0_step_0 : chkB cX0_step LX0_step_0 = true := by decide +kernel
theorem dX0_step_0 : decode cX0_step 0 = .ok (.aload_n 0, 1) := getB' kX0_step_0 0 rfl
theorem dX0_step_1 : decode cX0_step 1 = .ok (.iload_n 2, 1) := getB' kX0_step_0 1 rfl
theorem dX0_step_2 : decode cX0_step 2 = .ok (.invokevirtual 107, 3) := getB' kX0_step_0 2 rfl
theorem dX0_step_5 : decode cX0_step 5 = .ok (.ifCond .ne 4, 3) := getB' kX0_step_0 3 rfl
theorem dX0_step_8 : decode cX0_step 8 = .ok (.return_, 1) := getB' kX0_step_0 4 rfl
theorem dX0_step_9 : decode cX0_step 9 = .ok (.aload_n 0, 1) := getB' kX0_step_0 5 rfl
theorem dX0_step_10 : decode cX0_step 10 = .ok (.getfield 27, 3) := getB' kX0_step_0 6 rfl
theorem dX0_step_13 : decode cX0_step 13 = .ok (.iload_n 1, 1) := getB' kX0_step_0 7 rfl
theorem dX0_step_14 : decode cX0_step 14 = .ok (.invokestatic 58, 3) := getB' kX0_step_0 8 rfl
theorem dX0_step_17 : decode cX0_step 17 = .ok (.aload_n 0, 1) := getB' kX0_step_0 9 rfl
theorem dX0_step_18 : decode cX0_step 18 = .ok (.getfield 27, 3) := getB' kX0_step_0 10 rfl
theorem dX0_step_21 : decode cX0_step 21 = .ok (.iload_n 2, 1) := getB' kX0_step_0 11 rfl
def LX0_step_1 : List (Nat × Instr × Nat) := [(22, .invokestatic 58, 3), (25, .isub, 1), (26, .invokestatic 70, 3), (29, .istore_n 3, 1), (30, .aload_n 0, 1), (31, .getfield 46, 3), (34, .iload_n 1, 1), (35, .invokestatic 58, 3), (38, .iconst 1, 1), (39, .iadd, 1), (40, .iload_n 3, 1), (41, .iadd, 1)]
theorem kX0_step_1 : chkB cX0_step LX0_step_1 = true := by decide +kernel
theorem dX0_step_22 : decode cX0_step 22 = .ok (.invokestatic 58, 3) := getB' kX0_step_1 0 rfl
theorem dX0_step_25 : decode cX0_step 25 = .ok (.isub, 1) := getB' kX0_step_1 1 rfl
theorem dX0_step_26 : decode cX0_step 26 = .ok (.invokestatic 70, 3) := getB' kX0_step_1 2 rfl
theorem dX0_step_29 : decode cX0_step 29 = .ok (.istore_n 3, 1) := getB' kX0_step_1 3 rfl
theorem dX0_step_30 : decode cX0_step 30 = .ok (.aload_n 0, 1) := getB' kX0_step_1 4 rfl
theorem dX0_step_31 : decode cX0_step 31 = .ok (.getfield 46, 3) := getB' kX0_step_1 5 rfl
theorem dX0_step_34 : decode cX0_step 34 = .ok (.iload_n 1, 1) := getB' kX0_step_1 6 rfl
theorem dX0_step_35 : decode cX0_step 35 = .ok (.invokestatic 58, 3) := getB' kX0_step_1 7 rfl
theorem dX0_step_38 : decode cX0_step 38 = .ok (.iconst 1, 1) := getB' kX0_step_1 8 rfl
theorem dX0_step_39 : decode cX0_step 39 = .ok (.iadd, 1) := getB' kX0_step_1 9 rfl
theorem dX0_step_40 : decode cX0_step 40 = .ok (.iload_n 3, 1) := getB' kX0_step_1 10 rfl
theorem dX0_step_41 : decode cX0_step 41 = .ok (.iadd, 1) := getB' kX0_step_1 11 rfl
def LX0_step_2 : List (Nat × Instr × Nat) := [(42, .istore 4, 2), (44, .aload_n 0, 1), (45, .getfield 46, 3), (48, .iload_n 2, 1), (49, .invokestatic 58, 3), (52, .iconst (-1), 1), (53, .if_icmp .eq 16, 3), (56, .iload 4, 2), (58, .aload_n 0, 1), (59, .getfield 46, 3), (62, .iload_n 2, 1), (63, .invokestatic 58, 3)]
theorem kX0_step_2 : chkB cX0_step LX0_step_2 = true := by decide +kernel
theorem dX0_step_42 : decode cX0_step 42 = .ok (.istore 4, 2) := getB' kX0_step_2 0 rfl
theorem dX0_step_44 : decode cX0_step 44 = .ok (.aload_n 0, 1) := getB' kX0_step_2 1 rfl
theorem dX0_step_45 : decode cX0_step 45 = .ok (.getfield 46, 3) := getB' kX0_step_2 2 rfl
theorem dX0_step_48 : decode cX0_step 48 = .ok (.iload_n 2, 1) := getB' kX0_step_2 3 rfl
theorem dX0_step_49 : decode cX0_step 49 = .ok (.invokestatic 58, 3) := getB' kX0_step_2 4 rfl
theorem dX0_step_52 : decode cX0_step 52 = .ok (.iconst (-1), 1) := getB' kX0_step_2 5 rfl
theorem dX0_step_53 : decode cX0_step 53 = .ok (.if_icmp .eq 16, 3) := getB' kX0_step_2 6 rfl
theorem dX0_step_56 : decode cX0_step 56 = .ok (.iload 4, 2) := getB' kX0_step_2 7 rfl
theorem dX0_step_58 : decode cX0_step 58 = .ok (.aload_n 0, 1) := getB' kX0_step_2 8 rfl
theorem dX0_step_59 : decode cX0_step 59 = .ok (.getfield 46, 3) := getB' kX0_step_2 9 rfl
theorem dX0_step_62 : decode cX0_step 62 = .ok (.iload_n 2, 1) := getB' kX0_step_2 10 rfl
theorem dX0_step_63 : decode cX0_step 63 = .ok (.invokestatic 58, 3) := getB' kX0_step_2 11 rfl
def LX0_step_3 : List (Nat × Instr × Nat) := [(66, .if_icmp .ge 13, 3), (69, .aload_n 0, 1), (70, .getfield 46, 3), (73, .iload_n 2, 1), (74, .iload 4, 2), (76, .invokestatic 95, 3), (79, .return_, 1)]
theorem kX0_step_3 : chkB cX0_step LX0_step_3 = true := by decide +kernel
theorem dX0_step_66 : decode cX0_step 66 = .ok (.if_icmp .ge 13, 3) := getB' kX0_step_3 0 rfl
theorem dX0_step_69 : decode cX0_step 69 = .ok (.aload_n 0, 1) := getB' kX0_step_3 1 rfl
theorem dX0_step_70 : decode cX0_step 70 = .ok (.getfield 46, 3) := getB' kX0_step_3 2 rfl
theorem dX0_step_73 : decode cX0_step 73 = .ok (.iload_n 2, 1) := getB' kX0_step_3 3 rfl
theorem dX0_step_74 : decode cX0_step 74 = .ok (.iload 4, 2) := getB' kX0_step_3 4 rfl
theorem dX0_step_76 : decode cX0_step 76 = .ok (.invokestatic 95, 3) := getB' kX0_step_3 5 rfl
theorem dX0_step_79 : decode cX0_step 79 = .ok (.return_, 1) := getB' kX0_step_3 6 rfl
def LX1_textOf_0 : List (Nat × Instr × Nat) := [(0, .iload_n 1, 1), (1, .ifCond .lt 29, 3), (4, .iload_n 1, 1), (5, .aload_n 0, 1), (6, .getfield 17, 3), (9, .if_icmp .ge 21, 3), (12, .iload_n 1, 1), (13, .aload_n 0, 1), (14, .getfield 11, 3), (17, .arraylength, 1), (18, .if_icmp .ge 12, 3), (21, .aload_n 0, 1)]
theorem kX1_textOf_0 : chkB cX1_textOf LX1_textOf_0 = true := by decide +kernel
theorem dX1_textOf_0 : decode cX1_textOf 0 = .ok (.iload_n 1, 1) := getB' kX1_textOf_0 0 rfl
theorem dX1_textOf_1 : decode cX1_textOf 1 = .ok (.ifCond .lt 29, 3) := getB' kX1_textOf_0 1 rfl
theorem dX1_textOf_4 : decode cX1_textOf 4 = .ok (.iload_n 1, 1) := getB' kX1_textOf_0 2 rfl
theorem dX1_textOf_5 : decode cX1_textOf 5 = .ok (.aload_n 0, 1) := getB' kX1_textOf_0 3 rfl
theorem dX1_textOf_6 : decode cX1_textOf 6 = .ok (.getfield 17, 3) := getB' kX1_textOf_0 4 rfl
theorem dX1_textOf_9 : decode cX1_textOf 9 = .ok (.if_icmp .ge 21, 3) := getB' kX1_textOf_0 5 rfl
theorem dX1_textOf_12 : decode cX1_textOf 12 = .ok (.iload_n 1, 1) := getB' kX1_textOf_0 6 rfl
theorem dX1_textOf_13 : decode cX1_textOf 13 = .ok (.aload_n 0, 1) := getB' kX1_textOf_0 7 rfl
theorem dX1_textOf_14 : decode cX1_textOf 14 = .ok (.getfield 11, 3) := getB' kX1_textOf_0 8 rfl
theorem dX1_textOf_17 : decode cX1_textOf 17 = .ok (.arraylength, 1) := getB' kX1_textOf_0 9 rfl
theorem dX1_textOf_18 : decode cX1_textOf 18 = .ok (.if_icmp .ge 12, 3) := getB' kX1_textOf_0 10 rfl
theorem dX1_textOf_21 : decode cX1_textOf 21 = .ok (.aload_n 0, 1) := getB' kX1_textOf_0 11 rfl
def LX1_textOf_1 : List (Nat × Instr × Nat) := [(22, .getfield 11, 3), (25, .iload_n 1, 1), (26, .aaload, 1), (27, .goto 4, 3), (30, .aconst_null, 1), (31, .areturn, 1)]
theorem kX1_textOf_1 : chkB cX1_textOf LX1_textOf_1 = true := by decide +kernel
theorem dX1_textOf_22 : decode cX1_textOf 22 = .ok (.getfield 11, 3) := getB' kX1_textOf_1 0 rfl
theorem dX1_textOf_25 : decode cX1_textOf 25 = .ok (.iload_n 1, 1) := getB' kX1_textOf_1 1 rfl
theorem dX1_textOf_26 : decode cX1_textOf 26 = .ok (.aaload, 1) := getB' kX1_textOf_1 2 rfl
theorem dX1_textOf_27 : decode cX1_textOf 27 = .ok (.goto 4, 3) := getB' kX1_textOf_1 3 rfl
theorem dX1_textOf_30 : decode cX1_textOf 30 = .ok (.aconst_null, 1) := getB' kX1_textOf_1 4 rfl
theorem dX1_textOf_31 : decode cX1_textOf 31 = .ok (.areturn, 1) := getB' kX1_textOf_1 5 rfl
def LX1_addText_0 : List (Nat × Instr × Nat) := [(0, .aload_n 0, 1), (1, .getfield 17, 3), (4, .aload_n 0, 1), (5, .getfield 11, 3), (8, .arraylength, 1), (9, .if_icmp .lt 5, 3), (12, .iconst (-1), 1), (13, .ireturn, 1), (14, .aload_n 0, 1), (15, .getfield 11, 3), (18, .aload_n 0, 1), (19, .getfield 17, 3)]
theorem kX1_addText_0 : chkB cX1_addText LX1_addText_0 = true := by decide +kernel
theorem dX1_addText_0 : decode cX1_addText 0 = .ok (.aload_n 0, 1) := getB' kX1_addText_0 0 rfl
theorem dX1_addText_1 : decode cX1_addText 1 = .ok (.getfield 17, 3) := getB' kX1_addText_0 1 rfl
theorem dX1_addText_4 : decode cX1_addText 4 = .ok (.aload_n 0, 1) := getB' kX1_addText_0 2 rfl
theorem dX1_addText_5 : decode cX1_addText 5 = .ok (.getfield 11, 3) := getB' kX1_addText_0 3 rfl
theorem dX1_addText_8 : decode cX1_addText 8 = .ok (.arraylength, 1) := getB' kX1_addText_0 4 rfl
theorem dX1_addText_9 : decode cX1_addText 9 = .ok (.if_icmp .lt 5, 3) := getB' kX1_addText_0 5 rfl
theorem dX1_addText_12 : decode cX1_addText 12 = .ok (.iconst (-1), 1) := getB' kX1_addText_0 6 rfl
theorem dX1_addText_13 : decode cX1_addText 13 = .ok (.ireturn, 1) := getB' kX1_addText_0 7 rfl
theorem dX1_addText_14 : decode cX1_addText 14 = .ok (.aload_n 0, 1) := getB' kX1_addText_0 8 rfl
theorem dX1_addText_15 : decode cX1_addText 15 = .ok (.getfield 11, 3) := getB' kX1_addText_0 9 rfl
theorem dX1_addText_18 : decode cX1_addText 18 = .ok (.aload_n 0, 1) := getB' kX1_addText_0 10 rfl
theorem dX1_addText_19 : decode cX1_addText 19 = .ok (.getfield 17, 3) := getB' kX1_addText_0 11 rfl
def LX1_addText_1 : List (Nat × Instr × Nat) := [(22, .aload_n 1, 1), (23, .aastore, 1), (24, .aload_n 0, 1), (25, .invokevirtual 61, 3), (28, .aload_n 0, 1), (29, .dup, 1), (30, .getfield 17, 3), (33, .dup_x1, 1), (34, .iconst 1, 1), (35, .iadd, 1), (36, .putfield 17, 3), (39, .ireturn, 1)]
theorem kX1_addText_1 : chkB cX1_addText LX1_addText_1 = true := by decide +kernel
theorem dX1_addText_22 : decode cX1_addText 22 = .ok (.aload_n 1, 1) := getB' kX1_addText_1 0 rfl
theorem dX1_addText_23 : decode cX1_addText 23 = .ok (.aastore, 1) := getB' kX1_addText_1 1 rfl
theorem dX1_addText_24 : decode cX1_addText 24 = .ok (.aload_n 0, 1) := getB' kX1_addText_1 2 rfl
theorem dX1_addText_25 : decode cX1_addText 25 = .ok (.invokevirtual 61, 3) := getB' kX1_addText_1 3 rfl
theorem dX1_addText_28 : decode cX1_addText 28 = .ok (.aload_n 0, 1) := getB' kX1_addText_1 4 rfl
theorem dX1_addText_29 : decode cX1_addText 29 = .ok (.dup, 1) := getB' kX1_addText_1 5 rfl
theorem dX1_addText_30 : decode cX1_addText 30 = .ok (.getfield 17, 3) := getB' kX1_addText_1 6 rfl
theorem dX1_addText_33 : decode cX1_addText 33 = .ok (.dup_x1, 1) := getB' kX1_addText_1 7 rfl
theorem dX1_addText_34 : decode cX1_addText 34 = .ok (.iconst 1, 1) := getB' kX1_addText_1 8 rfl
theorem dX1_addText_35 : decode cX1_addText 35 = .ok (.iadd, 1) := getB' kX1_addText_1 9 rfl
theorem dX1_addText_36 : decode cX1_addText 36 = .ok (.putfield 17, 3) := getB' kX1_addText_1 10 rfl
theorem dX1_addText_39 : decode cX1_addText 39 = .ok (.ireturn, 1) := getB' kX1_addText_1 11 rfl
def LX1_addReading_0 : List (Nat × Instr × Nat) := [(0, .aload_n 0, 1), (1, .getfield 26, 3), (4, .iload_n 1, 1), (5, .iload_n 2, 1), (6, .iload_n 3, 1), (7, .iconst 0, 1), (8, .iconst 0, 1), (9, .invokevirtual 64, 3), (12, .istore 5, 2), (14, .iload 5, 2), (16, .ifCond .lt 22, 3), (19, .iload 5, 2)]
theorem kX1_addReading_0 : chkB cX1_addReading LX1_addReading_0 = true := by decide +kernel
theorem dX1_addReading_0 : decode cX1_addReading 0 = .ok (.aload_n 0, 1) := getB' kX1_addReading_0 0 rfl
theorem dX1_addReading_1 : decode cX1_addReading 1 = .ok (.getfield 26, 3) := getB' kX1_addReading_0 1 rfl
theorem dX1_addReading_4 : decode cX1_addReading 4 = .ok (.iload_n 1, 1) := getB' kX1_addReading_0 2 rfl
theorem dX1_addReading_5 : decode cX1_addReading 5 = .ok (.iload_n 2, 1) := getB' kX1_addReading_0 3 rfl
theorem dX1_addReading_6 : decode cX1_addReading 6 = .ok (.iload_n 3, 1) := getB' kX1_addReading_0 4 rfl
theorem dX1_addReading_7 : decode cX1_addReading 7 = .ok (.iconst 0, 1) := getB' kX1_addReading_0 5 rfl
theorem dX1_addReading_8 : decode cX1_addReading 8 = .ok (.iconst 0, 1) := getB' kX1_addReading_0 6 rfl
theorem dX1_addReading_9 : decode cX1_addReading 9 = .ok (.invokevirtual 64, 3) := getB' kX1_addReading_0 7 rfl
theorem dX1_addReading_12 : decode cX1_addReading 12 = .ok (.istore 5, 2) := getB' kX1_addReading_0 8 rfl
theorem dX1_addReading_14 : decode cX1_addReading 14 = .ok (.iload 5, 2) := getB' kX1_addReading_0 9 rfl
theorem dX1_addReading_16 : decode cX1_addReading 16 = .ok (.ifCond .lt 22, 3) := getB' kX1_addReading_0 10 rfl
theorem dX1_addReading_19 : decode cX1_addReading 19 = .ok (.iload 5, 2) := getB' kX1_addReading_0 11 rfl
def LX1_addReading_1 : List (Nat × Instr × Nat) := [(21, .aload_n 0, 1), (22, .getfield 30, 3), (25, .arraylength, 1), (26, .if_icmp .ge 12, 3), (29, .aload_n 0, 1), (30, .getfield 30, 3), (33, .iload 5, 2), (35, .aload 4, 2), (37, .aastore, 1), (38, .return_, 1)]
theorem kX1_addReading_1 : chkB cX1_addReading LX1_addReading_1 = true := by decide +kernel
theorem dX1_addReading_21 : decode cX1_addReading 21 = .ok (.aload_n 0, 1) := getB' kX1_addReading_1 0 rfl
theorem dX1_addReading_22 : decode cX1_addReading 22 = .ok (.getfield 30, 3) := getB' kX1_addReading_1 1 rfl
theorem dX1_addReading_25 : decode cX1_addReading 25 = .ok (.arraylength, 1) := getB' kX1_addReading_1 2 rfl
theorem dX1_addReading_26 : decode cX1_addReading 26 = .ok (.if_icmp .ge 12, 3) := getB' kX1_addReading_1 3 rfl
theorem dX1_addReading_29 : decode cX1_addReading 29 = .ok (.aload_n 0, 1) := getB' kX1_addReading_1 4 rfl
theorem dX1_addReading_30 : decode cX1_addReading 30 = .ok (.getfield 30, 3) := getB' kX1_addReading_1 5 rfl
theorem dX1_addReading_33 : decode cX1_addReading 33 = .ok (.iload 5, 2) := getB' kX1_addReading_1 6 rfl
theorem dX1_addReading_35 : decode cX1_addReading 35 = .ok (.aload 4, 2) := getB' kX1_addReading_1 7 rfl
theorem dX1_addReading_37 : decode cX1_addReading 37 = .ok (.aastore, 1) := getB' kX1_addReading_1 8 rfl
theorem dX1_addReading_38 : decode cX1_addReading 38 = .ok (.return_, 1) := getB' kX1_addReading_1 9 rfl
def LX1_forget : List (Nat × Instr × Nat) := [(0, .aload_n 0, 1), (1, .iconst (-1), 1), (2, .putfield 43, 3), (5, .return_, 1)]
theorem kX1_forget : chkB cX1_forget LX1_forget = true := by decide +kernel
theorem dX1_forget_0 : decode cX1_forget 0 = .ok (.aload_n 0, 1) := getB' kX1_forget 0 rfl
theorem dX1_forget_1 : decode cX1_forget 1 = .ok (.iconst (-1), 1) := getB' kX1_forget 1 rfl
theorem dX1_forget_2 : decode cX1_forget 2 = .ok (.putfield 43, 3) := getB' kX1_forget 2 rfl
theorem dX1_forget_5 : decode cX1_forget 5 = .ok (.return_, 1) := getB' kX1_forget 3 rfl
def LX1_weigh_0 : List (Nat × Instr × Nat) := [(0, .aload_n 0, 1), (1, .getfield 40, 3), (4, .iload_n 1, 1), (5, .if_icmp .ne 12, 3), (8, .aload_n 0, 1), (9, .getfield 43, 3), (12, .iload_n 3, 1), (13, .if_icmp .ne 4, 3), (16, .return_, 1), (17, .iconst 0, 1), (18, .istore 4, 2), (20, .iconst 0, 1)]
theorem kX1_weigh_0 : chkB cX1_weigh LX1_weigh_0 = true := by decide +kernel
theorem dX1_weigh_0 : decode cX1_weigh 0 = .ok (.aload_n 0, 1) := getB' kX1_weigh_0 0 rfl
theorem dX1_weigh_1 : decode cX1_weigh 1 = .ok (.getfield 40, 3) := getB' kX1_weigh_0 1 rfl
theorem dX1_weigh_4 : decode cX1_weigh 4 = .ok (.iload_n 1, 1) := getB' kX1_weigh_0 2 rfl
theorem dX1_weigh_5 : decode cX1_weigh 5 = .ok (.if_icmp .ne 12, 3) := getB' kX1_weigh_0 3 rfl
theorem dX1_weigh_8 : decode cX1_weigh 8 = .ok (.aload_n 0, 1) := getB' kX1_weigh_0 4 rfl
theorem dX1_weigh_9 : decode cX1_weigh 9 = .ok (.getfield 43, 3) := getB' kX1_weigh_0 5 rfl
theorem dX1_weigh_12 : decode cX1_weigh 12 = .ok (.iload_n 3, 1) := getB' kX1_weigh_0 6 rfl
theorem dX1_weigh_13 : decode cX1_weigh 13 = .ok (.if_icmp .ne 4, 3) := getB' kX1_weigh_0 7 rfl
theorem dX1_weigh_16 : decode cX1_weigh 16 = .ok (.return_, 1) := getB' kX1_weigh_0 8 rfl
theorem dX1_weigh_17 : decode cX1_weigh 17 = .ok (.iconst 0, 1) := getB' kX1_weigh_0 9 rfl
theorem dX1_weigh_18 : decode cX1_weigh 18 = .ok (.istore 4, 2) := getB' kX1_weigh_0 10 rfl
theorem dX1_weigh_20 : decode cX1_weigh 20 = .ok (.iconst 0, 1) := getB' kX1_weigh_0 11 rfl
def LX1_weigh_1 : List (Nat × Instr × Nat) := [(21, .istore 5, 2), (23, .iload 5, 2), (25, .aload_n 0, 1), (26, .getfield 17, 3), (29, .if_icmp .ge 31, 3), (32, .aload_n 0, 1), (33, .iload 5, 2), (35, .aload_n 2, 1), (36, .iload_n 3, 1), (37, .iload 4, 2), (39, .invokevirtual 68, 3), (42, .ifCond .eq 12, 3)]
theorem kX1_weigh_1 : chkB cX1_weigh LX1_weigh_1 = true := by decide +kernel
theorem dX1_weigh_21 : decode cX1_weigh 21 = .ok (.istore 5, 2) := getB' kX1_weigh_1 0 rfl
theorem dX1_weigh_23 : decode cX1_weigh 23 = .ok (.iload 5, 2) := getB' kX1_weigh_1 1 rfl
theorem dX1_weigh_25 : decode cX1_weigh 25 = .ok (.aload_n 0, 1) := getB' kX1_weigh_1 2 rfl
theorem dX1_weigh_26 : decode cX1_weigh 26 = .ok (.getfield 17, 3) := getB' kX1_weigh_1 3 rfl
theorem dX1_weigh_29 : decode cX1_weigh 29 = .ok (.if_icmp .ge 31, 3) := getB' kX1_weigh_1 4 rfl
theorem dX1_weigh_32 : decode cX1_weigh 32 = .ok (.aload_n 0, 1) := getB' kX1_weigh_1 5 rfl
theorem dX1_weigh_33 : decode cX1_weigh 33 = .ok (.iload 5, 2) := getB' kX1_weigh_1 6 rfl
theorem dX1_weigh_35 : decode cX1_weigh 35 = .ok (.aload_n 2, 1) := getB' kX1_weigh_1 7 rfl
theorem dX1_weigh_36 : decode cX1_weigh 36 = .ok (.iload_n 3, 1) := getB' kX1_weigh_1 8 rfl
theorem dX1_weigh_37 : decode cX1_weigh 37 = .ok (.iload 4, 2) := getB' kX1_weigh_1 9 rfl
theorem dX1_weigh_39 : decode cX1_weigh 39 = .ok (.invokevirtual 68, 3) := getB' kX1_weigh_1 10 rfl
theorem dX1_weigh_42 : decode cX1_weigh 42 = .ok (.ifCond .eq 12, 3) := getB' kX1_weigh_1 11 rfl
def LX1_weigh_2 : List (Nat × Instr × Nat) := [(45, .iload 4, 2), (47, .iconst 1, 1), (48, .iload 5, 2), (50, .ishl, 1), (51, .ior, 1), (52, .istore 4, 2), (54, .iinc 5 1, 3), (57, .goto (-34), 3), (60, .aload_n 0, 1), (61, .aload_n 0, 1), (62, .getfield 17, 3), (65, .iload 4, 2)]
theorem kX1_weigh_2 : chkB cX1_weigh LX1_weigh_2 = true := by decide +kernel
theorem dX1_weigh_45 : decode cX1_weigh 45 = .ok (.iload 4, 2) := getB' kX1_weigh_2 0 rfl
theorem dX1_weigh_47 : decode cX1_weigh 47 = .ok (.iconst 1, 1) := getB' kX1_weigh_2 1 rfl
theorem dX1_weigh_48 : decode cX1_weigh 48 = .ok (.iload 5, 2) := getB' kX1_weigh_2 2 rfl
theorem dX1_weigh_50 : decode cX1_weigh 50 = .ok (.ishl, 1) := getB' kX1_weigh_2 3 rfl
theorem dX1_weigh_51 : decode cX1_weigh 51 = .ok (.ior, 1) := getB' kX1_weigh_2 4 rfl
theorem dX1_weigh_52 : decode cX1_weigh 52 = .ok (.istore 4, 2) := getB' kX1_weigh_2 5 rfl
theorem dX1_weigh_54 : decode cX1_weigh 54 = .ok (.iinc 5 1, 3) := getB' kX1_weigh_2 6 rfl
theorem dX1_weigh_57 : decode cX1_weigh 57 = .ok (.goto (-34), 3) := getB' kX1_weigh_2 7 rfl
theorem dX1_weigh_60 : decode cX1_weigh 60 = .ok (.aload_n 0, 1) := getB' kX1_weigh_2 8 rfl
theorem dX1_weigh_61 : decode cX1_weigh 61 = .ok (.aload_n 0, 1) := getB' kX1_weigh_2 9 rfl
theorem dX1_weigh_62 : decode cX1_weigh 62 = .ok (.getfield 17, 3) := getB' kX1_weigh_2 10 rfl
theorem dX1_weigh_65 : decode cX1_weigh 65 = .ok (.iload 4, 2) := getB' kX1_weigh_2 11 rfl
def LX1_weigh_3 : List (Nat × Instr × Nat) := [(67, .invokevirtual 72, 3), (70, .aload_n 0, 1), (71, .iload_n 1, 1), (72, .putfield 40, 3), (75, .aload_n 0, 1), (76, .iload_n 3, 1), (77, .putfield 43, 3), (80, .return_, 1)]
theorem kX1_weigh_3 : chkB cX1_weigh LX1_weigh_3 = true := by decide +kernel
theorem dX1_weigh_67 : decode cX1_weigh 67 = .ok (.invokevirtual 72, 3) := getB' kX1_weigh_3 0 rfl
theorem dX1_weigh_70 : decode cX1_weigh 70 = .ok (.aload_n 0, 1) := getB' kX1_weigh_3 1 rfl
theorem dX1_weigh_71 : decode cX1_weigh 71 = .ok (.iload_n 1, 1) := getB' kX1_weigh_3 2 rfl
theorem dX1_weigh_72 : decode cX1_weigh 72 = .ok (.putfield 40, 3) := getB' kX1_weigh_3 3 rfl
theorem dX1_weigh_75 : decode cX1_weigh 75 = .ok (.aload_n 0, 1) := getB' kX1_weigh_3 4 rfl
theorem dX1_weigh_76 : decode cX1_weigh 76 = .ok (.iload_n 3, 1) := getB' kX1_weigh_3 5 rfl
theorem dX1_weigh_77 : decode cX1_weigh 77 = .ok (.putfield 43, 3) := getB' kX1_weigh_3 6 rfl
theorem dX1_weigh_80 : decode cX1_weigh 80 = .ok (.return_, 1) := getB' kX1_weigh_3 7 rfl
def LX1_binds_0 : List (Nat × Instr × Nat) := [(0, .aload_n 0, 1), (1, .iload_n 1, 1), (2, .invokevirtual 75, 3), (5, .astore 5, 2), (7, .aload 5, 2), (9, .ifnull 12, 3), (12, .aload 5, 2), (14, .iload_n 3, 1), (15, .invokevirtual 79, 3), (18, .ifCond .ne 5, 3), (21, .iconst 0, 1), (22, .ireturn, 1)]
theorem kX1_binds_0 : chkB cX1_binds LX1_binds_0 = true := by decide +kernel
theorem dX1_binds_0 : decode cX1_binds 0 = .ok (.aload_n 0, 1) := getB' kX1_binds_0 0 rfl
theorem dX1_binds_1 : decode cX1_binds 1 = .ok (.iload_n 1, 1) := getB' kX1_binds_0 1 rfl
theorem dX1_binds_2 : decode cX1_binds 2 = .ok (.invokevirtual 75, 3) := getB' kX1_binds_0 2 rfl
theorem dX1_binds_5 : decode cX1_binds 5 = .ok (.astore 5, 2) := getB' kX1_binds_0 3 rfl
theorem dX1_binds_7 : decode cX1_binds 7 = .ok (.aload 5, 2) := getB' kX1_binds_0 4 rfl
theorem dX1_binds_9 : decode cX1_binds 9 = .ok (.ifnull 12, 3) := getB' kX1_binds_0 5 rfl
theorem dX1_binds_12 : decode cX1_binds 12 = .ok (.aload 5, 2) := getB' kX1_binds_0 6 rfl
theorem dX1_binds_14 : decode cX1_binds 14 = .ok (.iload_n 3, 1) := getB' kX1_binds_0 7 rfl
theorem dX1_binds_15 : decode cX1_binds 15 = .ok (.invokevirtual 79, 3) := getB' kX1_binds_0 8 rfl
theorem dX1_binds_18 : decode cX1_binds 18 = .ok (.ifCond .ne 5, 3) := getB' kX1_binds_0 9 rfl
theorem dX1_binds_21 : decode cX1_binds 21 = .ok (.iconst 0, 1) := getB' kX1_binds_0 10 rfl
theorem dX1_binds_22 : decode cX1_binds 22 = .ok (.ireturn, 1) := getB' kX1_binds_0 11 rfl
def LX1_binds_1 : List (Nat × Instr × Nat) := [(23, .iload_n 1, 1), (24, .ifCond .ne 5, 3), (27, .iconst 1, 1), (28, .ireturn, 1), (29, .aload_n 2, 1), (30, .getfield 83, 3), (33, .iload_n 1, 1), (34, .invokestatic 88, 3), (37, .istore 6, 2), (39, .iload 6, 2), (41, .iconst (-1), 1), (42, .if_icmp .eq 9, 3)]
theorem kX1_binds_1 : chkB cX1_binds LX1_binds_1 = true := by decide +kernel
theorem dX1_binds_23 : decode cX1_binds 23 = .ok (.iload_n 1, 1) := getB' kX1_binds_1 0 rfl
theorem dX1_binds_24 : decode cX1_binds 24 = .ok (.ifCond .ne 5, 3) := getB' kX1_binds_1 1 rfl
theorem dX1_binds_27 : decode cX1_binds 27 = .ok (.iconst 1, 1) := getB' kX1_binds_1 2 rfl
theorem dX1_binds_28 : decode cX1_binds 28 = .ok (.ireturn, 1) := getB' kX1_binds_1 3 rfl
theorem dX1_binds_29 : decode cX1_binds 29 = .ok (.aload_n 2, 1) := getB' kX1_binds_1 4 rfl
theorem dX1_binds_30 : decode cX1_binds 30 = .ok (.getfield 83, 3) := getB' kX1_binds_1 5 rfl
theorem dX1_binds_33 : decode cX1_binds 33 = .ok (.iload_n 1, 1) := getB' kX1_binds_1 6 rfl
theorem dX1_binds_34 : decode cX1_binds 34 = .ok (.invokestatic 88, 3) := getB' kX1_binds_1 7 rfl
theorem dX1_binds_37 : decode cX1_binds 37 = .ok (.istore 6, 2) := getB' kX1_binds_1 8 rfl
theorem dX1_binds_39 : decode cX1_binds 39 = .ok (.iload 6, 2) := getB' kX1_binds_1 9 rfl
theorem dX1_binds_41 : decode cX1_binds 41 = .ok (.iconst (-1), 1) := getB' kX1_binds_1 10 rfl
theorem dX1_binds_42 : decode cX1_binds 42 = .ok (.if_icmp .eq 9, 3) := getB' kX1_binds_1 11 rfl
def LX1_binds_2 : List (Nat × Instr × Nat) := [(45, .iload 6, 2), (47, .iload_n 3, 1), (48, .if_icmp .le 5, 3), (51, .iconst 0, 1), (52, .ireturn, 1), (53, .aload_n 0, 1), (54, .iload_n 1, 1), (55, .iload 4, 2), (57, .invokevirtual 72, 3), (60, .iload_n 3, 1), (61, .iload 6, 2), (63, .isub, 1)]
theorem kX1_binds_2 : chkB cX1_binds LX1_binds_2 = true := by decide +kernel
theorem dX1_binds_45 : decode cX1_binds 45 = .ok (.iload 6, 2) := getB' kX1_binds_2 0 rfl
theorem dX1_binds_47 : decode cX1_binds 47 = .ok (.iload_n 3, 1) := getB' kX1_binds_2 1 rfl
theorem dX1_binds_48 : decode cX1_binds 48 = .ok (.if_icmp .le 5, 3) := getB' kX1_binds_2 2 rfl
theorem dX1_binds_51 : decode cX1_binds 51 = .ok (.iconst 0, 1) := getB' kX1_binds_2 3 rfl
theorem dX1_binds_52 : decode cX1_binds 52 = .ok (.ireturn, 1) := getB' kX1_binds_2 4 rfl
theorem dX1_binds_53 : decode cX1_binds 53 = .ok (.aload_n 0, 1) := getB' kX1_binds_2 5 rfl
theorem dX1_binds_54 : decode cX1_binds 54 = .ok (.iload_n 1, 1) := getB' kX1_binds_2 6 rfl
theorem dX1_binds_55 : decode cX1_binds 55 = .ok (.iload 4, 2) := getB' kX1_binds_2 7 rfl
theorem dX1_binds_57 : decode cX1_binds 57 = .ok (.invokevirtual 72, 3) := getB' kX1_binds_2 8 rfl
theorem dX1_binds_60 : decode cX1_binds 60 = .ok (.iload_n 3, 1) := getB' kX1_binds_2 9 rfl
theorem dX1_binds_61 : decode cX1_binds 61 = .ok (.iload 6, 2) := getB' kX1_binds_2 10 rfl
theorem dX1_binds_63 : decode cX1_binds 63 = .ok (.isub, 1) := getB' kX1_binds_2 11 rfl
def LX1_binds_3 : List (Nat × Instr × Nat) := [(64, .aload_n 0, 1), (65, .bipush 103, 2), (67, .iconst 0, 1), (68, .iconst 0, 1), (69, .invokevirtual 94, 3), (72, .if_icmp .lt 7, 3), (75, .iconst 1, 1), (76, .goto 4, 3), (79, .iconst 0, 1), (80, .ireturn, 1)]
theorem kX1_binds_3 : chkB cX1_binds LX1_binds_3 = true := by decide +kernel
theorem dX1_binds_64 : decode cX1_binds 64 = .ok (.aload_n 0, 1) := getB' kX1_binds_3 0 rfl
theorem dX1_binds_65 : decode cX1_binds 65 = .ok (.bipush 103, 2) := getB' kX1_binds_3 1 rfl
theorem dX1_binds_67 : decode cX1_binds 67 = .ok (.iconst 0, 1) := getB' kX1_binds_3 2 rfl
theorem dX1_binds_68 : decode cX1_binds 68 = .ok (.iconst 0, 1) := getB' kX1_binds_3 3 rfl
theorem dX1_binds_69 : decode cX1_binds 69 = .ok (.invokevirtual 94, 3) := getB' kX1_binds_3 4 rfl
theorem dX1_binds_72 : decode cX1_binds 72 = .ok (.if_icmp .lt 7, 3) := getB' kX1_binds_3 5 rfl
theorem dX1_binds_75 : decode cX1_binds 75 = .ok (.iconst 1, 1) := getB' kX1_binds_3 6 rfl
theorem dX1_binds_76 : decode cX1_binds 76 = .ok (.goto 4, 3) := getB' kX1_binds_3 7 rfl
theorem dX1_binds_79 : decode cX1_binds 79 = .ok (.iconst 0, 1) := getB' kX1_binds_3 8 rfl
theorem dX1_binds_80 : decode cX1_binds 80 = .ok (.ireturn, 1) := getB' kX1_binds_3 9 rfl
def LX1_weighTexts_0 : List (Nat × Instr × Nat) := [(0, .aload_n 0, 1), (1, .getfield 33, 3), (4, .iconst 0, 1), (5, .invokestatic 98, 3), (8, .aload_n 0, 1), (9, .getfield 37, 3), (12, .iconst 0, 1), (13, .invokestatic 98, 3), (16, .iload_n 1, 1), (17, .iconst 1, 1), (18, .isub, 1), (19, .istore_n 3, 1)]
theorem kX1_weighTexts_0 : chkB cX1_weighTexts LX1_weighTexts_0 = true := by decide +kernel
theorem dX1_weighTexts_0 : decode cX1_weighTexts 0 = .ok (.aload_n 0, 1) := getB' kX1_weighTexts_0 0 rfl
theorem dX1_weighTexts_1 : decode cX1_weighTexts 1 = .ok (.getfield 33, 3) := getB' kX1_weighTexts_0 1 rfl
theorem dX1_weighTexts_4 : decode cX1_weighTexts 4 = .ok (.iconst 0, 1) := getB' kX1_weighTexts_0 2 rfl
theorem dX1_weighTexts_5 : decode cX1_weighTexts 5 = .ok (.invokestatic 98, 3) := getB' kX1_weighTexts_0 3 rfl
theorem dX1_weighTexts_8 : decode cX1_weighTexts 8 = .ok (.aload_n 0, 1) := getB' kX1_weighTexts_0 4 rfl
theorem dX1_weighTexts_9 : decode cX1_weighTexts 9 = .ok (.getfield 37, 3) := getB' kX1_weighTexts_0 5 rfl
theorem dX1_weighTexts_12 : decode cX1_weighTexts 12 = .ok (.iconst 0, 1) := getB' kX1_weighTexts_0 6 rfl
theorem dX1_weighTexts_13 : decode cX1_weighTexts 13 = .ok (.invokestatic 98, 3) := getB' kX1_weighTexts_0 7 rfl
theorem dX1_weighTexts_16 : decode cX1_weighTexts 16 = .ok (.iload_n 1, 1) := getB' kX1_weighTexts_0 8 rfl
theorem dX1_weighTexts_17 : decode cX1_weighTexts 17 = .ok (.iconst 1, 1) := getB' kX1_weighTexts_0 9 rfl
theorem dX1_weighTexts_18 : decode cX1_weighTexts 18 = .ok (.isub, 1) := getB' kX1_weighTexts_0 10 rfl
theorem dX1_weighTexts_19 : decode cX1_weighTexts 19 = .ok (.istore_n 3, 1) := getB' kX1_weighTexts_0 11 rfl
def LX1_weighTexts_1 : List (Nat × Instr × Nat) := [(20, .iload_n 3, 1), (21, .ifCond .lt 83, 3), (24, .aload_n 0, 1), (25, .iload_n 3, 1), (26, .invokevirtual 75, 3), (29, .astore 4, 2), (31, .aload 4, 2), (33, .ifnull 65, 3), (36, .iload_n 2, 1), (37, .iload_n 3, 1), (38, .ishr, 1), (39, .iconst 1, 1)]
theorem kX1_weighTexts_1 : chkB cX1_weighTexts LX1_weighTexts_1 = true := by decide +kernel
theorem dX1_weighTexts_20 : decode cX1_weighTexts 20 = .ok (.iload_n 3, 1) := getB' kX1_weighTexts_1 0 rfl
theorem dX1_weighTexts_21 : decode cX1_weighTexts 21 = .ok (.ifCond .lt 83, 3) := getB' kX1_weighTexts_1 1 rfl
theorem dX1_weighTexts_24 : decode cX1_weighTexts 24 = .ok (.aload_n 0, 1) := getB' kX1_weighTexts_1 2 rfl
theorem dX1_weighTexts_25 : decode cX1_weighTexts 25 = .ok (.iload_n 3, 1) := getB' kX1_weighTexts_1 3 rfl
theorem dX1_weighTexts_26 : decode cX1_weighTexts 26 = .ok (.invokevirtual 75, 3) := getB' kX1_weighTexts_1 4 rfl
theorem dX1_weighTexts_29 : decode cX1_weighTexts 29 = .ok (.astore 4, 2) := getB' kX1_weighTexts_1 5 rfl
theorem dX1_weighTexts_31 : decode cX1_weighTexts 31 = .ok (.aload 4, 2) := getB' kX1_weighTexts_1 6 rfl
theorem dX1_weighTexts_33 : decode cX1_weighTexts 33 = .ok (.ifnull 65, 3) := getB' kX1_weighTexts_1 7 rfl
theorem dX1_weighTexts_36 : decode cX1_weighTexts 36 = .ok (.iload_n 2, 1) := getB' kX1_weighTexts_1 8 rfl
theorem dX1_weighTexts_37 : decode cX1_weighTexts 37 = .ok (.iload_n 3, 1) := getB' kX1_weighTexts_1 9 rfl
theorem dX1_weighTexts_38 : decode cX1_weighTexts 38 = .ok (.ishr, 1) := getB' kX1_weighTexts_1 10 rfl
theorem dX1_weighTexts_39 : decode cX1_weighTexts 39 = .ok (.iconst 1, 1) := getB' kX1_weighTexts_1 11 rfl
def LX1_weighTexts_2 : List (Nat × Instr × Nat) := [(40, .iand, 1), (41, .ifCond .ne 6, 3), (44, .goto 54, 3), (47, .iconst 1, 1), (48, .aload 4, 2), (50, .getfield 102, 3), (53, .getfield 105, 3), (56, .ishl, 1), (57, .iconst 1, 1), (58, .isub, 1), (59, .istore 5, 2), (61, .iload 5, 2)]
theorem kX1_weighTexts_2 : chkB cX1_weighTexts LX1_weighTexts_2 = true := by decide +kernel
theorem dX1_weighTexts_40 : decode cX1_weighTexts 40 = .ok (.iand, 1) := getB' kX1_weighTexts_2 0 rfl
theorem dX1_weighTexts_41 : decode cX1_weighTexts 41 = .ok (.ifCond .ne 6, 3) := getB' kX1_weighTexts_2 1 rfl
theorem dX1_weighTexts_44 : decode cX1_weighTexts 44 = .ok (.goto 54, 3) := getB' kX1_weighTexts_2 2 rfl
theorem dX1_weighTexts_47 : decode cX1_weighTexts 47 = .ok (.iconst 1, 1) := getB' kX1_weighTexts_2 3 rfl
theorem dX1_weighTexts_48 : decode cX1_weighTexts 48 = .ok (.aload 4, 2) := getB' kX1_weighTexts_2 4 rfl
theorem dX1_weighTexts_50 : decode cX1_weighTexts 50 = .ok (.getfield 102, 3) := getB' kX1_weighTexts_2 5 rfl
theorem dX1_weighTexts_53 : decode cX1_weighTexts 53 = .ok (.getfield 105, 3) := getB' kX1_weighTexts_2 6 rfl
theorem dX1_weighTexts_56 : decode cX1_weighTexts 56 = .ok (.ishl, 1) := getB' kX1_weighTexts_2 7 rfl
theorem dX1_weighTexts_57 : decode cX1_weighTexts 57 = .ok (.iconst 1, 1) := getB' kX1_weighTexts_2 8 rfl
theorem dX1_weighTexts_58 : decode cX1_weighTexts 58 = .ok (.isub, 1) := getB' kX1_weighTexts_2 9 rfl
theorem dX1_weighTexts_59 : decode cX1_weighTexts 59 = .ok (.istore 5, 2) := getB' kX1_weighTexts_2 10 rfl
theorem dX1_weighTexts_61 : decode cX1_weighTexts 61 = .ok (.iload 5, 2) := getB' kX1_weighTexts_2 11 rfl
def LX1_weighTexts_3 : List (Nat × Instr × Nat) := [(63, .aload_n 0, 1), (64, .getfield 37, 3), (67, .iload_n 3, 1), (68, .invokestatic 88, 3), (71, .iconst (-1), 1), (72, .ixor, 1), (73, .iand, 1), (74, .istore 6, 2), (76, .aload_n 0, 1), (77, .getfield 33, 3), (80, .iload_n 3, 1), (81, .iload 6, 2)]
theorem kX1_weighTexts_3 : chkB cX1_weighTexts LX1_weighTexts_3 = true := by decide +kernel
theorem dX1_weighTexts_63 : decode cX1_weighTexts 63 = .ok (.aload_n 0, 1) := getB' kX1_weighTexts_3 0 rfl
theorem dX1_weighTexts_64 : decode cX1_weighTexts 64 = .ok (.getfield 37, 3) := getB' kX1_weighTexts_3 1 rfl
theorem dX1_weighTexts_67 : decode cX1_weighTexts 67 = .ok (.iload_n 3, 1) := getB' kX1_weighTexts_3 2 rfl
theorem dX1_weighTexts_68 : decode cX1_weighTexts 68 = .ok (.invokestatic 88, 3) := getB' kX1_weighTexts_3 3 rfl
theorem dX1_weighTexts_71 : decode cX1_weighTexts 71 = .ok (.iconst (-1), 1) := getB' kX1_weighTexts_3 4 rfl
theorem dX1_weighTexts_72 : decode cX1_weighTexts 72 = .ok (.ixor, 1) := getB' kX1_weighTexts_3 5 rfl
theorem dX1_weighTexts_73 : decode cX1_weighTexts 73 = .ok (.iand, 1) := getB' kX1_weighTexts_3 6 rfl
theorem dX1_weighTexts_74 : decode cX1_weighTexts 74 = .ok (.istore 6, 2) := getB' kX1_weighTexts_3 7 rfl
theorem dX1_weighTexts_76 : decode cX1_weighTexts 76 = .ok (.aload_n 0, 1) := getB' kX1_weighTexts_3 8 rfl
theorem dX1_weighTexts_77 : decode cX1_weighTexts 77 = .ok (.getfield 33, 3) := getB' kX1_weighTexts_3 9 rfl
theorem dX1_weighTexts_80 : decode cX1_weighTexts 80 = .ok (.iload_n 3, 1) := getB' kX1_weighTexts_3 10 rfl
theorem dX1_weighTexts_81 : decode cX1_weighTexts 81 = .ok (.iload 6, 2) := getB' kX1_weighTexts_3 11 rfl
def LX1_weighTexts_4 : List (Nat × Instr × Nat) := [(83, .invokestatic 108, 3), (86, .aload_n 0, 1), (87, .iload_n 3, 1), (88, .aload 4, 2), (90, .getfield 102, 3), (93, .iload 6, 2), (95, .invokevirtual 112, 3), (98, .iinc 3 (-1), 3), (101, .goto (-81), 3), (104, .return_, 1)]
theorem kX1_weighTexts_4 : chkB cX1_weighTexts LX1_weighTexts_4 = true := by decide +kernel
theorem dX1_weighTexts_83 : decode cX1_weighTexts 83 = .ok (.invokestatic 108, 3) := getB' kX1_weighTexts_4 0 rfl
theorem dX1_weighTexts_86 : decode cX1_weighTexts 86 = .ok (.aload_n 0, 1) := getB' kX1_weighTexts_4 1 rfl
theorem dX1_weighTexts_87 : decode cX1_weighTexts 87 = .ok (.iload_n 3, 1) := getB' kX1_weighTexts_4 2 rfl
theorem dX1_weighTexts_88 : decode cX1_weighTexts 88 = .ok (.aload 4, 2) := getB' kX1_weighTexts_4 3 rfl
theorem dX1_weighTexts_90 : decode cX1_weighTexts 90 = .ok (.getfield 102, 3) := getB' kX1_weighTexts_4 4 rfl
theorem dX1_weighTexts_93 : decode cX1_weighTexts 93 = .ok (.iload 6, 2) := getB' kX1_weighTexts_4 5 rfl
theorem dX1_weighTexts_95 : decode cX1_weighTexts 95 = .ok (.invokevirtual 112, 3) := getB' kX1_weighTexts_4 6 rfl
theorem dX1_weighTexts_98 : decode cX1_weighTexts 98 = .ok (.iinc 3 (-1), 3) := getB' kX1_weighTexts_4 7 rfl
theorem dX1_weighTexts_101 : decode cX1_weighTexts 101 = .ok (.goto (-81), 3) := getB' kX1_weighTexts_4 8 rfl
theorem dX1_weighTexts_104 : decode cX1_weighTexts 104 = .ok (.return_, 1) := getB' kX1_weighTexts_4 9 rfl
def LX1_strike_0 : List (Nat × Instr × Nat) := [(0, .iconst 0, 1), (1, .istore 4, 2), (3, .iload 4, 2), (5, .aload_n 2, 1), (6, .getfield 105, 3), (9, .if_icmp .ge 77, 3), (12, .aload_n 2, 1), (13, .iload 4, 2), (15, .iconst 2, 1), (16, .invokevirtual 116, 3), (19, .istore 5, 2), (21, .iload_n 3, 1)]
theorem kX1_strike_0 : chkB cX1_strike LX1_strike_0 = true := by decide +kernel
theorem dX1_strike_0 : decode cX1_strike 0 = .ok (.iconst 0, 1) := getB' kX1_strike_0 0 rfl
theorem dX1_strike_1 : decode cX1_strike 1 = .ok (.istore 4, 2) := getB' kX1_strike_0 1 rfl
theorem dX1_strike_3 : decode cX1_strike 3 = .ok (.iload 4, 2) := getB' kX1_strike_0 2 rfl
theorem dX1_strike_5 : decode cX1_strike 5 = .ok (.aload_n 2, 1) := getB' kX1_strike_0 3 rfl
theorem dX1_strike_6 : decode cX1_strike 6 = .ok (.getfield 105, 3) := getB' kX1_strike_0 4 rfl
theorem dX1_strike_9 : decode cX1_strike 9 = .ok (.if_icmp .ge 77, 3) := getB' kX1_strike_0 5 rfl
theorem dX1_strike_12 : decode cX1_strike 12 = .ok (.aload_n 2, 1) := getB' kX1_strike_0 6 rfl
theorem dX1_strike_13 : decode cX1_strike 13 = .ok (.iload 4, 2) := getB' kX1_strike_0 7 rfl
theorem dX1_strike_15 : decode cX1_strike 15 = .ok (.iconst 2, 1) := getB' kX1_strike_0 8 rfl
theorem dX1_strike_16 : decode cX1_strike 16 = .ok (.invokevirtual 116, 3) := getB' kX1_strike_0 9 rfl
theorem dX1_strike_19 : decode cX1_strike 19 = .ok (.istore 5, 2) := getB' kX1_strike_0 10 rfl
theorem dX1_strike_21 : decode cX1_strike 21 = .ok (.iload_n 3, 1) := getB' kX1_strike_0 11 rfl
def LX1_strike_1 : List (Nat × Instr × Nat) := [(22, .iload 4, 2), (24, .ishr, 1), (25, .iconst 1, 1), (26, .iand, 1), (27, .ifCond .eq 53, 3), (30, .aload_n 2, 1), (31, .iload 4, 2), (33, .iconst 0, 1), (34, .invokevirtual 116, 3), (37, .bipush 120, 2), (39, .if_icmp .ne 41, 3), (42, .iload 5, 2)]
theorem kX1_strike_1 : chkB cX1_strike LX1_strike_1 = true := by decide +kernel
theorem dX1_strike_22 : decode cX1_strike 22 = .ok (.iload 4, 2) := getB' kX1_strike_1 0 rfl
theorem dX1_strike_24 : decode cX1_strike 24 = .ok (.ishr, 1) := getB' kX1_strike_1 1 rfl
theorem dX1_strike_25 : decode cX1_strike 25 = .ok (.iconst 1, 1) := getB' kX1_strike_1 2 rfl
theorem dX1_strike_26 : decode cX1_strike 26 = .ok (.iand, 1) := getB' kX1_strike_1 3 rfl
theorem dX1_strike_27 : decode cX1_strike 27 = .ok (.ifCond .eq 53, 3) := getB' kX1_strike_1 4 rfl
theorem dX1_strike_30 : decode cX1_strike 30 = .ok (.aload_n 2, 1) := getB' kX1_strike_1 5 rfl
theorem dX1_strike_31 : decode cX1_strike 31 = .ok (.iload 4, 2) := getB' kX1_strike_1 6 rfl
theorem dX1_strike_33 : decode cX1_strike 33 = .ok (.iconst 0, 1) := getB' kX1_strike_1 7 rfl
theorem dX1_strike_34 : decode cX1_strike 34 = .ok (.invokevirtual 116, 3) := getB' kX1_strike_1 8 rfl
theorem dX1_strike_37 : decode cX1_strike 37 = .ok (.bipush 120, 2) := getB' kX1_strike_1 9 rfl
theorem dX1_strike_39 : decode cX1_strike 39 = .ok (.if_icmp .ne 41, 3) := getB' kX1_strike_1 10 rfl
theorem dX1_strike_42 : decode cX1_strike 42 = .ok (.iload 5, 2) := getB' kX1_strike_1 11 rfl
def LX1_strike_2 : List (Nat × Instr × Nat) := [(44, .iload_n 1, 1), (45, .if_icmp .ge 35, 3), (48, .iconst 1, 1), (49, .aload_n 2, 1), (50, .iload 4, 2), (52, .iconst 3, 1), (53, .invokevirtual 116, 3), (56, .ishl, 1), (57, .istore 6, 2), (59, .aload_n 0, 1), (60, .getfield 37, 3), (63, .iload 5, 2)]
theorem kX1_strike_2 : chkB cX1_strike LX1_strike_2 = true := by decide +kernel
theorem dX1_strike_44 : decode cX1_strike 44 = .ok (.iload_n 1, 1) := getB' kX1_strike_2 0 rfl
theorem dX1_strike_45 : decode cX1_strike 45 = .ok (.if_icmp .ge 35, 3) := getB' kX1_strike_2 1 rfl
theorem dX1_strike_48 : decode cX1_strike 48 = .ok (.iconst 1, 1) := getB' kX1_strike_2 2 rfl
theorem dX1_strike_49 : decode cX1_strike 49 = .ok (.aload_n 2, 1) := getB' kX1_strike_2 3 rfl
theorem dX1_strike_50 : decode cX1_strike 50 = .ok (.iload 4, 2) := getB' kX1_strike_2 4 rfl
theorem dX1_strike_52 : decode cX1_strike 52 = .ok (.iconst 3, 1) := getB' kX1_strike_2 5 rfl
theorem dX1_strike_53 : decode cX1_strike 53 = .ok (.invokevirtual 116, 3) := getB' kX1_strike_2 6 rfl
theorem dX1_strike_56 : decode cX1_strike 56 = .ok (.ishl, 1) := getB' kX1_strike_2 7 rfl
theorem dX1_strike_57 : decode cX1_strike 57 = .ok (.istore 6, 2) := getB' kX1_strike_2 8 rfl
theorem dX1_strike_59 : decode cX1_strike 59 = .ok (.aload_n 0, 1) := getB' kX1_strike_2 9 rfl
theorem dX1_strike_60 : decode cX1_strike 60 = .ok (.getfield 37, 3) := getB' kX1_strike_2 10 rfl
theorem dX1_strike_63 : decode cX1_strike 63 = .ok (.iload 5, 2) := getB' kX1_strike_2 11 rfl
def LX1_strike_3 : List (Nat × Instr × Nat) := [(65, .aload_n 0, 1), (66, .getfield 37, 3), (69, .iload 5, 2), (71, .invokestatic 88, 3), (74, .iload 6, 2), (76, .ior, 1), (77, .invokestatic 108, 3), (80, .iinc 4 1, 3), (83, .goto (-80), 3), (86, .return_, 1)]
theorem kX1_strike_3 : chkB cX1_strike LX1_strike_3 = true := by decide +kernel
theorem dX1_strike_65 : decode cX1_strike 65 = .ok (.aload_n 0, 1) := getB' kX1_strike_3 0 rfl
theorem dX1_strike_66 : decode cX1_strike 66 = .ok (.getfield 37, 3) := getB' kX1_strike_3 1 rfl
theorem dX1_strike_69 : decode cX1_strike 69 = .ok (.iload 5, 2) := getB' kX1_strike_3 2 rfl
theorem dX1_strike_71 : decode cX1_strike 71 = .ok (.invokestatic 88, 3) := getB' kX1_strike_3 3 rfl
theorem dX1_strike_74 : decode cX1_strike 74 = .ok (.iload 6, 2) := getB' kX1_strike_3 4 rfl
theorem dX1_strike_76 : decode cX1_strike 76 = .ok (.ior, 1) := getB' kX1_strike_3 5 rfl
theorem dX1_strike_77 : decode cX1_strike 77 = .ok (.invokestatic 108, 3) := getB' kX1_strike_3 6 rfl
theorem dX1_strike_80 : decode cX1_strike 80 = .ok (.iinc 4 1, 3) := getB' kX1_strike_3 7 rfl
theorem dX1_strike_83 : decode cX1_strike 83 = .ok (.goto (-80), 3) := getB' kX1_strike_3 8 rfl
theorem dX1_strike_86 : decode cX1_strike 86 = .ok (.return_, 1) := getB' kX1_strike_3 9 rfl
def LX1_isCounting_0 : List (Nat × Instr × Nat) := [(0, .aload_n 0, 1), (1, .getfield 33, 3), (4, .iload_n 1, 1), (5, .invokestatic 88, 3), (8, .iload_n 2, 1), (9, .ishr, 1), (10, .iconst 1, 1), (11, .iand, 1), (12, .ifCond .eq 7, 3), (15, .iconst 1, 1), (16, .goto 4, 3), (19, .iconst 0, 1)]
theorem kX1_isCounting_0 : chkB cX1_isCounting LX1_isCounting_0 = true := by decide +kernel
theorem dX1_isCounting_0 : decode cX1_isCounting 0 = .ok (.aload_n 0, 1) := getB' kX1_isCounting_0 0 rfl
theorem dX1_isCounting_1 : decode cX1_isCounting 1 = .ok (.getfield 33, 3) := getB' kX1_isCounting_0 1 rfl
theorem dX1_isCounting_4 : decode cX1_isCounting 4 = .ok (.iload_n 1, 1) := getB' kX1_isCounting_0 2 rfl
theorem dX1_isCounting_5 : decode cX1_isCounting 5 = .ok (.invokestatic 88, 3) := getB' kX1_isCounting_0 3 rfl
theorem dX1_isCounting_8 : decode cX1_isCounting 8 = .ok (.iload_n 2, 1) := getB' kX1_isCounting_0 4 rfl
theorem dX1_isCounting_9 : decode cX1_isCounting 9 = .ok (.ishr, 1) := getB' kX1_isCounting_0 5 rfl
theorem dX1_isCounting_10 : decode cX1_isCounting 10 = .ok (.iconst 1, 1) := getB' kX1_isCounting_0 6 rfl
theorem dX1_isCounting_11 : decode cX1_isCounting 11 = .ok (.iand, 1) := getB' kX1_isCounting_0 7 rfl
theorem dX1_isCounting_12 : decode cX1_isCounting 12 = .ok (.ifCond .eq 7, 3) := getB' kX1_isCounting_0 8 rfl
theorem dX1_isCounting_15 : decode cX1_isCounting 15 = .ok (.iconst 1, 1) := getB' kX1_isCounting_0 9 rfl
theorem dX1_isCounting_16 : decode cX1_isCounting 16 = .ok (.goto 4, 3) := getB' kX1_isCounting_0 10 rfl
theorem dX1_isCounting_19 : decode cX1_isCounting 19 = .ok (.iconst 0, 1) := getB' kX1_isCounting_0 11 rfl
def LX1_isCounting_1 : List (Nat × Instr × Nat) := [(20, .ireturn, 1)]
theorem kX1_isCounting_1 : chkB cX1_isCounting LX1_isCounting_1 = true := by decide +kernel
theorem dX1_isCounting_20 : decode cX1_isCounting 20 = .ok (.ireturn, 1) := getB' kX1_isCounting_1 0 rfl
def LX1_numberOf_0 : List (Nat × Instr × Nat) := [(0, .aload_n 0, 1), (1, .getfield 17, 3), (4, .iconst 1, 1), (5, .isub, 1), (6, .istore 4, 2), (8, .iload 4, 2), (10, .ifCond .lt 142, 3), (13, .aload_n 0, 1), (14, .iload 4, 2), (16, .invokevirtual 75, 3), (19, .astore 5, 2), (21, .aload 5, 2)]
theorem kX1_numberOf_0 : chkB cX1_numberOf LX1_numberOf_0 = true := by decide +kernel
theorem dX1_numberOf_0 : decode cX1_numberOf 0 = .ok (.aload_n 0, 1) := getB' kX1_numberOf_0 0 rfl
theorem dX1_numberOf_1 : decode cX1_numberOf 1 = .ok (.getfield 17, 3) := getB' kX1_numberOf_0 1 rfl
theorem dX1_numberOf_4 : decode cX1_numberOf 4 = .ok (.iconst 1, 1) := getB' kX1_numberOf_0 2 rfl
theorem dX1_numberOf_5 : decode cX1_numberOf 5 = .ok (.isub, 1) := getB' kX1_numberOf_0 3 rfl
theorem dX1_numberOf_6 : decode cX1_numberOf 6 = .ok (.istore 4, 2) := getB' kX1_numberOf_0 4 rfl
theorem dX1_numberOf_8 : decode cX1_numberOf 8 = .ok (.iload 4, 2) := getB' kX1_numberOf_0 5 rfl
theorem dX1_numberOf_10 : decode cX1_numberOf 10 = .ok (.ifCond .lt 142, 3) := getB' kX1_numberOf_0 6 rfl
theorem dX1_numberOf_13 : decode cX1_numberOf 13 = .ok (.aload_n 0, 1) := getB' kX1_numberOf_0 7 rfl
theorem dX1_numberOf_14 : decode cX1_numberOf 14 = .ok (.iload 4, 2) := getB' kX1_numberOf_0 8 rfl
theorem dX1_numberOf_16 : decode cX1_numberOf 16 = .ok (.invokevirtual 75, 3) := getB' kX1_numberOf_0 9 rfl
theorem dX1_numberOf_19 : decode cX1_numberOf 19 = .ok (.astore 5, 2) := getB' kX1_numberOf_0 10 rfl
theorem dX1_numberOf_21 : decode cX1_numberOf 21 = .ok (.aload 5, 2) := getB' kX1_numberOf_0 11 rfl
def LX1_numberOf_1 : List (Nat × Instr × Nat) := [(23, .ifnull 123, 3), (26, .aload_n 0, 1), (27, .getfield 33, 3), (30, .iload 4, 2), (32, .invokestatic 88, 3), (35, .ifCond .ne 6, 3), (38, .goto 108, 3), (41, .aload 5, 2), (43, .getfield 102, 3), (46, .getfield 105, 3), (49, .iconst 1, 1), (50, .isub, 1)]
theorem kX1_numberOf_1 : chkB cX1_numberOf LX1_numberOf_1 = true := by decide +kernel
theorem dX1_numberOf_23 : decode cX1_numberOf 23 = .ok (.ifnull 123, 3) := getB' kX1_numberOf_1 0 rfl
theorem dX1_numberOf_26 : decode cX1_numberOf 26 = .ok (.aload_n 0, 1) := getB' kX1_numberOf_1 1 rfl
theorem dX1_numberOf_27 : decode cX1_numberOf 27 = .ok (.getfield 33, 3) := getB' kX1_numberOf_1 2 rfl
theorem dX1_numberOf_30 : decode cX1_numberOf 30 = .ok (.iload 4, 2) := getB' kX1_numberOf_1 3 rfl
theorem dX1_numberOf_32 : decode cX1_numberOf 32 = .ok (.invokestatic 88, 3) := getB' kX1_numberOf_1 4 rfl
theorem dX1_numberOf_35 : decode cX1_numberOf 35 = .ok (.ifCond .ne 6, 3) := getB' kX1_numberOf_1 5 rfl
theorem dX1_numberOf_38 : decode cX1_numberOf 38 = .ok (.goto 108, 3) := getB' kX1_numberOf_1 6 rfl
theorem dX1_numberOf_41 : decode cX1_numberOf 41 = .ok (.aload 5, 2) := getB' kX1_numberOf_1 7 rfl
theorem dX1_numberOf_43 : decode cX1_numberOf 43 = .ok (.getfield 102, 3) := getB' kX1_numberOf_1 8 rfl
theorem dX1_numberOf_46 : decode cX1_numberOf 46 = .ok (.getfield 105, 3) := getB' kX1_numberOf_1 9 rfl
theorem dX1_numberOf_49 : decode cX1_numberOf 49 = .ok (.iconst 1, 1) := getB' kX1_numberOf_1 10 rfl
theorem dX1_numberOf_50 : decode cX1_numberOf 50 = .ok (.isub, 1) := getB' kX1_numberOf_1 11 rfl
def LX1_numberOf_2 : List (Nat × Instr × Nat) := [(51, .istore 6, 2), (53, .iload 6, 2), (55, .ifCond .lt 91, 3), (58, .iload_n 1, 1), (59, .bipush 107, 2), (61, .if_icmp .ne 37, 3), (64, .aload 5, 2), (66, .getfield 102, 3), (69, .iload 6, 2), (71, .iconst 2, 1), (72, .invokevirtual 116, 3), (75, .iload_n 2, 1)]
theorem kX1_numberOf_2 : chkB cX1_numberOf LX1_numberOf_2 = true := by decide +kernel
theorem dX1_numberOf_51 : decode cX1_numberOf 51 = .ok (.istore 6, 2) := getB' kX1_numberOf_2 0 rfl
theorem dX1_numberOf_53 : decode cX1_numberOf 53 = .ok (.iload 6, 2) := getB' kX1_numberOf_2 1 rfl
theorem dX1_numberOf_55 : decode cX1_numberOf 55 = .ok (.ifCond .lt 91, 3) := getB' kX1_numberOf_2 2 rfl
theorem dX1_numberOf_58 : decode cX1_numberOf 58 = .ok (.iload_n 1, 1) := getB' kX1_numberOf_2 3 rfl
theorem dX1_numberOf_59 : decode cX1_numberOf 59 = .ok (.bipush 107, 2) := getB' kX1_numberOf_2 4 rfl
theorem dX1_numberOf_61 : decode cX1_numberOf 61 = .ok (.if_icmp .ne 37, 3) := getB' kX1_numberOf_2 5 rfl
theorem dX1_numberOf_64 : decode cX1_numberOf 64 = .ok (.aload 5, 2) := getB' kX1_numberOf_2 6 rfl
theorem dX1_numberOf_66 : decode cX1_numberOf 66 = .ok (.getfield 102, 3) := getB' kX1_numberOf_2 7 rfl
theorem dX1_numberOf_69 : decode cX1_numberOf 69 = .ok (.iload 6, 2) := getB' kX1_numberOf_2 8 rfl
theorem dX1_numberOf_71 : decode cX1_numberOf 71 = .ok (.iconst 2, 1) := getB' kX1_numberOf_2 9 rfl
theorem dX1_numberOf_72 : decode cX1_numberOf 72 = .ok (.invokevirtual 116, 3) := getB' kX1_numberOf_2 10 rfl
theorem dX1_numberOf_75 : decode cX1_numberOf 75 = .ok (.iload_n 2, 1) := getB' kX1_numberOf_2 11 rfl
def LX1_numberOf_3 : List (Nat × Instr × Nat) := [(76, .if_icmp .ne 18, 3), (79, .aload 5, 2), (81, .getfield 102, 3), (84, .iload 6, 2), (86, .iconst 3, 1), (87, .invokevirtual 116, 3), (90, .iload_n 3, 1), (91, .if_icmp .eq 7, 3), (94, .iconst 1, 1), (95, .goto 4, 3), (98, .iconst 0, 1), (99, .istore 7, 2)]
theorem kX1_numberOf_3 : chkB cX1_numberOf LX1_numberOf_3 = true := by decide +kernel
theorem dX1_numberOf_76 : decode cX1_numberOf 76 = .ok (.if_icmp .ne 18, 3) := getB' kX1_numberOf_3 0 rfl
theorem dX1_numberOf_79 : decode cX1_numberOf 79 = .ok (.aload 5, 2) := getB' kX1_numberOf_3 1 rfl
theorem dX1_numberOf_81 : decode cX1_numberOf 81 = .ok (.getfield 102, 3) := getB' kX1_numberOf_3 2 rfl
theorem dX1_numberOf_84 : decode cX1_numberOf 84 = .ok (.iload 6, 2) := getB' kX1_numberOf_3 3 rfl
theorem dX1_numberOf_86 : decode cX1_numberOf 86 = .ok (.iconst 3, 1) := getB' kX1_numberOf_3 4 rfl
theorem dX1_numberOf_87 : decode cX1_numberOf 87 = .ok (.invokevirtual 116, 3) := getB' kX1_numberOf_3 5 rfl
theorem dX1_numberOf_90 : decode cX1_numberOf 90 = .ok (.iload_n 3, 1) := getB' kX1_numberOf_3 6 rfl
theorem dX1_numberOf_91 : decode cX1_numberOf 91 = .ok (.if_icmp .eq 7, 3) := getB' kX1_numberOf_3 7 rfl
theorem dX1_numberOf_94 : decode cX1_numberOf 94 = .ok (.iconst 1, 1) := getB' kX1_numberOf_3 8 rfl
theorem dX1_numberOf_95 : decode cX1_numberOf 95 = .ok (.goto 4, 3) := getB' kX1_numberOf_3 9 rfl
theorem dX1_numberOf_98 : decode cX1_numberOf 98 = .ok (.iconst 0, 1) := getB' kX1_numberOf_3 10 rfl
theorem dX1_numberOf_99 : decode cX1_numberOf 99 = .ok (.istore 7, 2) := getB' kX1_numberOf_3 11 rfl
def LX1_numberOf_4 : List (Nat × Instr × Nat) := [(101, .aload 5, 2), (103, .iload 6, 2), (105, .invokevirtual 119, 3), (108, .iload_n 1, 1), (109, .if_icmp .ne 31, 3), (112, .iload 7, 2), (114, .ifCond .ne 26, 3), (117, .aload_n 0, 1), (118, .iload 4, 2), (120, .iload 6, 2), (122, .invokevirtual 123, 3), (125, .ifCond .eq 15, 3)]
theorem kX1_numberOf_4 : chkB cX1_numberOf LX1_numberOf_4 = true := by decide +kernel
theorem dX1_numberOf_101 : decode cX1_numberOf 101 = .ok (.aload 5, 2) := getB' kX1_numberOf_4 0 rfl
theorem dX1_numberOf_103 : decode cX1_numberOf 103 = .ok (.iload 6, 2) := getB' kX1_numberOf_4 1 rfl
theorem dX1_numberOf_105 : decode cX1_numberOf 105 = .ok (.invokevirtual 119, 3) := getB' kX1_numberOf_4 2 rfl
theorem dX1_numberOf_108 : decode cX1_numberOf 108 = .ok (.iload_n 1, 1) := getB' kX1_numberOf_4 3 rfl
theorem dX1_numberOf_109 : decode cX1_numberOf 109 = .ok (.if_icmp .ne 31, 3) := getB' kX1_numberOf_4 4 rfl
theorem dX1_numberOf_112 : decode cX1_numberOf 112 = .ok (.iload 7, 2) := getB' kX1_numberOf_4 5 rfl
theorem dX1_numberOf_114 : decode cX1_numberOf 114 = .ok (.ifCond .ne 26, 3) := getB' kX1_numberOf_4 6 rfl
theorem dX1_numberOf_117 : decode cX1_numberOf 117 = .ok (.aload_n 0, 1) := getB' kX1_numberOf_4 7 rfl
theorem dX1_numberOf_118 : decode cX1_numberOf 118 = .ok (.iload 4, 2) := getB' kX1_numberOf_4 8 rfl
theorem dX1_numberOf_120 : decode cX1_numberOf 120 = .ok (.iload 6, 2) := getB' kX1_numberOf_4 9 rfl
theorem dX1_numberOf_122 : decode cX1_numberOf 122 = .ok (.invokevirtual 123, 3) := getB' kX1_numberOf_4 10 rfl
theorem dX1_numberOf_125 : decode cX1_numberOf 125 = .ok (.ifCond .eq 15, 3) := getB' kX1_numberOf_4 11 rfl
def LX1_numberOf_5 : List (Nat × Instr × Nat) := [(128, .aload 5, 2), (130, .getfield 102, 3), (133, .iload 6, 2), (135, .iconst 1, 1), (136, .invokevirtual 116, 3), (139, .ireturn, 1), (140, .iinc 6 (-1), 3), (143, .goto (-90), 3), (146, .iinc 4 (-1), 3), (149, .goto (-141), 3), (152, .iconst (-1), 1), (153, .ireturn, 1)]
theorem kX1_numberOf_5 : chkB cX1_numberOf LX1_numberOf_5 = true := by decide +kernel
theorem dX1_numberOf_128 : decode cX1_numberOf 128 = .ok (.aload 5, 2) := getB' kX1_numberOf_5 0 rfl
theorem dX1_numberOf_130 : decode cX1_numberOf 130 = .ok (.getfield 102, 3) := getB' kX1_numberOf_5 1 rfl
theorem dX1_numberOf_133 : decode cX1_numberOf 133 = .ok (.iload 6, 2) := getB' kX1_numberOf_5 2 rfl
theorem dX1_numberOf_135 : decode cX1_numberOf 135 = .ok (.iconst 1, 1) := getB' kX1_numberOf_5 3 rfl
theorem dX1_numberOf_136 : decode cX1_numberOf 136 = .ok (.invokevirtual 116, 3) := getB' kX1_numberOf_5 4 rfl
theorem dX1_numberOf_139 : decode cX1_numberOf 139 = .ok (.ireturn, 1) := getB' kX1_numberOf_5 5 rfl
theorem dX1_numberOf_140 : decode cX1_numberOf 140 = .ok (.iinc 6 (-1), 3) := getB' kX1_numberOf_5 6 rfl
theorem dX1_numberOf_143 : decode cX1_numberOf 143 = .ok (.goto (-90), 3) := getB' kX1_numberOf_5 7 rfl
theorem dX1_numberOf_146 : decode cX1_numberOf 146 = .ok (.iinc 4 (-1), 3) := getB' kX1_numberOf_5 8 rfl
theorem dX1_numberOf_149 : decode cX1_numberOf 149 = .ok (.goto (-141), 3) := getB' kX1_numberOf_5 9 rfl
theorem dX1_numberOf_152 : decode cX1_numberOf 152 = .ok (.iconst (-1), 1) := getB' kX1_numberOf_5 10 rfl
theorem dX1_numberOf_153 : decode cX1_numberOf 153 = .ok (.ireturn, 1) := getB' kX1_numberOf_5 11 rfl
def LX1_judge_0 : List (Nat × Instr × Nat) := [(0, .aload_n 0, 1), (1, .iconst (-1), 1), (2, .putfield 55, 3), (5, .aload_n 0, 1), (6, .iconst (-1), 1), (7, .putfield 58, 3), (10, .iconst 0, 1), (11, .istore 5, 2), (13, .iload 5, 2), (15, .aload_n 0, 1), (16, .getfield 17, 3), (19, .if_icmp .ge 184, 3)]
theorem kX1_judge_0 : chkB cX1_judge LX1_judge_0 = true := by decide +kernel
theorem dX1_judge_0 : decode cX1_judge 0 = .ok (.aload_n 0, 1) := getB' kX1_judge_0 0 rfl
theorem dX1_judge_1 : decode cX1_judge 1 = .ok (.iconst (-1), 1) := getB' kX1_judge_0 1 rfl
theorem dX1_judge_2 : decode cX1_judge 2 = .ok (.putfield 55, 3) := getB' kX1_judge_0 2 rfl
theorem dX1_judge_5 : decode cX1_judge 5 = .ok (.aload_n 0, 1) := getB' kX1_judge_0 3 rfl
theorem dX1_judge_6 : decode cX1_judge 6 = .ok (.iconst (-1), 1) := getB' kX1_judge_0 4 rfl
theorem dX1_judge_7 : decode cX1_judge 7 = .ok (.putfield 58, 3) := getB' kX1_judge_0 5 rfl
theorem dX1_judge_10 : decode cX1_judge 10 = .ok (.iconst 0, 1) := getB' kX1_judge_0 6 rfl
theorem dX1_judge_11 : decode cX1_judge 11 = .ok (.istore 5, 2) := getB' kX1_judge_0 7 rfl
theorem dX1_judge_13 : decode cX1_judge 13 = .ok (.iload 5, 2) := getB' kX1_judge_0 8 rfl
theorem dX1_judge_15 : decode cX1_judge 15 = .ok (.aload_n 0, 1) := getB' kX1_judge_0 9 rfl
theorem dX1_judge_16 : decode cX1_judge 16 = .ok (.getfield 17, 3) := getB' kX1_judge_0 10 rfl
theorem dX1_judge_19 : decode cX1_judge 19 = .ok (.if_icmp .ge 184, 3) := getB' kX1_judge_0 11 rfl
def LX1_judge_1 : List (Nat × Instr × Nat) := [(22, .aload_n 0, 1), (23, .iload 5, 2), (25, .invokevirtual 75, 3), (28, .astore 6, 2), (30, .aload 6, 2), (32, .ifnull 165, 3), (35, .aload_n 0, 1), (36, .getfield 33, 3), (39, .iload 5, 2), (41, .invokestatic 88, 3), (44, .ifCond .ne 6, 3), (47, .goto 150, 3)]
theorem kX1_judge_1 : chkB cX1_judge LX1_judge_1 = true := by decide +kernel
theorem dX1_judge_22 : decode cX1_judge 22 = .ok (.aload_n 0, 1) := getB' kX1_judge_1 0 rfl
theorem dX1_judge_23 : decode cX1_judge 23 = .ok (.iload 5, 2) := getB' kX1_judge_1 1 rfl
theorem dX1_judge_25 : decode cX1_judge 25 = .ok (.invokevirtual 75, 3) := getB' kX1_judge_1 2 rfl
theorem dX1_judge_28 : decode cX1_judge 28 = .ok (.astore 6, 2) := getB' kX1_judge_1 3 rfl
theorem dX1_judge_30 : decode cX1_judge 30 = .ok (.aload 6, 2) := getB' kX1_judge_1 4 rfl
theorem dX1_judge_32 : decode cX1_judge 32 = .ok (.ifnull 165, 3) := getB' kX1_judge_1 5 rfl
theorem dX1_judge_35 : decode cX1_judge 35 = .ok (.aload_n 0, 1) := getB' kX1_judge_1 6 rfl
theorem dX1_judge_36 : decode cX1_judge 36 = .ok (.getfield 33, 3) := getB' kX1_judge_1 7 rfl
theorem dX1_judge_39 : decode cX1_judge 39 = .ok (.iload 5, 2) := getB' kX1_judge_1 8 rfl
theorem dX1_judge_41 : decode cX1_judge 41 = .ok (.invokestatic 88, 3) := getB' kX1_judge_1 9 rfl
theorem dX1_judge_44 : decode cX1_judge 44 = .ok (.ifCond .ne 6, 3) := getB' kX1_judge_1 10 rfl
theorem dX1_judge_47 : decode cX1_judge 47 = .ok (.goto 150, 3) := getB' kX1_judge_1 11 rfl
def LX1_judge_2 : List (Nat × Instr × Nat) := [(50, .iconst 0, 1), (51, .istore 7, 2), (53, .iload 7, 2), (55, .aload 6, 2), (57, .getfield 102, 3), (60, .getfield 105, 3), (63, .if_icmp .ge 134, 3), (66, .aload_n 0, 1), (67, .iload 5, 2), (69, .iload 7, 2), (71, .invokevirtual 123, 3), (74, .ifCond .eq 117, 3)]
theorem kX1_judge_2 : chkB cX1_judge LX1_judge_2 = true := by decide +kernel
theorem dX1_judge_50 : decode cX1_judge 50 = .ok (.iconst 0, 1) := getB' kX1_judge_2 0 rfl
theorem dX1_judge_51 : decode cX1_judge 51 = .ok (.istore 7, 2) := getB' kX1_judge_2 1 rfl
theorem dX1_judge_53 : decode cX1_judge 53 = .ok (.iload 7, 2) := getB' kX1_judge_2 2 rfl
theorem dX1_judge_55 : decode cX1_judge 55 = .ok (.aload 6, 2) := getB' kX1_judge_2 3 rfl
theorem dX1_judge_57 : decode cX1_judge 57 = .ok (.getfield 102, 3) := getB' kX1_judge_2 4 rfl
theorem dX1_judge_60 : decode cX1_judge 60 = .ok (.getfield 105, 3) := getB' kX1_judge_2 5 rfl
theorem dX1_judge_63 : decode cX1_judge 63 = .ok (.if_icmp .ge 134, 3) := getB' kX1_judge_2 6 rfl
theorem dX1_judge_66 : decode cX1_judge 66 = .ok (.aload_n 0, 1) := getB' kX1_judge_2 7 rfl
theorem dX1_judge_67 : decode cX1_judge 67 = .ok (.iload 5, 2) := getB' kX1_judge_2 8 rfl
theorem dX1_judge_69 : decode cX1_judge 69 = .ok (.iload 7, 2) := getB' kX1_judge_2 9 rfl
theorem dX1_judge_71 : decode cX1_judge 71 = .ok (.invokevirtual 123, 3) := getB' kX1_judge_2 10 rfl
theorem dX1_judge_74 : decode cX1_judge 74 = .ok (.ifCond .eq 117, 3) := getB' kX1_judge_2 11 rfl
def LX1_judge_3 : List (Nat × Instr × Nat) := [(77, .aload 6, 2), (79, .iload 7, 2), (81, .invokevirtual 127, 3), (84, .ifCond .ne 6, 3), (87, .goto 104, 3), (90, .iload_n 3, 1), (91, .ifCond .eq 18, 3), (94, .aload_n 0, 1), (95, .aload_n 1, 1), (96, .getfield 130, 3), (99, .iload 5, 2), (101, .iload 7, 2)]
theorem kX1_judge_3 : chkB cX1_judge LX1_judge_3 = true := by decide +kernel
theorem dX1_judge_77 : decode cX1_judge 77 = .ok (.aload 6, 2) := getB' kX1_judge_3 0 rfl
theorem dX1_judge_79 : decode cX1_judge 79 = .ok (.iload 7, 2) := getB' kX1_judge_3 1 rfl
theorem dX1_judge_81 : decode cX1_judge 81 = .ok (.invokevirtual 127, 3) := getB' kX1_judge_3 2 rfl
theorem dX1_judge_84 : decode cX1_judge 84 = .ok (.ifCond .ne 6, 3) := getB' kX1_judge_3 3 rfl
theorem dX1_judge_87 : decode cX1_judge 87 = .ok (.goto 104, 3) := getB' kX1_judge_3 4 rfl
theorem dX1_judge_90 : decode cX1_judge 90 = .ok (.iload_n 3, 1) := getB' kX1_judge_3 5 rfl
theorem dX1_judge_91 : decode cX1_judge 91 = .ok (.ifCond .eq 18, 3) := getB' kX1_judge_3 6 rfl
theorem dX1_judge_94 : decode cX1_judge 94 = .ok (.aload_n 0, 1) := getB' kX1_judge_3 7 rfl
theorem dX1_judge_95 : decode cX1_judge 95 = .ok (.aload_n 1, 1) := getB' kX1_judge_3 8 rfl
theorem dX1_judge_96 : decode cX1_judge 96 = .ok (.getfield 130, 3) := getB' kX1_judge_3 9 rfl
theorem dX1_judge_99 : decode cX1_judge 99 = .ok (.iload 5, 2) := getB' kX1_judge_3 10 rfl
theorem dX1_judge_101 : decode cX1_judge 101 = .ok (.iload 7, 2) := getB' kX1_judge_3 11 rfl
def LX1_judge_4 : List (Nat × Instr × Nat) := [(103, .invokevirtual 135, 3), (106, .goto 4, 3), (109, .aconst_null, 1), (110, .astore 8, 2), (112, .aload 8, 2), (114, .ifnonnull 14, 3), (117, .aload_n 0, 1), (118, .aload 6, 2), (120, .iload 7, 2), (122, .invokevirtual 139, 3), (125, .goto 10, 3), (128, .aload_n 0, 1)]
theorem kX1_judge_4 : chkB cX1_judge LX1_judge_4 = true := by decide +kernel
theorem dX1_judge_103 : decode cX1_judge 103 = .ok (.invokevirtual 135, 3) := getB' kX1_judge_4 0 rfl
theorem dX1_judge_106 : decode cX1_judge 106 = .ok (.goto 4, 3) := getB' kX1_judge_4 1 rfl
theorem dX1_judge_109 : decode cX1_judge 109 = .ok (.aconst_null, 1) := getB' kX1_judge_4 2 rfl
theorem dX1_judge_110 : decode cX1_judge 110 = .ok (.astore 8, 2) := getB' kX1_judge_4 3 rfl
theorem dX1_judge_112 : decode cX1_judge 112 = .ok (.aload 8, 2) := getB' kX1_judge_4 4 rfl
theorem dX1_judge_114 : decode cX1_judge 114 = .ok (.ifnonnull 14, 3) := getB' kX1_judge_4 5 rfl
theorem dX1_judge_117 : decode cX1_judge 117 = .ok (.aload_n 0, 1) := getB' kX1_judge_4 6 rfl
theorem dX1_judge_118 : decode cX1_judge 118 = .ok (.aload 6, 2) := getB' kX1_judge_4 7 rfl
theorem dX1_judge_120 : decode cX1_judge 120 = .ok (.iload 7, 2) := getB' kX1_judge_4 8 rfl
theorem dX1_judge_122 : decode cX1_judge 122 = .ok (.invokevirtual 139, 3) := getB' kX1_judge_4 9 rfl
theorem dX1_judge_125 : decode cX1_judge 125 = .ok (.goto 10, 3) := getB' kX1_judge_4 10 rfl
theorem dX1_judge_128 : decode cX1_judge 128 = .ok (.aload_n 0, 1) := getB' kX1_judge_4 11 rfl
def LX1_judge_5 : List (Nat × Instr × Nat) := [(129, .aload 8, 2), (131, .iconst 0, 1), (132, .invokevirtual 139, 3), (135, .istore 9, 2), (137, .iload 9, 2), (139, .bipush (-2), 2), (141, .if_icmp .ne 8, 3), (144, .bipush 6, 2), (146, .goto 23, 3), (149, .iload 9, 2), (151, .ifCond .ne 7, 3), (154, .iconst 0, 1)]
theorem kX1_judge_5 : chkB cX1_judge LX1_judge_5 = true := by decide +kernel
theorem dX1_judge_129 : decode cX1_judge 129 = .ok (.aload 8, 2) := getB' kX1_judge_5 0 rfl
theorem dX1_judge_131 : decode cX1_judge 131 = .ok (.iconst 0, 1) := getB' kX1_judge_5 1 rfl
theorem dX1_judge_132 : decode cX1_judge 132 = .ok (.invokevirtual 139, 3) := getB' kX1_judge_5 2 rfl
theorem dX1_judge_135 : decode cX1_judge 135 = .ok (.istore 9, 2) := getB' kX1_judge_5 3 rfl
theorem dX1_judge_137 : decode cX1_judge 137 = .ok (.iload 9, 2) := getB' kX1_judge_5 4 rfl
theorem dX1_judge_139 : decode cX1_judge 139 = .ok (.bipush (-2), 2) := getB' kX1_judge_5 5 rfl
theorem dX1_judge_141 : decode cX1_judge 141 = .ok (.if_icmp .ne 8, 3) := getB' kX1_judge_5 6 rfl
theorem dX1_judge_144 : decode cX1_judge 144 = .ok (.bipush 6, 2) := getB' kX1_judge_5 7 rfl
theorem dX1_judge_146 : decode cX1_judge 146 = .ok (.goto 23, 3) := getB' kX1_judge_5 8 rfl
theorem dX1_judge_149 : decode cX1_judge 149 = .ok (.iload 9, 2) := getB' kX1_judge_5 9 rfl
theorem dX1_judge_151 : decode cX1_judge 151 = .ok (.ifCond .ne 7, 3) := getB' kX1_judge_5 10 rfl
theorem dX1_judge_154 : decode cX1_judge 154 = .ok (.iconst 0, 1) := getB' kX1_judge_5 11 rfl
def LX1_judge_6 : List (Nat × Instr × Nat) := [(155, .goto 14, 3), (158, .aload 6, 2), (160, .iload 7, 2), (162, .aload_n 1, 1), (163, .iload_n 2, 1), (164, .iload 4, 2), (166, .invokestatic 143, 3), (169, .istore 10, 2), (171, .iload 10, 2), (173, .ifCond .eq 18, 3), (176, .aload_n 0, 1), (177, .iload 5, 2)]
theorem kX1_judge_6 : chkB cX1_judge LX1_judge_6 = true := by decide +kernel
theorem dX1_judge_155 : decode cX1_judge 155 = .ok (.goto 14, 3) := getB' kX1_judge_6 0 rfl
theorem dX1_judge_158 : decode cX1_judge 158 = .ok (.aload 6, 2) := getB' kX1_judge_6 1 rfl
theorem dX1_judge_160 : decode cX1_judge 160 = .ok (.iload 7, 2) := getB' kX1_judge_6 2 rfl
theorem dX1_judge_162 : decode cX1_judge 162 = .ok (.aload_n 1, 1) := getB' kX1_judge_6 3 rfl
theorem dX1_judge_163 : decode cX1_judge 163 = .ok (.iload_n 2, 1) := getB' kX1_judge_6 4 rfl
theorem dX1_judge_164 : decode cX1_judge 164 = .ok (.iload 4, 2) := getB' kX1_judge_6 5 rfl
theorem dX1_judge_166 : decode cX1_judge 166 = .ok (.invokestatic 143, 3) := getB' kX1_judge_6 6 rfl
theorem dX1_judge_169 : decode cX1_judge 169 = .ok (.istore 10, 2) := getB' kX1_judge_6 7 rfl
theorem dX1_judge_171 : decode cX1_judge 171 = .ok (.iload 10, 2) := getB' kX1_judge_6 8 rfl
theorem dX1_judge_173 : decode cX1_judge 173 = .ok (.ifCond .eq 18, 3) := getB' kX1_judge_6 9 rfl
theorem dX1_judge_176 : decode cX1_judge 176 = .ok (.aload_n 0, 1) := getB' kX1_judge_6 10 rfl
theorem dX1_judge_177 : decode cX1_judge 177 = .ok (.iload 5, 2) := getB' kX1_judge_6 11 rfl
def LX1_judge_7 : List (Nat × Instr × Nat) := [(179, .putfield 55, 3), (182, .aload_n 0, 1), (183, .iload 7, 2), (185, .putfield 58, 3), (188, .iload 10, 2), (190, .ireturn, 1), (191, .iinc 7 1, 3), (194, .goto (-141), 3), (197, .iinc 5 1, 3), (200, .goto (-187), 3), (203, .iconst 0, 1), (204, .ireturn, 1)]
theorem kX1_judge_7 : chkB cX1_judge LX1_judge_7 = true := by decide +kernel
theorem dX1_judge_179 : decode cX1_judge 179 = .ok (.putfield 55, 3) := getB' kX1_judge_7 0 rfl
theorem dX1_judge_182 : decode cX1_judge 182 = .ok (.aload_n 0, 1) := getB' kX1_judge_7 1 rfl
theorem dX1_judge_183 : decode cX1_judge 183 = .ok (.iload 7, 2) := getB' kX1_judge_7 2 rfl
theorem dX1_judge_185 : decode cX1_judge 185 = .ok (.putfield 58, 3) := getB' kX1_judge_7 3 rfl
theorem dX1_judge_188 : decode cX1_judge 188 = .ok (.iload 10, 2) := getB' kX1_judge_7 4 rfl
theorem dX1_judge_190 : decode cX1_judge 190 = .ok (.ireturn, 1) := getB' kX1_judge_7 5 rfl
theorem dX1_judge_191 : decode cX1_judge 191 = .ok (.iinc 7 1, 3) := getB' kX1_judge_7 6 rfl
theorem dX1_judge_194 : decode cX1_judge 194 = .ok (.goto (-141), 3) := getB' kX1_judge_7 7 rfl
theorem dX1_judge_197 : decode cX1_judge 197 = .ok (.iinc 5 1, 3) := getB' kX1_judge_7 8 rfl
theorem dX1_judge_200 : decode cX1_judge 200 = .ok (.goto (-187), 3) := getB' kX1_judge_7 9 rfl
theorem dX1_judge_203 : decode cX1_judge 203 = .ok (.iconst 0, 1) := getB' kX1_judge_7 10 rfl
theorem dX1_judge_204 : decode cX1_judge 204 = .ok (.ireturn, 1) := getB' kX1_judge_7 11 rfl
def LX1_readingOf_0 : List (Nat × Instr × Nat) := [(0, .aload_n 0, 1), (1, .getfield 26, 3), (4, .getfield 105, 3), (7, .iconst 1, 1), (8, .isub, 1), (9, .istore 4, 2), (11, .iload 4, 2), (13, .ifCond .lt 81, 3), (16, .aload_n 0, 1), (17, .getfield 26, 3), (20, .iload 4, 2), (22, .iconst 0, 1)]
theorem kX1_readingOf_0 : chkB cX1_readingOf LX1_readingOf_0 = true := by decide +kernel
theorem dX1_readingOf_0 : decode cX1_readingOf 0 = .ok (.aload_n 0, 1) := getB' kX1_readingOf_0 0 rfl
theorem dX1_readingOf_1 : decode cX1_readingOf 1 = .ok (.getfield 26, 3) := getB' kX1_readingOf_0 1 rfl
theorem dX1_readingOf_4 : decode cX1_readingOf 4 = .ok (.getfield 105, 3) := getB' kX1_readingOf_0 2 rfl
theorem dX1_readingOf_7 : decode cX1_readingOf 7 = .ok (.iconst 1, 1) := getB' kX1_readingOf_0 3 rfl
theorem dX1_readingOf_8 : decode cX1_readingOf 8 = .ok (.isub, 1) := getB' kX1_readingOf_0 4 rfl
theorem dX1_readingOf_9 : decode cX1_readingOf 9 = .ok (.istore 4, 2) := getB' kX1_readingOf_0 5 rfl
theorem dX1_readingOf_11 : decode cX1_readingOf 11 = .ok (.iload 4, 2) := getB' kX1_readingOf_0 6 rfl
theorem dX1_readingOf_13 : decode cX1_readingOf 13 = .ok (.ifCond .lt 81, 3) := getB' kX1_readingOf_0 7 rfl
theorem dX1_readingOf_16 : decode cX1_readingOf 16 = .ok (.aload_n 0, 1) := getB' kX1_readingOf_0 8 rfl
theorem dX1_readingOf_17 : decode cX1_readingOf 17 = .ok (.getfield 26, 3) := getB' kX1_readingOf_0 9 rfl
theorem dX1_readingOf_20 : decode cX1_readingOf 20 = .ok (.iload 4, 2) := getB' kX1_readingOf_0 10 rfl
theorem dX1_readingOf_22 : decode cX1_readingOf 22 = .ok (.iconst 0, 1) := getB' kX1_readingOf_0 11 rfl
def LX1_readingOf_1 : List (Nat × Instr × Nat) := [(23, .invokevirtual 116, 3), (26, .iload_n 1, 1), (27, .if_icmp .ne 35, 3), (30, .aload_n 0, 1), (31, .getfield 26, 3), (34, .iload 4, 2), (36, .iconst 1, 1), (37, .invokevirtual 116, 3), (40, .iload_n 2, 1), (41, .if_icmp .ne 21, 3), (44, .aload_n 0, 1), (45, .getfield 26, 3)]
theorem kX1_readingOf_1 : chkB cX1_readingOf LX1_readingOf_1 = true := by decide +kernel
theorem dX1_readingOf_23 : decode cX1_readingOf 23 = .ok (.invokevirtual 116, 3) := getB' kX1_readingOf_1 0 rfl
theorem dX1_readingOf_26 : decode cX1_readingOf 26 = .ok (.iload_n 1, 1) := getB' kX1_readingOf_1 1 rfl
theorem dX1_readingOf_27 : decode cX1_readingOf 27 = .ok (.if_icmp .ne 35, 3) := getB' kX1_readingOf_1 2 rfl
theorem dX1_readingOf_30 : decode cX1_readingOf 30 = .ok (.aload_n 0, 1) := getB' kX1_readingOf_1 3 rfl
theorem dX1_readingOf_31 : decode cX1_readingOf 31 = .ok (.getfield 26, 3) := getB' kX1_readingOf_1 4 rfl
theorem dX1_readingOf_34 : decode cX1_readingOf 34 = .ok (.iload 4, 2) := getB' kX1_readingOf_1 5 rfl
theorem dX1_readingOf_36 : decode cX1_readingOf 36 = .ok (.iconst 1, 1) := getB' kX1_readingOf_1 6 rfl
theorem dX1_readingOf_37 : decode cX1_readingOf 37 = .ok (.invokevirtual 116, 3) := getB' kX1_readingOf_1 7 rfl
theorem dX1_readingOf_40 : decode cX1_readingOf 40 = .ok (.iload_n 2, 1) := getB' kX1_readingOf_1 8 rfl
theorem dX1_readingOf_41 : decode cX1_readingOf 41 = .ok (.if_icmp .ne 21, 3) := getB' kX1_readingOf_1 9 rfl
theorem dX1_readingOf_44 : decode cX1_readingOf 44 = .ok (.aload_n 0, 1) := getB' kX1_readingOf_1 10 rfl
theorem dX1_readingOf_45 : decode cX1_readingOf 45 = .ok (.getfield 26, 3) := getB' kX1_readingOf_1 11 rfl
def LX1_readingOf_2 : List (Nat × Instr × Nat) := [(48, .iload 4, 2), (50, .iconst 2, 1), (51, .invokevirtual 116, 3), (54, .iload_n 3, 1), (55, .if_icmp .ne 7, 3), (58, .iconst 1, 1), (59, .goto 4, 3), (62, .iconst 0, 1), (63, .istore 5, 2), (65, .iload 5, 2), (67, .ifCond .eq 21, 3), (70, .iload 4, 2)]
theorem kX1_readingOf_2 : chkB cX1_readingOf LX1_readingOf_2 = true := by decide +kernel
theorem dX1_readingOf_48 : decode cX1_readingOf 48 = .ok (.iload 4, 2) := getB' kX1_readingOf_2 0 rfl
theorem dX1_readingOf_50 : decode cX1_readingOf 50 = .ok (.iconst 2, 1) := getB' kX1_readingOf_2 1 rfl
theorem dX1_readingOf_51 : decode cX1_readingOf 51 = .ok (.invokevirtual 116, 3) := getB' kX1_readingOf_2 2 rfl
theorem dX1_readingOf_54 : decode cX1_readingOf 54 = .ok (.iload_n 3, 1) := getB' kX1_readingOf_2 3 rfl
theorem dX1_readingOf_55 : decode cX1_readingOf 55 = .ok (.if_icmp .ne 7, 3) := getB' kX1_readingOf_2 4 rfl
theorem dX1_readingOf_58 : decode cX1_readingOf 58 = .ok (.iconst 1, 1) := getB' kX1_readingOf_2 5 rfl
theorem dX1_readingOf_59 : decode cX1_readingOf 59 = .ok (.goto 4, 3) := getB' kX1_readingOf_2 6 rfl
theorem dX1_readingOf_62 : decode cX1_readingOf 62 = .ok (.iconst 0, 1) := getB' kX1_readingOf_2 7 rfl
theorem dX1_readingOf_63 : decode cX1_readingOf 63 = .ok (.istore 5, 2) := getB' kX1_readingOf_2 8 rfl
theorem dX1_readingOf_65 : decode cX1_readingOf 65 = .ok (.iload 5, 2) := getB' kX1_readingOf_2 9 rfl
theorem dX1_readingOf_67 : decode cX1_readingOf 67 = .ok (.ifCond .eq 21, 3) := getB' kX1_readingOf_2 10 rfl
theorem dX1_readingOf_70 : decode cX1_readingOf 70 = .ok (.iload 4, 2) := getB' kX1_readingOf_2 11 rfl
def LX1_readingOf_3 : List (Nat × Instr × Nat) := [(72, .aload_n 0, 1), (73, .getfield 30, 3), (76, .arraylength, 1), (77, .if_icmp .ge 11, 3), (80, .aload_n 0, 1), (81, .getfield 30, 3), (84, .iload 4, 2), (86, .aaload, 1), (87, .areturn, 1), (88, .iinc 4 (-1), 3), (91, .goto (-80), 3), (94, .aconst_null, 1)]
theorem kX1_readingOf_3 : chkB cX1_readingOf LX1_readingOf_3 = true := by decide +kernel
theorem dX1_readingOf_72 : decode cX1_readingOf 72 = .ok (.aload_n 0, 1) := getB' kX1_readingOf_3 0 rfl
theorem dX1_readingOf_73 : decode cX1_readingOf 73 = .ok (.getfield 30, 3) := getB' kX1_readingOf_3 1 rfl
theorem dX1_readingOf_76 : decode cX1_readingOf 76 = .ok (.arraylength, 1) := getB' kX1_readingOf_3 2 rfl
theorem dX1_readingOf_77 : decode cX1_readingOf 77 = .ok (.if_icmp .ge 11, 3) := getB' kX1_readingOf_3 3 rfl
theorem dX1_readingOf_80 : decode cX1_readingOf 80 = .ok (.aload_n 0, 1) := getB' kX1_readingOf_3 4 rfl
theorem dX1_readingOf_81 : decode cX1_readingOf 81 = .ok (.getfield 30, 3) := getB' kX1_readingOf_3 5 rfl
theorem dX1_readingOf_84 : decode cX1_readingOf 84 = .ok (.iload 4, 2) := getB' kX1_readingOf_3 6 rfl
theorem dX1_readingOf_86 : decode cX1_readingOf 86 = .ok (.aaload, 1) := getB' kX1_readingOf_3 7 rfl
theorem dX1_readingOf_87 : decode cX1_readingOf 87 = .ok (.areturn, 1) := getB' kX1_readingOf_3 8 rfl
theorem dX1_readingOf_88 : decode cX1_readingOf 88 = .ok (.iinc 4 (-1), 3) := getB' kX1_readingOf_3 9 rfl
theorem dX1_readingOf_91 : decode cX1_readingOf 91 = .ok (.goto (-80), 3) := getB' kX1_readingOf_3 10 rfl
theorem dX1_readingOf_94 : decode cX1_readingOf 94 = .ok (.aconst_null, 1) := getB' kX1_readingOf_3 11 rfl
def LX1_readingOf_4 : List (Nat × Instr × Nat) := [(95, .areturn, 1)]
theorem kX1_readingOf_4 : chkB cX1_readingOf LX1_readingOf_4 = true := by decide +kernel
theorem dX1_readingOf_95 : decode cX1_readingOf 95 = .ok (.areturn, 1) := getB' kX1_readingOf_4 0 rfl
def LX1_bar_0 : List (Nat × Instr × Nat) := [(0, .aload_n 2, 1), (1, .getfield 147, 3), (4, .aload_n 0, 1), (5, .getfield 102, 3), (8, .iload_n 1, 1), (9, .iconst 1, 1), (10, .invokevirtual 116, 3), (13, .isub, 1), (14, .istore 5, 2), (16, .aload_n 0, 1), (17, .iload_n 1, 1), (18, .invokevirtual 119, 3)]
theorem kX1_bar_0 : chkB cX1_bar LX1_bar_0 = true := by decide +kernel
theorem dX1_bar_0 : decode cX1_bar 0 = .ok (.aload_n 2, 1) := getB' kX1_bar_0 0 rfl
theorem dX1_bar_1 : decode cX1_bar 1 = .ok (.getfield 147, 3) := getB' kX1_bar_0 1 rfl
theorem dX1_bar_4 : decode cX1_bar 4 = .ok (.aload_n 0, 1) := getB' kX1_bar_0 2 rfl
theorem dX1_bar_5 : decode cX1_bar 5 = .ok (.getfield 102, 3) := getB' kX1_bar_0 3 rfl
theorem dX1_bar_8 : decode cX1_bar 8 = .ok (.iload_n 1, 1) := getB' kX1_bar_0 4 rfl
theorem dX1_bar_9 : decode cX1_bar 9 = .ok (.iconst 1, 1) := getB' kX1_bar_0 5 rfl
theorem dX1_bar_10 : decode cX1_bar 10 = .ok (.invokevirtual 116, 3) := getB' kX1_bar_0 6 rfl
theorem dX1_bar_13 : decode cX1_bar 13 = .ok (.isub, 1) := getB' kX1_bar_0 7 rfl
theorem dX1_bar_14 : decode cX1_bar 14 = .ok (.istore 5, 2) := getB' kX1_bar_0 8 rfl
theorem dX1_bar_16 : decode cX1_bar 16 = .ok (.aload_n 0, 1) := getB' kX1_bar_0 9 rfl
theorem dX1_bar_17 : decode cX1_bar 17 = .ok (.iload_n 1, 1) := getB' kX1_bar_0 10 rfl
theorem dX1_bar_18 : decode cX1_bar 18 = .ok (.invokevirtual 119, 3) := getB' kX1_bar_0 11 rfl
def LX1_bar_1 : List (Nat × Instr × Nat) := [(21, .lookupswitch 117 #[(99, 106), (102, 51), (108, 53), (110, 70), (115, 88)], 51), (72, .iconst 1, 1), (73, .ireturn, 1), (74, .aload_n 2, 1), (75, .getfield 150, 3), (78, .iload_n 3, 1), (79, .invokestatic 153, 3), (82, .ifCond .eq 7, 3), (85, .iconst 0, 1), (86, .goto 4, 3), (89, .iconst 2, 1), (90, .ireturn, 1)]
theorem kX1_bar_1 : chkB cX1_bar LX1_bar_1 = true := by decide +kernel
theorem dX1_bar_21 : decode cX1_bar 21 = .ok (.lookupswitch 117 #[(99, 106), (102, 51), (108, 53), (110, 70), (115, 88)], 51) := getB' kX1_bar_1 0 rfl
theorem dX1_bar_72 : decode cX1_bar 72 = .ok (.iconst 1, 1) := getB' kX1_bar_1 1 rfl
theorem dX1_bar_73 : decode cX1_bar 73 = .ok (.ireturn, 1) := getB' kX1_bar_1 2 rfl
theorem dX1_bar_74 : decode cX1_bar 74 = .ok (.aload_n 2, 1) := getB' kX1_bar_1 3 rfl
theorem dX1_bar_75 : decode cX1_bar 75 = .ok (.getfield 150, 3) := getB' kX1_bar_1 4 rfl
theorem dX1_bar_78 : decode cX1_bar 78 = .ok (.iload_n 3, 1) := getB' kX1_bar_1 5 rfl
theorem dX1_bar_79 : decode cX1_bar 79 = .ok (.invokestatic 153, 3) := getB' kX1_bar_1 6 rfl
theorem dX1_bar_82 : decode cX1_bar 82 = .ok (.ifCond .eq 7, 3) := getB' kX1_bar_1 7 rfl
theorem dX1_bar_85 : decode cX1_bar 85 = .ok (.iconst 0, 1) := getB' kX1_bar_1 8 rfl
theorem dX1_bar_86 : decode cX1_bar 86 = .ok (.goto 4, 3) := getB' kX1_bar_1 9 rfl
theorem dX1_bar_89 : decode cX1_bar 89 = .ok (.iconst 2, 1) := getB' kX1_bar_1 10 rfl
theorem dX1_bar_90 : decode cX1_bar 90 = .ok (.ireturn, 1) := getB' kX1_bar_1 11 rfl
def LX1_bar_2 : List (Nat × Instr × Nat) := [(91, .aload_n 2, 1), (92, .getfield 156, 3), (95, .iload 5, 2), (97, .invokestatic 153, 3), (100, .ifCond .eq 7, 3), (103, .iconst 0, 1), (104, .goto 4, 3), (107, .iconst 3, 1), (108, .ireturn, 1), (109, .aload_n 2, 1), (110, .getfield 159, 3), (113, .iload 5, 2)]
theorem kX1_bar_2 : chkB cX1_bar LX1_bar_2 = true := by decide +kernel
theorem dX1_bar_91 : decode cX1_bar 91 = .ok (.aload_n 2, 1) := getB' kX1_bar_2 0 rfl
theorem dX1_bar_92 : decode cX1_bar 92 = .ok (.getfield 156, 3) := getB' kX1_bar_2 1 rfl
theorem dX1_bar_95 : decode cX1_bar 95 = .ok (.iload 5, 2) := getB' kX1_bar_2 2 rfl
theorem dX1_bar_97 : decode cX1_bar 97 = .ok (.invokestatic 153, 3) := getB' kX1_bar_2 3 rfl
theorem dX1_bar_100 : decode cX1_bar 100 = .ok (.ifCond .eq 7, 3) := getB' kX1_bar_2 4 rfl
theorem dX1_bar_103 : decode cX1_bar 103 = .ok (.iconst 0, 1) := getB' kX1_bar_2 5 rfl
theorem dX1_bar_104 : decode cX1_bar 104 = .ok (.goto 4, 3) := getB' kX1_bar_2 6 rfl
theorem dX1_bar_107 : decode cX1_bar 107 = .ok (.iconst 3, 1) := getB' kX1_bar_2 7 rfl
theorem dX1_bar_108 : decode cX1_bar 108 = .ok (.ireturn, 1) := getB' kX1_bar_2 8 rfl
theorem dX1_bar_109 : decode cX1_bar 109 = .ok (.aload_n 2, 1) := getB' kX1_bar_2 9 rfl
theorem dX1_bar_110 : decode cX1_bar 110 = .ok (.getfield 159, 3) := getB' kX1_bar_2 10 rfl
theorem dX1_bar_113 : decode cX1_bar 113 = .ok (.iload 5, 2) := getB' kX1_bar_2 11 rfl
def LX1_bar_3 : List (Nat × Instr × Nat) := [(115, .invokestatic 153, 3), (118, .ifCond .eq 7, 3), (121, .iconst 0, 1), (122, .goto 4, 3), (125, .iconst 4, 1), (126, .ireturn, 1), (127, .iload 4, 2), (129, .ifCond .eq 7, 3), (132, .iconst 0, 1), (133, .goto 4, 3), (136, .iconst 5, 1), (137, .ireturn, 1)]
theorem kX1_bar_3 : chkB cX1_bar LX1_bar_3 = true := by decide +kernel
theorem dX1_bar_115 : decode cX1_bar 115 = .ok (.invokestatic 153, 3) := getB' kX1_bar_3 0 rfl
theorem dX1_bar_118 : decode cX1_bar 118 = .ok (.ifCond .eq 7, 3) := getB' kX1_bar_3 1 rfl
theorem dX1_bar_121 : decode cX1_bar 121 = .ok (.iconst 0, 1) := getB' kX1_bar_3 2 rfl
theorem dX1_bar_122 : decode cX1_bar 122 = .ok (.goto 4, 3) := getB' kX1_bar_3 3 rfl
theorem dX1_bar_125 : decode cX1_bar 125 = .ok (.iconst 4, 1) := getB' kX1_bar_3 4 rfl
theorem dX1_bar_126 : decode cX1_bar 126 = .ok (.ireturn, 1) := getB' kX1_bar_3 5 rfl
theorem dX1_bar_127 : decode cX1_bar 127 = .ok (.iload 4, 2) := getB' kX1_bar_3 6 rfl
theorem dX1_bar_129 : decode cX1_bar 129 = .ok (.ifCond .eq 7, 3) := getB' kX1_bar_3 7 rfl
theorem dX1_bar_132 : decode cX1_bar 132 = .ok (.iconst 0, 1) := getB' kX1_bar_3 8 rfl
theorem dX1_bar_133 : decode cX1_bar 133 = .ok (.goto 4, 3) := getB' kX1_bar_3 9 rfl
theorem dX1_bar_136 : decode cX1_bar 136 = .ok (.iconst 5, 1) := getB' kX1_bar_3 10 rfl
theorem dX1_bar_137 : decode cX1_bar 137 = .ok (.ireturn, 1) := getB' kX1_bar_3 11 rfl
def LX1_bar_4 : List (Nat × Instr × Nat) := [(138, .iconst 0, 1), (139, .ireturn, 1)]
theorem kX1_bar_4 : chkB cX1_bar LX1_bar_4 = true := by decide +kernel
theorem dX1_bar_138 : decode cX1_bar 138 = .ok (.iconst 0, 1) := getB' kX1_bar_4 0 rfl
theorem dX1_bar_139 : decode cX1_bar 139 = .ok (.ireturn, 1) := getB' kX1_bar_4 1 rfl
def LX1_wasTold : List (Nat × Instr × Nat) := [(0, .iload_n 0, 1), (1, .iconst (-1), 1), (2, .if_icmp .eq 12, 3), (5, .iload_n 0, 1), (6, .iload_n 1, 1), (7, .if_icmp .gt 7, 3), (10, .iconst 1, 1), (11, .goto 4, 3), (14, .iconst 0, 1), (15, .ireturn, 1)]
theorem kX1_wasTold : chkB cX1_wasTold LX1_wasTold = true := by decide +kernel
theorem dX1_wasTold_0 : decode cX1_wasTold 0 = .ok (.iload_n 0, 1) := getB' kX1_wasTold 0 rfl
theorem dX1_wasTold_1 : decode cX1_wasTold 1 = .ok (.iconst (-1), 1) := getB' kX1_wasTold 1 rfl
theorem dX1_wasTold_2 : decode cX1_wasTold 2 = .ok (.if_icmp .eq 12, 3) := getB' kX1_wasTold 2 rfl
theorem dX1_wasTold_5 : decode cX1_wasTold 5 = .ok (.iload_n 0, 1) := getB' kX1_wasTold 3 rfl
theorem dX1_wasTold_6 : decode cX1_wasTold 6 = .ok (.iload_n 1, 1) := getB' kX1_wasTold 4 rfl
theorem dX1_wasTold_7 : decode cX1_wasTold 7 = .ok (.if_icmp .gt 7, 3) := getB' kX1_wasTold 5 rfl
theorem dX1_wasTold_10 : decode cX1_wasTold 10 = .ok (.iconst 1, 1) := getB' kX1_wasTold 6 rfl
theorem dX1_wasTold_11 : decode cX1_wasTold 11 = .ok (.goto 4, 3) := getB' kX1_wasTold 7 rfl
theorem dX1_wasTold_14 : decode cX1_wasTold 14 = .ok (.iconst 0, 1) := getB' kX1_wasTold 8 rfl
theorem dX1_wasTold_15 : decode cX1_wasTold 15 = .ok (.ireturn, 1) := getB' kX1_wasTold 9 rfl
def LX1_holds_0 : List (Nat × Instr × Nat) := [(0, .aload_n 1, 1), (1, .getfield 102, 3), (4, .iload_n 2, 1), (5, .iconst 4, 1), (6, .invokevirtual 116, 3), (9, .istore_n 3, 1), (10, .aload_n 1, 1), (11, .getfield 102, 3), (14, .iload_n 2, 1), (15, .iconst 5, 1), (16, .invokevirtual 116, 3), (19, .istore 4, 2)]
theorem kX1_holds_0 : chkB cX1_holds LX1_holds_0 = true := by decide +kernel
theorem dX1_holds_0 : decode cX1_holds 0 = .ok (.aload_n 1, 1) := getB' kX1_holds_0 0 rfl
theorem dX1_holds_1 : decode cX1_holds 1 = .ok (.getfield 102, 3) := getB' kX1_holds_0 1 rfl
theorem dX1_holds_4 : decode cX1_holds 4 = .ok (.iload_n 2, 1) := getB' kX1_holds_0 2 rfl
theorem dX1_holds_5 : decode cX1_holds 5 = .ok (.iconst 4, 1) := getB' kX1_holds_0 3 rfl
theorem dX1_holds_6 : decode cX1_holds 6 = .ok (.invokevirtual 116, 3) := getB' kX1_holds_0 4 rfl
theorem dX1_holds_9 : decode cX1_holds 9 = .ok (.istore_n 3, 1) := getB' kX1_holds_0 5 rfl
theorem dX1_holds_10 : decode cX1_holds 10 = .ok (.aload_n 1, 1) := getB' kX1_holds_0 6 rfl
theorem dX1_holds_11 : decode cX1_holds 11 = .ok (.getfield 102, 3) := getB' kX1_holds_0 7 rfl
theorem dX1_holds_14 : decode cX1_holds 14 = .ok (.iload_n 2, 1) := getB' kX1_holds_0 8 rfl
theorem dX1_holds_15 : decode cX1_holds 15 = .ok (.iconst 5, 1) := getB' kX1_holds_0 9 rfl
theorem dX1_holds_16 : decode cX1_holds 16 = .ok (.invokevirtual 116, 3) := getB' kX1_holds_0 10 rfl
theorem dX1_holds_19 : decode cX1_holds 19 = .ok (.istore 4, 2) := getB' kX1_holds_0 11 rfl
def LX1_holds_1 : List (Nat × Instr × Nat) := [(21, .aload_n 0, 1), (22, .iconst 0, 1), (23, .putfield 52, 3), (26, .iconst 0, 1), (27, .istore 5, 2), (29, .iload 5, 2), (31, .sipush 200, 3), (34, .if_icmp .ge 191, 3), (37, .iload_n 3, 1), (38, .iload 4, 2), (40, .if_icmp .ge 185, 3), (43, .aload_n 1, 1)]
theorem kX1_holds_1 : chkB cX1_holds LX1_holds_1 = true := by decide +kernel
theorem dX1_holds_21 : decode cX1_holds 21 = .ok (.aload_n 0, 1) := getB' kX1_holds_1 0 rfl
theorem dX1_holds_22 : decode cX1_holds 22 = .ok (.iconst 0, 1) := getB' kX1_holds_1 1 rfl
theorem dX1_holds_23 : decode cX1_holds 23 = .ok (.putfield 52, 3) := getB' kX1_holds_1 2 rfl
theorem dX1_holds_26 : decode cX1_holds 26 = .ok (.iconst 0, 1) := getB' kX1_holds_1 3 rfl
theorem dX1_holds_27 : decode cX1_holds 27 = .ok (.istore 5, 2) := getB' kX1_holds_1 4 rfl
theorem dX1_holds_29 : decode cX1_holds 29 = .ok (.iload 5, 2) := getB' kX1_holds_1 5 rfl
theorem dX1_holds_31 : decode cX1_holds 31 = .ok (.sipush 200, 3) := getB' kX1_holds_1 6 rfl
theorem dX1_holds_34 : decode cX1_holds 34 = .ok (.if_icmp .ge 191, 3) := getB' kX1_holds_1 7 rfl
theorem dX1_holds_37 : decode cX1_holds 37 = .ok (.iload_n 3, 1) := getB' kX1_holds_1 8 rfl
theorem dX1_holds_38 : decode cX1_holds 38 = .ok (.iload 4, 2) := getB' kX1_holds_1 9 rfl
theorem dX1_holds_40 : decode cX1_holds 40 = .ok (.if_icmp .ge 185, 3) := getB' kX1_holds_1 10 rfl
theorem dX1_holds_43 : decode cX1_holds 43 = .ok (.aload_n 1, 1) := getB' kX1_holds_1 11 rfl
def LX1_holds_2 : List (Nat × Instr × Nat) := [(44, .getfield 162, 3), (47, .iload_n 3, 1), (48, .invokestatic 88, 3), (51, .bipush 31, 2), (53, .iand, 1), (54, .istore 6, 2), (56, .aload_n 1, 1), (57, .getfield 162, 3), (60, .iload_n 3, 1), (61, .invokestatic 88, 3), (64, .iconst 5, 1), (65, .ishr, 1)]
theorem kX1_holds_2 : chkB cX1_holds LX1_holds_2 = true := by decide +kernel
theorem dX1_holds_44 : decode cX1_holds 44 = .ok (.getfield 162, 3) := getB' kX1_holds_2 0 rfl
theorem dX1_holds_47 : decode cX1_holds 47 = .ok (.iload_n 3, 1) := getB' kX1_holds_2 1 rfl
theorem dX1_holds_48 : decode cX1_holds 48 = .ok (.invokestatic 88, 3) := getB' kX1_holds_2 2 rfl
theorem dX1_holds_51 : decode cX1_holds 51 = .ok (.bipush 31, 2) := getB' kX1_holds_2 3 rfl
theorem dX1_holds_53 : decode cX1_holds 53 = .ok (.iand, 1) := getB' kX1_holds_2 4 rfl
theorem dX1_holds_54 : decode cX1_holds 54 = .ok (.istore 6, 2) := getB' kX1_holds_2 5 rfl
theorem dX1_holds_56 : decode cX1_holds 56 = .ok (.aload_n 1, 1) := getB' kX1_holds_2 6 rfl
theorem dX1_holds_57 : decode cX1_holds 57 = .ok (.getfield 162, 3) := getB' kX1_holds_2 7 rfl
theorem dX1_holds_60 : decode cX1_holds 60 = .ok (.iload_n 3, 1) := getB' kX1_holds_2 8 rfl
theorem dX1_holds_61 : decode cX1_holds 61 = .ok (.invokestatic 88, 3) := getB' kX1_holds_2 9 rfl
theorem dX1_holds_64 : decode cX1_holds 64 = .ok (.iconst 5, 1) := getB' kX1_holds_2 10 rfl
theorem dX1_holds_65 : decode cX1_holds 65 = .ok (.ishr, 1) := getB' kX1_holds_2 11 rfl
def LX1_holds_3 : List (Nat × Instr × Nat) := [(66, .istore 7, 2), (68, .iinc 3 1, 3), (71, .iload 6, 2), (73, .ifCond .ne 12, 3), (76, .aload_n 0, 1), (77, .iload 7, 2), (79, .invokevirtual 165, 3), (82, .goto 137, 3), (85, .iload 6, 2), (87, .iconst 1, 1), (88, .if_icmp .ne 19, 3), (91, .aload_n 0, 1)]
theorem kX1_holds_3 : chkB cX1_holds LX1_holds_3 = true := by decide +kernel
theorem dX1_holds_66 : decode cX1_holds 66 = .ok (.istore 7, 2) := getB' kX1_holds_3 0 rfl
theorem dX1_holds_68 : decode cX1_holds 68 = .ok (.iinc 3 1, 3) := getB' kX1_holds_3 1 rfl
theorem dX1_holds_71 : decode cX1_holds 71 = .ok (.iload 6, 2) := getB' kX1_holds_3 2 rfl
theorem dX1_holds_73 : decode cX1_holds 73 = .ok (.ifCond .ne 12, 3) := getB' kX1_holds_3 3 rfl
theorem dX1_holds_76 : decode cX1_holds 76 = .ok (.aload_n 0, 1) := getB' kX1_holds_3 4 rfl
theorem dX1_holds_77 : decode cX1_holds 77 = .ok (.iload 7, 2) := getB' kX1_holds_3 5 rfl
theorem dX1_holds_79 : decode cX1_holds 79 = .ok (.invokevirtual 165, 3) := getB' kX1_holds_3 6 rfl
theorem dX1_holds_82 : decode cX1_holds 82 = .ok (.goto 137, 3) := getB' kX1_holds_3 7 rfl
theorem dX1_holds_85 : decode cX1_holds 85 = .ok (.iload 6, 2) := getB' kX1_holds_3 8 rfl
theorem dX1_holds_87 : decode cX1_holds 87 = .ok (.iconst 1, 1) := getB' kX1_holds_3 9 rfl
theorem dX1_holds_88 : decode cX1_holds 88 = .ok (.if_icmp .ne 19, 3) := getB' kX1_holds_3 10 rfl
theorem dX1_holds_91 : decode cX1_holds 91 = .ok (.aload_n 0, 1) := getB' kX1_holds_3 11 rfl
def LX1_holds_4 : List (Nat × Instr × Nat) := [(92, .aload_n 0, 1), (93, .getfield 46, 3), (96, .iload 7, 2), (98, .invokestatic 88, 3), (101, .invokevirtual 165, 3), (104, .goto 115, 3), (107, .iload 6, 2), (109, .iconst 2, 1), (110, .if_icmp .ne 16, 3), (113, .aload_n 0, 1), (114, .iconst 1, 1), (115, .aload_n 0, 1)]
theorem kX1_holds_4 : chkB cX1_holds LX1_holds_4 = true := by decide +kernel
theorem dX1_holds_92 : decode cX1_holds 92 = .ok (.aload_n 0, 1) := getB' kX1_holds_4 0 rfl
theorem dX1_holds_93 : decode cX1_holds 93 = .ok (.getfield 46, 3) := getB' kX1_holds_4 1 rfl
theorem dX1_holds_96 : decode cX1_holds 96 = .ok (.iload 7, 2) := getB' kX1_holds_4 2 rfl
theorem dX1_holds_98 : decode cX1_holds 98 = .ok (.invokestatic 88, 3) := getB' kX1_holds_4 3 rfl
theorem dX1_holds_101 : decode cX1_holds 101 = .ok (.invokevirtual 165, 3) := getB' kX1_holds_4 4 rfl
theorem dX1_holds_104 : decode cX1_holds 104 = .ok (.goto 115, 3) := getB' kX1_holds_4 5 rfl
theorem dX1_holds_107 : decode cX1_holds 107 = .ok (.iload 6, 2) := getB' kX1_holds_4 6 rfl
theorem dX1_holds_109 : decode cX1_holds 109 = .ok (.iconst 2, 1) := getB' kX1_holds_4 7 rfl
theorem dX1_holds_110 : decode cX1_holds 110 = .ok (.if_icmp .ne 16, 3) := getB' kX1_holds_4 8 rfl
theorem dX1_holds_113 : decode cX1_holds 113 = .ok (.aload_n 0, 1) := getB' kX1_holds_4 9 rfl
theorem dX1_holds_114 : decode cX1_holds 114 = .ok (.iconst 1, 1) := getB' kX1_holds_4 10 rfl
theorem dX1_holds_115 : decode cX1_holds 115 = .ok (.aload_n 0, 1) := getB' kX1_holds_4 11 rfl
def LX1_holds_5 : List (Nat × Instr × Nat) := [(116, .invokevirtual 169, 3), (119, .isub, 1), (120, .invokevirtual 165, 3), (123, .goto 96, 3), (126, .iload 6, 2), (128, .iconst 3, 1), (129, .if_icmp .eq 9, 3), (132, .iload 6, 2), (134, .iconst 4, 1), (135, .if_icmp .ne 37, 3), (138, .aload_n 0, 1), (139, .invokevirtual 169, 3)]
theorem kX1_holds_5 : chkB cX1_holds LX1_holds_5 = true := by decide +kernel
theorem dX1_holds_116 : decode cX1_holds 116 = .ok (.invokevirtual 169, 3) := getB' kX1_holds_5 0 rfl
theorem dX1_holds_119 : decode cX1_holds 119 = .ok (.isub, 1) := getB' kX1_holds_5 1 rfl
theorem dX1_holds_120 : decode cX1_holds 120 = .ok (.invokevirtual 165, 3) := getB' kX1_holds_5 2 rfl
theorem dX1_holds_123 : decode cX1_holds 123 = .ok (.goto 96, 3) := getB' kX1_holds_5 3 rfl
theorem dX1_holds_126 : decode cX1_holds 126 = .ok (.iload 6, 2) := getB' kX1_holds_5 4 rfl
theorem dX1_holds_128 : decode cX1_holds 128 = .ok (.iconst 3, 1) := getB' kX1_holds_5 5 rfl
theorem dX1_holds_129 : decode cX1_holds 129 = .ok (.if_icmp .eq 9, 3) := getB' kX1_holds_5 6 rfl
theorem dX1_holds_132 : decode cX1_holds 132 = .ok (.iload 6, 2) := getB' kX1_holds_5 7 rfl
theorem dX1_holds_134 : decode cX1_holds 134 = .ok (.iconst 4, 1) := getB' kX1_holds_5 8 rfl
theorem dX1_holds_135 : decode cX1_holds 135 = .ok (.if_icmp .ne 37, 3) := getB' kX1_holds_5 9 rfl
theorem dX1_holds_138 : decode cX1_holds 138 = .ok (.aload_n 0, 1) := getB' kX1_holds_5 10 rfl
theorem dX1_holds_139 : decode cX1_holds 139 = .ok (.invokevirtual 169, 3) := getB' kX1_holds_5 11 rfl
def LX1_holds_6 : List (Nat × Instr × Nat) := [(142, .istore 8, 2), (144, .iload 8, 2), (146, .iload 6, 2), (148, .iconst 3, 1), (149, .if_icmp .ne 7, 3), (152, .iconst 1, 1), (153, .goto 4, 3), (156, .iconst 0, 1), (157, .if_icmp .ne 12, 3), (160, .aload_n 0, 1), (161, .iload 8, 2), (163, .invokevirtual 165, 3)]
theorem kX1_holds_6 : chkB cX1_holds LX1_holds_6 = true := by decide +kernel
theorem dX1_holds_142 : decode cX1_holds 142 = .ok (.istore 8, 2) := getB' kX1_holds_6 0 rfl
theorem dX1_holds_144 : decode cX1_holds 144 = .ok (.iload 8, 2) := getB' kX1_holds_6 1 rfl
theorem dX1_holds_146 : decode cX1_holds 146 = .ok (.iload 6, 2) := getB' kX1_holds_6 2 rfl
theorem dX1_holds_148 : decode cX1_holds 148 = .ok (.iconst 3, 1) := getB' kX1_holds_6 3 rfl
theorem dX1_holds_149 : decode cX1_holds 149 = .ok (.if_icmp .ne 7, 3) := getB' kX1_holds_6 4 rfl
theorem dX1_holds_152 : decode cX1_holds 152 = .ok (.iconst 1, 1) := getB' kX1_holds_6 5 rfl
theorem dX1_holds_153 : decode cX1_holds 153 = .ok (.goto 4, 3) := getB' kX1_holds_6 6 rfl
theorem dX1_holds_156 : decode cX1_holds 156 = .ok (.iconst 0, 1) := getB' kX1_holds_6 7 rfl
theorem dX1_holds_157 : decode cX1_holds 157 = .ok (.if_icmp .ne 12, 3) := getB' kX1_holds_6 8 rfl
theorem dX1_holds_160 : decode cX1_holds 160 = .ok (.aload_n 0, 1) := getB' kX1_holds_6 9 rfl
theorem dX1_holds_161 : decode cX1_holds 161 = .ok (.iload 8, 2) := getB' kX1_holds_6 10 rfl
theorem dX1_holds_163 : decode cX1_holds 163 = .ok (.invokevirtual 165, 3) := getB' kX1_holds_6 11 rfl
def LX1_holds_7 : List (Nat × Instr × Nat) := [(166, .iload 7, 2), (168, .istore_n 3, 1), (169, .goto 50, 3), (172, .aload_n 0, 1), (173, .invokevirtual 169, 3), (176, .istore 8, 2), (178, .aload_n 0, 1), (179, .invokevirtual 169, 3), (182, .istore 9, 2), (184, .iload 8, 2), (186, .ifCond .ne 20, 3), (189, .iload 6, 2)]
theorem kX1_holds_7 : chkB cX1_holds LX1_holds_7 = true := by decide +kernel
theorem dX1_holds_166 : decode cX1_holds 166 = .ok (.iload 7, 2) := getB' kX1_holds_7 0 rfl
theorem dX1_holds_168 : decode cX1_holds 168 = .ok (.istore_n 3, 1) := getB' kX1_holds_7 1 rfl
theorem dX1_holds_169 : decode cX1_holds 169 = .ok (.goto 50, 3) := getB' kX1_holds_7 2 rfl
theorem dX1_holds_172 : decode cX1_holds 172 = .ok (.aload_n 0, 1) := getB' kX1_holds_7 3 rfl
theorem dX1_holds_173 : decode cX1_holds 173 = .ok (.invokevirtual 169, 3) := getB' kX1_holds_7 4 rfl
theorem dX1_holds_176 : decode cX1_holds 176 = .ok (.istore 8, 2) := getB' kX1_holds_7 5 rfl
theorem dX1_holds_178 : decode cX1_holds 178 = .ok (.aload_n 0, 1) := getB' kX1_holds_7 6 rfl
theorem dX1_holds_179 : decode cX1_holds 179 = .ok (.invokevirtual 169, 3) := getB' kX1_holds_7 7 rfl
theorem dX1_holds_182 : decode cX1_holds 182 = .ok (.istore 9, 2) := getB' kX1_holds_7 8 rfl
theorem dX1_holds_184 : decode cX1_holds 184 = .ok (.iload 8, 2) := getB' kX1_holds_7 9 rfl
theorem dX1_holds_186 : decode cX1_holds 186 = .ok (.ifCond .ne 20, 3) := getB' kX1_holds_7 10 rfl
theorem dX1_holds_189 : decode cX1_holds 189 = .ok (.iload 6, 2) := getB' kX1_holds_7 11 rfl
def LX1_holds_8 : List (Nat × Instr × Nat) := [(191, .bipush 8, 2), (193, .if_icmp .eq 10, 3), (196, .iload 6, 2), (198, .bipush 9, 2), (200, .if_icmp .ne 6, 3), (203, .bipush (-2), 2), (205, .ireturn, 1), (206, .aload_n 0, 1), (207, .iload 6, 2), (209, .iload 9, 2), (211, .iload 8, 2), (213, .invokestatic 173, 3)]
theorem kX1_holds_8 : chkB cX1_holds LX1_holds_8 = true := by decide +kernel
theorem dX1_holds_191 : decode cX1_holds 191 = .ok (.bipush 8, 2) := getB' kX1_holds_8 0 rfl
theorem dX1_holds_193 : decode cX1_holds 193 = .ok (.if_icmp .eq 10, 3) := getB' kX1_holds_8 1 rfl
theorem dX1_holds_196 : decode cX1_holds 196 = .ok (.iload 6, 2) := getB' kX1_holds_8 2 rfl
theorem dX1_holds_198 : decode cX1_holds 198 = .ok (.bipush 9, 2) := getB' kX1_holds_8 3 rfl
theorem dX1_holds_200 : decode cX1_holds 200 = .ok (.if_icmp .ne 6, 3) := getB' kX1_holds_8 4 rfl
theorem dX1_holds_203 : decode cX1_holds 203 = .ok (.bipush (-2), 2) := getB' kX1_holds_8 5 rfl
theorem dX1_holds_205 : decode cX1_holds 205 = .ok (.ireturn, 1) := getB' kX1_holds_8 6 rfl
theorem dX1_holds_206 : decode cX1_holds 206 = .ok (.aload_n 0, 1) := getB' kX1_holds_8 7 rfl
theorem dX1_holds_207 : decode cX1_holds 207 = .ok (.iload 6, 2) := getB' kX1_holds_8 8 rfl
theorem dX1_holds_209 : decode cX1_holds 209 = .ok (.iload 9, 2) := getB' kX1_holds_8 9 rfl
theorem dX1_holds_211 : decode cX1_holds 211 = .ok (.iload 8, 2) := getB' kX1_holds_8 10 rfl
theorem dX1_holds_213 : decode cX1_holds 213 = .ok (.invokestatic 173, 3) := getB' kX1_holds_8 11 rfl
def LX1_holds_9 : List (Nat × Instr × Nat) := [(216, .invokevirtual 165, 3), (219, .iinc 5 1, 3), (222, .goto (-193), 3), (225, .aload_n 0, 1), (226, .invokevirtual 169, 3), (229, .ireturn, 1)]
theorem kX1_holds_9 : chkB cX1_holds LX1_holds_9 = true := by decide +kernel
theorem dX1_holds_216 : decode cX1_holds 216 = .ok (.invokevirtual 165, 3) := getB' kX1_holds_9 0 rfl
theorem dX1_holds_219 : decode cX1_holds 219 = .ok (.iinc 5 1, 3) := getB' kX1_holds_9 1 rfl
theorem dX1_holds_222 : decode cX1_holds 222 = .ok (.goto (-193), 3) := getB' kX1_holds_9 2 rfl
theorem dX1_holds_225 : decode cX1_holds 225 = .ok (.aload_n 0, 1) := getB' kX1_holds_9 3 rfl
theorem dX1_holds_226 : decode cX1_holds 226 = .ok (.invokevirtual 169, 3) := getB' kX1_holds_9 4 rfl
theorem dX1_holds_229 : decode cX1_holds 229 = .ok (.ireturn, 1) := getB' kX1_holds_9 5 rfl
def LX1_reckon_0 : List (Nat × Instr × Nat) := [(0, .iload_n 0, 1), (1, .tableswitch 101 5 11 #[43, 47, 51, 55, 67, 79, 90], 43), (44, .iload_n 1, 1), (45, .iload_n 2, 1), (46, .iadd, 1), (47, .ireturn, 1), (48, .iload_n 1, 1), (49, .iload_n 2, 1), (50, .isub, 1), (51, .ireturn, 1), (52, .iload_n 1, 1), (53, .iload_n 2, 1)]
theorem kX1_reckon_0 : chkB cX1_reckon LX1_reckon_0 = true := by decide +kernel
theorem dX1_reckon_0 : decode cX1_reckon 0 = .ok (.iload_n 0, 1) := getB' kX1_reckon_0 0 rfl
theorem dX1_reckon_1 : decode cX1_reckon 1 = .ok (.tableswitch 101 5 11 #[43, 47, 51, 55, 67, 79, 90], 43) := getB' kX1_reckon_0 1 rfl
theorem dX1_reckon_44 : decode cX1_reckon 44 = .ok (.iload_n 1, 1) := getB' kX1_reckon_0 2 rfl
theorem dX1_reckon_45 : decode cX1_reckon 45 = .ok (.iload_n 2, 1) := getB' kX1_reckon_0 3 rfl
theorem dX1_reckon_46 : decode cX1_reckon 46 = .ok (.iadd, 1) := getB' kX1_reckon_0 4 rfl
theorem dX1_reckon_47 : decode cX1_reckon 47 = .ok (.ireturn, 1) := getB' kX1_reckon_0 5 rfl
theorem dX1_reckon_48 : decode cX1_reckon 48 = .ok (.iload_n 1, 1) := getB' kX1_reckon_0 6 rfl
theorem dX1_reckon_49 : decode cX1_reckon 49 = .ok (.iload_n 2, 1) := getB' kX1_reckon_0 7 rfl
theorem dX1_reckon_50 : decode cX1_reckon 50 = .ok (.isub, 1) := getB' kX1_reckon_0 8 rfl
theorem dX1_reckon_51 : decode cX1_reckon 51 = .ok (.ireturn, 1) := getB' kX1_reckon_0 9 rfl
theorem dX1_reckon_52 : decode cX1_reckon 52 = .ok (.iload_n 1, 1) := getB' kX1_reckon_0 10 rfl
theorem dX1_reckon_53 : decode cX1_reckon 53 = .ok (.iload_n 2, 1) := getB' kX1_reckon_0 11 rfl
def LX1_reckon_1 : List (Nat × Instr × Nat) := [(54, .imul, 1), (55, .ireturn, 1), (56, .iload_n 2, 1), (57, .ifCond .ne 7, 3), (60, .iconst 0, 1), (61, .goto 6, 3), (64, .iload_n 1, 1), (65, .iload_n 2, 1), (66, .idiv, 1), (67, .ireturn, 1), (68, .iload_n 2, 1), (69, .ifCond .ne 7, 3)]
theorem kX1_reckon_1 : chkB cX1_reckon LX1_reckon_1 = true := by decide +kernel
theorem dX1_reckon_54 : decode cX1_reckon 54 = .ok (.imul, 1) := getB' kX1_reckon_1 0 rfl
theorem dX1_reckon_55 : decode cX1_reckon 55 = .ok (.ireturn, 1) := getB' kX1_reckon_1 1 rfl
theorem dX1_reckon_56 : decode cX1_reckon 56 = .ok (.iload_n 2, 1) := getB' kX1_reckon_1 2 rfl
theorem dX1_reckon_57 : decode cX1_reckon 57 = .ok (.ifCond .ne 7, 3) := getB' kX1_reckon_1 3 rfl
theorem dX1_reckon_60 : decode cX1_reckon 60 = .ok (.iconst 0, 1) := getB' kX1_reckon_1 4 rfl
theorem dX1_reckon_61 : decode cX1_reckon 61 = .ok (.goto 6, 3) := getB' kX1_reckon_1 5 rfl
theorem dX1_reckon_64 : decode cX1_reckon 64 = .ok (.iload_n 1, 1) := getB' kX1_reckon_1 6 rfl
theorem dX1_reckon_65 : decode cX1_reckon 65 = .ok (.iload_n 2, 1) := getB' kX1_reckon_1 7 rfl
theorem dX1_reckon_66 : decode cX1_reckon 66 = .ok (.idiv, 1) := getB' kX1_reckon_1 8 rfl
theorem dX1_reckon_67 : decode cX1_reckon 67 = .ok (.ireturn, 1) := getB' kX1_reckon_1 9 rfl
theorem dX1_reckon_68 : decode cX1_reckon 68 = .ok (.iload_n 2, 1) := getB' kX1_reckon_1 10 rfl
theorem dX1_reckon_69 : decode cX1_reckon 69 = .ok (.ifCond .ne 7, 3) := getB' kX1_reckon_1 11 rfl
def LX1_reckon_2 : List (Nat × Instr × Nat) := [(72, .iconst 0, 1), (73, .goto 6, 3), (76, .iload_n 1, 1), (77, .iload_n 2, 1), (78, .irem, 1), (79, .ireturn, 1), (80, .iload_n 1, 1), (81, .iload_n 2, 1), (82, .if_icmp .ge 7, 3), (85, .iconst 1, 1), (86, .goto 4, 3), (89, .iconst 0, 1)]
theorem kX1_reckon_2 : chkB cX1_reckon LX1_reckon_2 = true := by decide +kernel
theorem dX1_reckon_72 : decode cX1_reckon 72 = .ok (.iconst 0, 1) := getB' kX1_reckon_2 0 rfl
theorem dX1_reckon_73 : decode cX1_reckon 73 = .ok (.goto 6, 3) := getB' kX1_reckon_2 1 rfl
theorem dX1_reckon_76 : decode cX1_reckon 76 = .ok (.iload_n 1, 1) := getB' kX1_reckon_2 2 rfl
theorem dX1_reckon_77 : decode cX1_reckon 77 = .ok (.iload_n 2, 1) := getB' kX1_reckon_2 3 rfl
theorem dX1_reckon_78 : decode cX1_reckon 78 = .ok (.irem, 1) := getB' kX1_reckon_2 4 rfl
theorem dX1_reckon_79 : decode cX1_reckon 79 = .ok (.ireturn, 1) := getB' kX1_reckon_2 5 rfl
theorem dX1_reckon_80 : decode cX1_reckon 80 = .ok (.iload_n 1, 1) := getB' kX1_reckon_2 6 rfl
theorem dX1_reckon_81 : decode cX1_reckon 81 = .ok (.iload_n 2, 1) := getB' kX1_reckon_2 7 rfl
theorem dX1_reckon_82 : decode cX1_reckon 82 = .ok (.if_icmp .ge 7, 3) := getB' kX1_reckon_2 8 rfl
theorem dX1_reckon_85 : decode cX1_reckon 85 = .ok (.iconst 1, 1) := getB' kX1_reckon_2 9 rfl
theorem dX1_reckon_86 : decode cX1_reckon 86 = .ok (.goto 4, 3) := getB' kX1_reckon_2 10 rfl
theorem dX1_reckon_89 : decode cX1_reckon 89 = .ok (.iconst 0, 1) := getB' kX1_reckon_2 11 rfl
def LX1_reckon_3 : List (Nat × Instr × Nat) := [(90, .ireturn, 1), (91, .iload_n 1, 1), (92, .iload_n 2, 1), (93, .if_icmp .le 7, 3), (96, .iconst 1, 1), (97, .goto 4, 3), (100, .iconst 0, 1), (101, .ireturn, 1), (102, .iload_n 1, 1), (103, .iload_n 2, 1), (104, .if_icmp .ne 7, 3), (107, .iconst 1, 1)]
theorem kX1_reckon_3 : chkB cX1_reckon LX1_reckon_3 = true := by decide +kernel
theorem dX1_reckon_90 : decode cX1_reckon 90 = .ok (.ireturn, 1) := getB' kX1_reckon_3 0 rfl
theorem dX1_reckon_91 : decode cX1_reckon 91 = .ok (.iload_n 1, 1) := getB' kX1_reckon_3 1 rfl
theorem dX1_reckon_92 : decode cX1_reckon 92 = .ok (.iload_n 2, 1) := getB' kX1_reckon_3 2 rfl
theorem dX1_reckon_93 : decode cX1_reckon 93 = .ok (.if_icmp .le 7, 3) := getB' kX1_reckon_3 3 rfl
theorem dX1_reckon_96 : decode cX1_reckon 96 = .ok (.iconst 1, 1) := getB' kX1_reckon_3 4 rfl
theorem dX1_reckon_97 : decode cX1_reckon 97 = .ok (.goto 4, 3) := getB' kX1_reckon_3 5 rfl
theorem dX1_reckon_100 : decode cX1_reckon 100 = .ok (.iconst 0, 1) := getB' kX1_reckon_3 6 rfl
theorem dX1_reckon_101 : decode cX1_reckon 101 = .ok (.ireturn, 1) := getB' kX1_reckon_3 7 rfl
theorem dX1_reckon_102 : decode cX1_reckon 102 = .ok (.iload_n 1, 1) := getB' kX1_reckon_3 8 rfl
theorem dX1_reckon_103 : decode cX1_reckon 103 = .ok (.iload_n 2, 1) := getB' kX1_reckon_3 9 rfl
theorem dX1_reckon_104 : decode cX1_reckon 104 = .ok (.if_icmp .ne 7, 3) := getB' kX1_reckon_3 10 rfl
theorem dX1_reckon_107 : decode cX1_reckon 107 = .ok (.iconst 1, 1) := getB' kX1_reckon_3 11 rfl
def LX1_reckon_4 : List (Nat × Instr × Nat) := [(108, .goto 4, 3), (111, .iconst 0, 1), (112, .ireturn, 1)]
theorem kX1_reckon_4 : chkB cX1_reckon LX1_reckon_4 = true := by decide +kernel
theorem dX1_reckon_108 : decode cX1_reckon 108 = .ok (.goto 4, 3) := getB' kX1_reckon_4 0 rfl
theorem dX1_reckon_111 : decode cX1_reckon 111 = .ok (.iconst 0, 1) := getB' kX1_reckon_4 1 rfl
theorem dX1_reckon_112 : decode cX1_reckon 112 = .ok (.ireturn, 1) := getB' kX1_reckon_4 2 rfl
def LX1_push_0 : List (Nat × Instr × Nat) := [(0, .aload_n 0, 1), (1, .getfield 49, 3), (4, .aload_n 0, 1), (5, .getfield 52, 3), (8, .iload_n 1, 1), (9, .invokestatic 108, 3), (12, .aload_n 0, 1), (13, .dup, 1), (14, .getfield 52, 3), (17, .iconst 1, 1), (18, .iadd, 1), (19, .putfield 52, 3)]
theorem kX1_push_0 : chkB cX1_push LX1_push_0 = true := by decide +kernel
theorem dX1_push_0 : decode cX1_push 0 = .ok (.aload_n 0, 1) := getB' kX1_push_0 0 rfl
theorem dX1_push_1 : decode cX1_push 1 = .ok (.getfield 49, 3) := getB' kX1_push_0 1 rfl
theorem dX1_push_4 : decode cX1_push 4 = .ok (.aload_n 0, 1) := getB' kX1_push_0 2 rfl
theorem dX1_push_5 : decode cX1_push 5 = .ok (.getfield 52, 3) := getB' kX1_push_0 3 rfl
theorem dX1_push_8 : decode cX1_push 8 = .ok (.iload_n 1, 1) := getB' kX1_push_0 4 rfl
theorem dX1_push_9 : decode cX1_push 9 = .ok (.invokestatic 108, 3) := getB' kX1_push_0 5 rfl
theorem dX1_push_12 : decode cX1_push 12 = .ok (.aload_n 0, 1) := getB' kX1_push_0 6 rfl
theorem dX1_push_13 : decode cX1_push 13 = .ok (.dup, 1) := getB' kX1_push_0 7 rfl
theorem dX1_push_14 : decode cX1_push 14 = .ok (.getfield 52, 3) := getB' kX1_push_0 8 rfl
theorem dX1_push_17 : decode cX1_push 17 = .ok (.iconst 1, 1) := getB' kX1_push_0 9 rfl
theorem dX1_push_18 : decode cX1_push 18 = .ok (.iadd, 1) := getB' kX1_push_0 10 rfl
theorem dX1_push_19 : decode cX1_push 19 = .ok (.putfield 52, 3) := getB' kX1_push_0 11 rfl
def LX1_push_1 : List (Nat × Instr × Nat) := [(22, .return_, 1)]
theorem kX1_push_1 : chkB cX1_push LX1_push_1 = true := by decide +kernel
theorem dX1_push_22 : decode cX1_push 22 = .ok (.return_, 1) := getB' kX1_push_1 0 rfl
def LX1_pop : List (Nat × Instr × Nat) := [(0, .aload_n 0, 1), (1, .dup, 1), (2, .getfield 52, 3), (5, .iconst 1, 1), (6, .isub, 1), (7, .putfield 52, 3), (10, .aload_n 0, 1), (11, .getfield 49, 3), (14, .aload_n 0, 1), (15, .getfield 52, 3), (18, .invokestatic 88, 3), (21, .ireturn, 1)]
theorem kX1_pop : chkB cX1_pop LX1_pop = true := by decide +kernel
theorem dX1_pop_0 : decode cX1_pop 0 = .ok (.aload_n 0, 1) := getB' kX1_pop 0 rfl
theorem dX1_pop_1 : decode cX1_pop 1 = .ok (.dup, 1) := getB' kX1_pop 1 rfl
theorem dX1_pop_2 : decode cX1_pop 2 = .ok (.getfield 52, 3) := getB' kX1_pop 2 rfl
theorem dX1_pop_5 : decode cX1_pop 5 = .ok (.iconst 1, 1) := getB' kX1_pop 3 rfl
theorem dX1_pop_6 : decode cX1_pop 6 = .ok (.isub, 1) := getB' kX1_pop 4 rfl
theorem dX1_pop_7 : decode cX1_pop 7 = .ok (.putfield 52, 3) := getB' kX1_pop 5 rfl
theorem dX1_pop_10 : decode cX1_pop 10 = .ok (.aload_n 0, 1) := getB' kX1_pop 6 rfl
theorem dX1_pop_11 : decode cX1_pop 11 = .ok (.getfield 49, 3) := getB' kX1_pop 7 rfl
theorem dX1_pop_14 : decode cX1_pop 14 = .ok (.aload_n 0, 1) := getB' kX1_pop 8 rfl
theorem dX1_pop_15 : decode cX1_pop 15 = .ok (.getfield 52, 3) := getB' kX1_pop 9 rfl
theorem dX1_pop_18 : decode cX1_pop 18 = .ok (.invokestatic 88, 3) := getB' kX1_pop 10 rfl
theorem dX1_pop_21 : decode cX1_pop 21 = .ok (.ireturn, 1) := getB' kX1_pop 11 rfl
def LX2_init_0 : List (Nat × Instr × Nat) := [(0, .aload_n 0, 1), (1, .invokespecial 3, 3), (4, .aload_n 0, 1), (5, .iconst 0, 1), (6, .putfield 9, 3), (9, .aload_n 0, 1), (10, .iconst 0, 1), (11, .putfield 15, 3), (14, .aload_n 0, 1), (15, .bipush 20, 2), (17, .newarray .int, 2), (19, .putfield 18, 3)]
theorem kX2_init_0 : chkB cX2_init LX2_init_0 = true := by decide +kernel
theorem dX2_init_0 : decode cX2_init 0 = .ok (.aload_n 0, 1) := getB' kX2_init_0 0 rfl
theorem dX2_init_1 : decode cX2_init 1 = .ok (.invokespecial 3, 3) := getB' kX2_init_0 1 rfl
theorem dX2_init_4 : decode cX2_init 4 = .ok (.aload_n 0, 1) := getB' kX2_init_0 2 rfl
theorem dX2_init_5 : decode cX2_init 5 = .ok (.iconst 0, 1) := getB' kX2_init_0 3 rfl
theorem dX2_init_6 : decode cX2_init 6 = .ok (.putfield 9, 3) := getB' kX2_init_0 4 rfl
theorem dX2_init_9 : decode cX2_init 9 = .ok (.aload_n 0, 1) := getB' kX2_init_0 5 rfl
theorem dX2_init_10 : decode cX2_init 10 = .ok (.iconst 0, 1) := getB' kX2_init_0 6 rfl
theorem dX2_init_11 : decode cX2_init 11 = .ok (.putfield 15, 3) := getB' kX2_init_0 7 rfl
theorem dX2_init_14 : decode cX2_init 14 = .ok (.aload_n 0, 1) := getB' kX2_init_0 8 rfl
theorem dX2_init_15 : decode cX2_init 15 = .ok (.bipush 20, 2) := getB' kX2_init_0 9 rfl
theorem dX2_init_17 : decode cX2_init 17 = .ok (.newarray .int, 2) := getB' kX2_init_0 10 rfl
theorem dX2_init_19 : decode cX2_init 19 = .ok (.putfield 18, 3) := getB' kX2_init_0 11 rfl
def LX2_init_1 : List (Nat × Instr × Nat) := [(22, .aload_n 0, 1), (23, .bipush 7, 2), (25, .newarray .int, 2), (27, .putfield 22, 3), (30, .aload_n 0, 1), (31, .iload_n 1, 1), (32, .putfield 25, 3), (35, .aload_n 0, 1), (36, .getfield 18, 3), (39, .iconst (-1), 1), (40, .invokestatic 28, 3), (43, .return_, 1)]
theorem kX2_init_1 : chkB cX2_init LX2_init_1 = true := by decide +kernel
theorem dX2_init_22 : decode cX2_init 22 = .ok (.aload_n 0, 1) := getB' kX2_init_1 0 rfl
theorem dX2_init_23 : decode cX2_init 23 = .ok (.bipush 7, 2) := getB' kX2_init_1 1 rfl
theorem dX2_init_25 : decode cX2_init 25 = .ok (.newarray .int, 2) := getB' kX2_init_1 2 rfl
theorem dX2_init_27 : decode cX2_init 27 = .ok (.putfield 22, 3) := getB' kX2_init_1 3 rfl
theorem dX2_init_30 : decode cX2_init 30 = .ok (.aload_n 0, 1) := getB' kX2_init_1 4 rfl
theorem dX2_init_31 : decode cX2_init 31 = .ok (.iload_n 1, 1) := getB' kX2_init_1 5 rfl
theorem dX2_init_32 : decode cX2_init 32 = .ok (.putfield 25, 3) := getB' kX2_init_1 6 rfl
theorem dX2_init_35 : decode cX2_init 35 = .ok (.aload_n 0, 1) := getB' kX2_init_1 7 rfl
theorem dX2_init_36 : decode cX2_init 36 = .ok (.getfield 18, 3) := getB' kX2_init_1 8 rfl
theorem dX2_init_39 : decode cX2_init 39 = .ok (.iconst (-1), 1) := getB' kX2_init_1 9 rfl
theorem dX2_init_40 : decode cX2_init 40 = .ok (.invokestatic 28, 3) := getB' kX2_init_1 10 rfl
theorem dX2_init_43 : decode cX2_init 43 = .ok (.return_, 1) := getB' kX2_init_1 11 rfl
def LX2_decidesOn : List (Nat × Instr × Nat) := [(0, .aload_n 0, 1), (1, .getfield 25, 3), (4, .iconst (-1), 1), (5, .if_icmp .eq 15, 3), (8, .aload_n 0, 1), (9, .getfield 25, 3), (12, .iload_n 1, 1), (13, .if_icmp .gt 7, 3), (16, .iconst 1, 1), (17, .goto 4, 3), (20, .iconst 0, 1), (21, .ireturn, 1)]
theorem kX2_decidesOn : chkB cX2_decidesOn LX2_decidesOn = true := by decide +kernel
theorem dX2_decidesOn_0 : decode cX2_decidesOn 0 = .ok (.aload_n 0, 1) := getB' kX2_decidesOn 0 rfl
theorem dX2_decidesOn_1 : decode cX2_decidesOn 1 = .ok (.getfield 25, 3) := getB' kX2_decidesOn 1 rfl
theorem dX2_decidesOn_4 : decode cX2_decidesOn 4 = .ok (.iconst (-1), 1) := getB' kX2_decidesOn 2 rfl
theorem dX2_decidesOn_5 : decode cX2_decidesOn 5 = .ok (.if_icmp .eq 15, 3) := getB' kX2_decidesOn 3 rfl
theorem dX2_decidesOn_8 : decode cX2_decidesOn 8 = .ok (.aload_n 0, 1) := getB' kX2_decidesOn 4 rfl
theorem dX2_decidesOn_9 : decode cX2_decidesOn 9 = .ok (.getfield 25, 3) := getB' kX2_decidesOn 5 rfl
theorem dX2_decidesOn_12 : decode cX2_decidesOn 12 = .ok (.iload_n 1, 1) := getB' kX2_decidesOn 6 rfl
theorem dX2_decidesOn_13 : decode cX2_decidesOn 13 = .ok (.if_icmp .gt 7, 3) := getB' kX2_decidesOn 7 rfl
theorem dX2_decidesOn_16 : decode cX2_decidesOn 16 = .ok (.iconst 1, 1) := getB' kX2_decidesOn 8 rfl
theorem dX2_decidesOn_17 : decode cX2_decidesOn 17 = .ok (.goto 4, 3) := getB' kX2_decidesOn 9 rfl
theorem dX2_decidesOn_20 : decode cX2_decidesOn 20 = .ok (.iconst 0, 1) := getB' kX2_decidesOn 10 rfl
theorem dX2_decidesOn_21 : decode cX2_decidesOn 21 = .ok (.ireturn, 1) := getB' kX2_decidesOn 11 rfl
def LX2_blocksWords_0 : List (Nat × Instr × Nat) := [(0, .aload_n 0, 1), (1, .getfield 15, 3), (4, .iload_n 1, 1), (5, .iand, 1), (6, .ifCond .eq 5, 3), (9, .iconst 1, 1), (10, .ireturn, 1), (11, .iconst 0, 1), (12, .istore_n 2, 1), (13, .iload_n 2, 1), (14, .bipush 7, 2), (16, .if_icmp .ge 34, 3)]
theorem kX2_blocksWords_0 : chkB cX2_blocksWords LX2_blocksWords_0 = true := by decide +kernel
theorem dX2_blocksWords_0 : decode cX2_blocksWords 0 = .ok (.aload_n 0, 1) := getB' kX2_blocksWords_0 0 rfl
theorem dX2_blocksWords_1 : decode cX2_blocksWords 1 = .ok (.getfield 15, 3) := getB' kX2_blocksWords_0 1 rfl
theorem dX2_blocksWords_4 : decode cX2_blocksWords 4 = .ok (.iload_n 1, 1) := getB' kX2_blocksWords_0 2 rfl
theorem dX2_blocksWords_5 : decode cX2_blocksWords 5 = .ok (.iand, 1) := getB' kX2_blocksWords_0 3 rfl
theorem dX2_blocksWords_6 : decode cX2_blocksWords 6 = .ok (.ifCond .eq 5, 3) := getB' kX2_blocksWords_0 4 rfl
theorem dX2_blocksWords_9 : decode cX2_blocksWords 9 = .ok (.iconst 1, 1) := getB' kX2_blocksWords_0 5 rfl
theorem dX2_blocksWords_10 : decode cX2_blocksWords 10 = .ok (.ireturn, 1) := getB' kX2_blocksWords_0 6 rfl
theorem dX2_blocksWords_11 : decode cX2_blocksWords 11 = .ok (.iconst 0, 1) := getB' kX2_blocksWords_0 7 rfl
theorem dX2_blocksWords_12 : decode cX2_blocksWords 12 = .ok (.istore_n 2, 1) := getB' kX2_blocksWords_0 8 rfl
theorem dX2_blocksWords_13 : decode cX2_blocksWords 13 = .ok (.iload_n 2, 1) := getB' kX2_blocksWords_0 9 rfl
theorem dX2_blocksWords_14 : decode cX2_blocksWords 14 = .ok (.bipush 7, 2) := getB' kX2_blocksWords_0 10 rfl
theorem dX2_blocksWords_16 : decode cX2_blocksWords 16 = .ok (.if_icmp .ge 34, 3) := getB' kX2_blocksWords_0 11 rfl
def LX2_blocksWords_1 : List (Nat × Instr × Nat) := [(19, .iload_n 1, 1), (20, .iload_n 2, 1), (21, .ishr, 1), (22, .iconst 1, 1), (23, .iand, 1), (24, .ifCond .eq 20, 3), (27, .aload_n 0, 1), (28, .getfield 22, 3), (31, .iload_n 2, 1), (32, .invokestatic 34, 3), (35, .iload_n 1, 1), (36, .iconst (-1), 1)]
theorem kX2_blocksWords_1 : chkB cX2_blocksWords LX2_blocksWords_1 = true := by decide +kernel
theorem dX2_blocksWords_19 : decode cX2_blocksWords 19 = .ok (.iload_n 1, 1) := getB' kX2_blocksWords_1 0 rfl
theorem dX2_blocksWords_20 : decode cX2_blocksWords 20 = .ok (.iload_n 2, 1) := getB' kX2_blocksWords_1 1 rfl
theorem dX2_blocksWords_21 : decode cX2_blocksWords 21 = .ok (.ishr, 1) := getB' kX2_blocksWords_1 2 rfl
theorem dX2_blocksWords_22 : decode cX2_blocksWords 22 = .ok (.iconst 1, 1) := getB' kX2_blocksWords_1 3 rfl
theorem dX2_blocksWords_23 : decode cX2_blocksWords 23 = .ok (.iand, 1) := getB' kX2_blocksWords_1 4 rfl
theorem dX2_blocksWords_24 : decode cX2_blocksWords 24 = .ok (.ifCond .eq 20, 3) := getB' kX2_blocksWords_1 5 rfl
theorem dX2_blocksWords_27 : decode cX2_blocksWords 27 = .ok (.aload_n 0, 1) := getB' kX2_blocksWords_1 6 rfl
theorem dX2_blocksWords_28 : decode cX2_blocksWords 28 = .ok (.getfield 22, 3) := getB' kX2_blocksWords_1 7 rfl
theorem dX2_blocksWords_31 : decode cX2_blocksWords 31 = .ok (.iload_n 2, 1) := getB' kX2_blocksWords_1 8 rfl
theorem dX2_blocksWords_32 : decode cX2_blocksWords 32 = .ok (.invokestatic 34, 3) := getB' kX2_blocksWords_1 9 rfl
theorem dX2_blocksWords_35 : decode cX2_blocksWords 35 = .ok (.iload_n 1, 1) := getB' kX2_blocksWords_1 10 rfl
theorem dX2_blocksWords_36 : decode cX2_blocksWords 36 = .ok (.iconst (-1), 1) := getB' kX2_blocksWords_1 11 rfl
def LX2_blocksWords_2 : List (Nat × Instr × Nat) := [(37, .ixor, 1), (38, .iand, 1), (39, .ifCond .eq 5, 3), (42, .iconst 1, 1), (43, .ireturn, 1), (44, .iinc 2 1, 3), (47, .goto (-34), 3), (50, .iconst 0, 1), (51, .ireturn, 1)]
theorem kX2_blocksWords_2 : chkB cX2_blocksWords LX2_blocksWords_2 = true := by decide +kernel
theorem dX2_blocksWords_37 : decode cX2_blocksWords 37 = .ok (.ixor, 1) := getB' kX2_blocksWords_2 0 rfl
theorem dX2_blocksWords_38 : decode cX2_blocksWords 38 = .ok (.iand, 1) := getB' kX2_blocksWords_2 1 rfl
theorem dX2_blocksWords_39 : decode cX2_blocksWords 39 = .ok (.ifCond .eq 5, 3) := getB' kX2_blocksWords_2 2 rfl
theorem dX2_blocksWords_42 : decode cX2_blocksWords 42 = .ok (.iconst 1, 1) := getB' kX2_blocksWords_2 3 rfl
theorem dX2_blocksWords_43 : decode cX2_blocksWords 43 = .ok (.ireturn, 1) := getB' kX2_blocksWords_2 4 rfl
theorem dX2_blocksWords_44 : decode cX2_blocksWords 44 = .ok (.iinc 2 1, 3) := getB' kX2_blocksWords_2 5 rfl
theorem dX2_blocksWords_47 : decode cX2_blocksWords 47 = .ok (.goto (-34), 3) := getB' kX2_blocksWords_2 6 rfl
theorem dX2_blocksWords_50 : decode cX2_blocksWords 50 = .ok (.iconst 0, 1) := getB' kX2_blocksWords_2 7 rfl
theorem dX2_blocksWords_51 : decode cX2_blocksWords 51 = .ok (.ireturn, 1) := getB' kX2_blocksWords_2 8 rfl
def LX3_init_0 : List (Nat × Instr × Nat) := [(0, .aload_n 0, 1), (1, .invokespecial 3, 3), (4, .aload_n 0, 1), (5, .iconst 0, 1), (6, .putfield 9, 3), (9, .aload_n 0, 1), (10, .iconst 0, 1), (11, .putfield 15, 3), (14, .aload_n 0, 1), (15, .iconst 0, 1), (16, .putfield 19, 3), (19, .aload_n 0, 1)]
theorem kX3_init_0 : chkB cX3_init LX3_init_0 = true := by decide +kernel
theorem dX3_init_0 : decode cX3_init 0 = .ok (.aload_n 0, 1) := getB' kX3_init_0 0 rfl
theorem dX3_init_1 : decode cX3_init 1 = .ok (.invokespecial 3, 3) := getB' kX3_init_0 1 rfl
theorem dX3_init_4 : decode cX3_init 4 = .ok (.aload_n 0, 1) := getB' kX3_init_0 2 rfl
theorem dX3_init_5 : decode cX3_init 5 = .ok (.iconst 0, 1) := getB' kX3_init_0 3 rfl
theorem dX3_init_6 : decode cX3_init 6 = .ok (.putfield 9, 3) := getB' kX3_init_0 4 rfl
theorem dX3_init_9 : decode cX3_init 9 = .ok (.aload_n 0, 1) := getB' kX3_init_0 5 rfl
theorem dX3_init_10 : decode cX3_init 10 = .ok (.iconst 0, 1) := getB' kX3_init_0 6 rfl
theorem dX3_init_11 : decode cX3_init 11 = .ok (.putfield 15, 3) := getB' kX3_init_0 7 rfl
theorem dX3_init_14 : decode cX3_init 14 = .ok (.aload_n 0, 1) := getB' kX3_init_0 8 rfl
theorem dX3_init_15 : decode cX3_init 15 = .ok (.iconst 0, 1) := getB' kX3_init_0 9 rfl
theorem dX3_init_16 : decode cX3_init 16 = .ok (.putfield 19, 3) := getB' kX3_init_0 10 rfl
theorem dX3_init_19 : decode cX3_init 19 = .ok (.aload_n 0, 1) := getB' kX3_init_0 11 rfl
def LX3_init_1 : List (Nat × Instr × Nat) := [(20, .iconst 0, 1), (21, .putfield 22, 3), (24, .aload_n 0, 1), (25, .iconst 0, 1), (26, .putfield 25, 3), (29, .aload_n 0, 1), (30, .iconst 0, 1), (31, .putfield 28, 3), (34, .aload_n 0, 1), (35, .iconst 0, 1), (36, .putfield 31, 3), (39, .aload_n 0, 1)]
theorem kX3_init_1 : chkB cX3_init LX3_init_1 = true := by decide +kernel
theorem dX3_init_20 : decode cX3_init 20 = .ok (.iconst 0, 1) := getB' kX3_init_1 0 rfl
theorem dX3_init_21 : decode cX3_init 21 = .ok (.putfield 22, 3) := getB' kX3_init_1 1 rfl
theorem dX3_init_24 : decode cX3_init 24 = .ok (.aload_n 0, 1) := getB' kX3_init_1 2 rfl
theorem dX3_init_25 : decode cX3_init 25 = .ok (.iconst 0, 1) := getB' kX3_init_1 3 rfl
theorem dX3_init_26 : decode cX3_init 26 = .ok (.putfield 25, 3) := getB' kX3_init_1 4 rfl
theorem dX3_init_29 : decode cX3_init 29 = .ok (.aload_n 0, 1) := getB' kX3_init_1 5 rfl
theorem dX3_init_30 : decode cX3_init 30 = .ok (.iconst 0, 1) := getB' kX3_init_1 6 rfl
theorem dX3_init_31 : decode cX3_init 31 = .ok (.putfield 28, 3) := getB' kX3_init_1 7 rfl
theorem dX3_init_34 : decode cX3_init 34 = .ok (.aload_n 0, 1) := getB' kX3_init_1 8 rfl
theorem dX3_init_35 : decode cX3_init 35 = .ok (.iconst 0, 1) := getB' kX3_init_1 9 rfl
theorem dX3_init_36 : decode cX3_init 36 = .ok (.putfield 31, 3) := getB' kX3_init_1 10 rfl
theorem dX3_init_39 : decode cX3_init 39 = .ok (.aload_n 0, 1) := getB' kX3_init_1 11 rfl
def LX3_init_2 : List (Nat × Instr × Nat) := [(40, .iconst 0, 1), (41, .putfield 34, 3), (44, .aload_n 0, 1), (45, .iload_n 1, 1), (46, .putfield 37, 3), (49, .aload_n 0, 1), (50, .iload_n 2, 1), (51, .putfield 40, 3), (54, .aload_n 0, 1), (55, .iload_n 3, 1), (56, .putfield 43, 3), (59, .aload_n 0, 1)]
theorem kX3_init_2 : chkB cX3_init LX3_init_2 = true := by decide +kernel
theorem dX3_init_40 : decode cX3_init 40 = .ok (.iconst 0, 1) := getB' kX3_init_2 0 rfl
theorem dX3_init_41 : decode cX3_init 41 = .ok (.putfield 34, 3) := getB' kX3_init_2 1 rfl
theorem dX3_init_44 : decode cX3_init 44 = .ok (.aload_n 0, 1) := getB' kX3_init_2 2 rfl
theorem dX3_init_45 : decode cX3_init 45 = .ok (.iload_n 1, 1) := getB' kX3_init_2 3 rfl
theorem dX3_init_46 : decode cX3_init 46 = .ok (.putfield 37, 3) := getB' kX3_init_2 4 rfl
theorem dX3_init_49 : decode cX3_init 49 = .ok (.aload_n 0, 1) := getB' kX3_init_2 5 rfl
theorem dX3_init_50 : decode cX3_init 50 = .ok (.iload_n 2, 1) := getB' kX3_init_2 6 rfl
theorem dX3_init_51 : decode cX3_init 51 = .ok (.putfield 40, 3) := getB' kX3_init_2 7 rfl
theorem dX3_init_54 : decode cX3_init 54 = .ok (.aload_n 0, 1) := getB' kX3_init_2 8 rfl
theorem dX3_init_55 : decode cX3_init 55 = .ok (.iload_n 3, 1) := getB' kX3_init_2 9 rfl
theorem dX3_init_56 : decode cX3_init 56 = .ok (.putfield 43, 3) := getB' kX3_init_2 10 rfl
theorem dX3_init_59 : decode cX3_init 59 = .ok (.aload_n 0, 1) := getB' kX3_init_2 11 rfl
def LX3_init_3 : List (Nat × Instr × Nat) := [(60, .iload 4, 2), (62, .putfield 46, 3), (65, .aload_n 0, 1), (66, .iload 5, 2), (68, .putfield 49, 3), (71, .aload_n 0, 1), (72, .iload_n 1, 1), (73, .iconst 1, 1), (74, .if_icmp .ne 9, 3), (77, .iconst 4, 1), (78, .newarray .int, 2), (80, .goto 16, 3)]
theorem kX3_init_3 : chkB cX3_init LX3_init_3 = true := by decide +kernel
theorem dX3_init_60 : decode cX3_init 60 = .ok (.iload 4, 2) := getB' kX3_init_3 0 rfl
theorem dX3_init_62 : decode cX3_init 62 = .ok (.putfield 46, 3) := getB' kX3_init_3 1 rfl
theorem dX3_init_65 : decode cX3_init 65 = .ok (.aload_n 0, 1) := getB' kX3_init_3 2 rfl
theorem dX3_init_66 : decode cX3_init 66 = .ok (.iload 5, 2) := getB' kX3_init_3 3 rfl
theorem dX3_init_68 : decode cX3_init 68 = .ok (.putfield 49, 3) := getB' kX3_init_3 4 rfl
theorem dX3_init_71 : decode cX3_init 71 = .ok (.aload_n 0, 1) := getB' kX3_init_3 5 rfl
theorem dX3_init_72 : decode cX3_init 72 = .ok (.iload_n 1, 1) := getB' kX3_init_3 6 rfl
theorem dX3_init_73 : decode cX3_init 73 = .ok (.iconst 1, 1) := getB' kX3_init_3 7 rfl
theorem dX3_init_74 : decode cX3_init 74 = .ok (.if_icmp .ne 9, 3) := getB' kX3_init_3 8 rfl
theorem dX3_init_77 : decode cX3_init 77 = .ok (.iconst 4, 1) := getB' kX3_init_3 9 rfl
theorem dX3_init_78 : decode cX3_init 78 = .ok (.newarray .int, 2) := getB' kX3_init_3 10 rfl
theorem dX3_init_80 : decode cX3_init 80 = .ok (.goto 16, 3) := getB' kX3_init_3 11 rfl
def LX3_init_4 : List (Nat × Instr × Nat) := [(83, .iload_n 1, 1), (84, .iconst 5, 1), (85, .if_icmp .ne 10, 3), (88, .bipush 10, 2), (90, .newarray .int, 2), (92, .goto 4, 3), (95, .aconst_null, 1), (96, .putfield 52, 3), (99, .aload_n 0, 1), (100, .iload_n 1, 1), (101, .iconst 5, 1), (102, .if_icmp .ne 10, 3)]
theorem kX3_init_4 : chkB cX3_init LX3_init_4 = true := by decide +kernel
theorem dX3_init_83 : decode cX3_init 83 = .ok (.iload_n 1, 1) := getB' kX3_init_4 0 rfl
theorem dX3_init_84 : decode cX3_init 84 = .ok (.iconst 5, 1) := getB' kX3_init_4 1 rfl
theorem dX3_init_85 : decode cX3_init 85 = .ok (.if_icmp .ne 10, 3) := getB' kX3_init_4 2 rfl
theorem dX3_init_88 : decode cX3_init 88 = .ok (.bipush 10, 2) := getB' kX3_init_4 3 rfl
theorem dX3_init_90 : decode cX3_init 90 = .ok (.newarray .int, 2) := getB' kX3_init_4 4 rfl
theorem dX3_init_92 : decode cX3_init 92 = .ok (.goto 4, 3) := getB' kX3_init_4 5 rfl
theorem dX3_init_95 : decode cX3_init 95 = .ok (.aconst_null, 1) := getB' kX3_init_4 6 rfl
theorem dX3_init_96 : decode cX3_init 96 = .ok (.putfield 52, 3) := getB' kX3_init_4 7 rfl
theorem dX3_init_99 : decode cX3_init 99 = .ok (.aload_n 0, 1) := getB' kX3_init_4 8 rfl
theorem dX3_init_100 : decode cX3_init 100 = .ok (.iload_n 1, 1) := getB' kX3_init_4 9 rfl
theorem dX3_init_101 : decode cX3_init 101 = .ok (.iconst 5, 1) := getB' kX3_init_4 10 rfl
theorem dX3_init_102 : decode cX3_init 102 = .ok (.if_icmp .ne 10, 3) := getB' kX3_init_4 11 rfl
def LX3_init_5 : List (Nat × Instr × Nat) := [(105, .bipush 10, 2), (107, .newarray .int, 2), (109, .goto 4, 3), (112, .aconst_null, 1), (113, .putfield 56, 3), (116, .aload_n 0, 1), (117, .iload_n 1, 1), (118, .iconst 4, 1), (119, .if_icmp .ne 16, 3), (122, .new 59, 3), (125, .dup, 1), (126, .iconst 2, 1)]
theorem kX3_init_5 : chkB cX3_init LX3_init_5 = true := by decide +kernel
theorem dX3_init_105 : decode cX3_init 105 = .ok (.bipush 10, 2) := getB' kX3_init_5 0 rfl
theorem dX3_init_107 : decode cX3_init 107 = .ok (.newarray .int, 2) := getB' kX3_init_5 1 rfl
theorem dX3_init_109 : decode cX3_init 109 = .ok (.goto 4, 3) := getB' kX3_init_5 2 rfl
theorem dX3_init_112 : decode cX3_init 112 = .ok (.aconst_null, 1) := getB' kX3_init_5 3 rfl
theorem dX3_init_113 : decode cX3_init 113 = .ok (.putfield 56, 3) := getB' kX3_init_5 4 rfl
theorem dX3_init_116 : decode cX3_init 116 = .ok (.aload_n 0, 1) := getB' kX3_init_5 5 rfl
theorem dX3_init_117 : decode cX3_init 117 = .ok (.iload_n 1, 1) := getB' kX3_init_5 6 rfl
theorem dX3_init_118 : decode cX3_init 118 = .ok (.iconst 4, 1) := getB' kX3_init_5 7 rfl
theorem dX3_init_119 : decode cX3_init 119 = .ok (.if_icmp .ne 16, 3) := getB' kX3_init_5 8 rfl
theorem dX3_init_122 : decode cX3_init 122 = .ok (.new 59, 3) := getB' kX3_init_5 9 rfl
theorem dX3_init_125 : decode cX3_init 125 = .ok (.dup, 1) := getB' kX3_init_5 10 rfl
theorem dX3_init_126 : decode cX3_init 126 = .ok (.iconst 2, 1) := getB' kX3_init_5 11 rfl
def LX3_init_6 : List (Nat × Instr × Nat) := [(127, .bipush 8, 2), (129, .invokespecial 61, 3), (132, .goto 4, 3), (135, .aconst_null, 1), (136, .putfield 64, 3), (139, .iload_n 1, 1), (140, .iconst 5, 1), (141, .if_icmp .ne 11, 3), (144, .aload_n 0, 1), (145, .getfield 52, 3), (148, .iconst (-1), 1), (149, .invokestatic 68, 3)]
theorem kX3_init_6 : chkB cX3_init LX3_init_6 = true := by decide +kernel
theorem dX3_init_127 : decode cX3_init 127 = .ok (.bipush 8, 2) := getB' kX3_init_6 0 rfl
theorem dX3_init_129 : decode cX3_init 129 = .ok (.invokespecial 61, 3) := getB' kX3_init_6 1 rfl
theorem dX3_init_132 : decode cX3_init 132 = .ok (.goto 4, 3) := getB' kX3_init_6 2 rfl
theorem dX3_init_135 : decode cX3_init 135 = .ok (.aconst_null, 1) := getB' kX3_init_6 3 rfl
theorem dX3_init_136 : decode cX3_init 136 = .ok (.putfield 64, 3) := getB' kX3_init_6 4 rfl
theorem dX3_init_139 : decode cX3_init 139 = .ok (.iload_n 1, 1) := getB' kX3_init_6 5 rfl
theorem dX3_init_140 : decode cX3_init 140 = .ok (.iconst 5, 1) := getB' kX3_init_6 6 rfl
theorem dX3_init_141 : decode cX3_init 141 = .ok (.if_icmp .ne 11, 3) := getB' kX3_init_6 7 rfl
theorem dX3_init_144 : decode cX3_init 144 = .ok (.aload_n 0, 1) := getB' kX3_init_6 8 rfl
theorem dX3_init_145 : decode cX3_init 145 = .ok (.getfield 52, 3) := getB' kX3_init_6 9 rfl
theorem dX3_init_148 : decode cX3_init 148 = .ok (.iconst (-1), 1) := getB' kX3_init_6 10 rfl
theorem dX3_init_149 : decode cX3_init 149 = .ok (.invokestatic 68, 3) := getB' kX3_init_6 11 rfl
def LX3_init_7 : List (Nat × Instr × Nat) := [(152, .return_, 1)]
theorem kX3_init_7 : chkB cX3_init LX3_init_7 = true := by decide +kernel
theorem dX3_init_152 : decode cX3_init 152 = .ok (.return_, 1) := getB' kX3_init_7 0 rfl
def LX3_addSounding_0 : List (Nat × Instr × Nat) := [(0, .aload_n 0, 1), (1, .getfield 64, 3), (4, .ifnull 27, 3), (7, .aload_n 0, 1), (8, .getfield 64, 3), (11, .iload_n 1, 1), (12, .iload_n 2, 1), (13, .isub, 1), (14, .iload_n 1, 1), (15, .iload_n 2, 1), (16, .iadd, 1), (17, .iconst 0, 1)]
theorem kX3_addSounding_0 : chkB cX3_addSounding LX3_addSounding_0 = true := by decide +kernel
theorem dX3_addSounding_0 : decode cX3_addSounding 0 = .ok (.aload_n 0, 1) := getB' kX3_addSounding_0 0 rfl
theorem dX3_addSounding_1 : decode cX3_addSounding 1 = .ok (.getfield 64, 3) := getB' kX3_addSounding_0 1 rfl
theorem dX3_addSounding_4 : decode cX3_addSounding 4 = .ok (.ifnull 27, 3) := getB' kX3_addSounding_0 2 rfl
theorem dX3_addSounding_7 : decode cX3_addSounding 7 = .ok (.aload_n 0, 1) := getB' kX3_addSounding_0 3 rfl
theorem dX3_addSounding_8 : decode cX3_addSounding 8 = .ok (.getfield 64, 3) := getB' kX3_addSounding_0 4 rfl
theorem dX3_addSounding_11 : decode cX3_addSounding 11 = .ok (.iload_n 1, 1) := getB' kX3_addSounding_0 5 rfl
theorem dX3_addSounding_12 : decode cX3_addSounding 12 = .ok (.iload_n 2, 1) := getB' kX3_addSounding_0 6 rfl
theorem dX3_addSounding_13 : decode cX3_addSounding 13 = .ok (.isub, 1) := getB' kX3_addSounding_0 7 rfl
theorem dX3_addSounding_14 : decode cX3_addSounding 14 = .ok (.iload_n 1, 1) := getB' kX3_addSounding_0 8 rfl
theorem dX3_addSounding_15 : decode cX3_addSounding 15 = .ok (.iload_n 2, 1) := getB' kX3_addSounding_0 9 rfl
theorem dX3_addSounding_16 : decode cX3_addSounding 16 = .ok (.iadd, 1) := getB' kX3_addSounding_0 10 rfl
theorem dX3_addSounding_17 : decode cX3_addSounding 17 = .ok (.iconst 0, 1) := getB' kX3_addSounding_0 11 rfl
def LX3_addSounding_1 : List (Nat × Instr × Nat) := [(18, .iconst 0, 1), (19, .iconst 0, 1), (20, .invokevirtual 74, 3), (23, .iconst (-1), 1), (24, .if_icmp .eq 7, 3), (27, .iconst 1, 1), (28, .goto 4, 3), (31, .iconst 0, 1), (32, .ireturn, 1)]
theorem kX3_addSounding_1 : chkB cX3_addSounding LX3_addSounding_1 = true := by decide +kernel
theorem dX3_addSounding_18 : decode cX3_addSounding 18 = .ok (.iconst 0, 1) := getB' kX3_addSounding_1 0 rfl
theorem dX3_addSounding_19 : decode cX3_addSounding 19 = .ok (.iconst 0, 1) := getB' kX3_addSounding_1 1 rfl
theorem dX3_addSounding_20 : decode cX3_addSounding 20 = .ok (.invokevirtual 74, 3) := getB' kX3_addSounding_1 2 rfl
theorem dX3_addSounding_23 : decode cX3_addSounding 23 = .ok (.iconst (-1), 1) := getB' kX3_addSounding_1 3 rfl
theorem dX3_addSounding_24 : decode cX3_addSounding 24 = .ok (.if_icmp .eq 7, 3) := getB' kX3_addSounding_1 4 rfl
theorem dX3_addSounding_27 : decode cX3_addSounding 27 = .ok (.iconst 1, 1) := getB' kX3_addSounding_1 5 rfl
theorem dX3_addSounding_28 : decode cX3_addSounding 28 = .ok (.goto 4, 3) := getB' kX3_addSounding_1 6 rfl
theorem dX3_addSounding_31 : decode cX3_addSounding 31 = .ok (.iconst 0, 1) := getB' kX3_addSounding_1 7 rfl
theorem dX3_addSounding_32 : decode cX3_addSounding 32 = .ok (.ireturn, 1) := getB' kX3_addSounding_1 8 rfl
def LX3_sureDepth_0 : List (Nat × Instr × Nat) := [(0, .aload_n 0, 1), (1, .getfield 64, 3), (4, .ifnull 13, 3), (7, .aload_n 0, 1), (8, .getfield 64, 3), (11, .getfield 78, 3), (14, .ifCond .ne 5, 3), (17, .iconst 0, 1), (18, .ireturn, 1), (19, .aload_n 0, 1), (20, .getfield 64, 3), (23, .iconst 0, 1)]
theorem kX3_sureDepth_0 : chkB cX3_sureDepth LX3_sureDepth_0 = true := by decide +kernel
theorem dX3_sureDepth_0 : decode cX3_sureDepth 0 = .ok (.aload_n 0, 1) := getB' kX3_sureDepth_0 0 rfl
theorem dX3_sureDepth_1 : decode cX3_sureDepth 1 = .ok (.getfield 64, 3) := getB' kX3_sureDepth_0 1 rfl
theorem dX3_sureDepth_4 : decode cX3_sureDepth 4 = .ok (.ifnull 13, 3) := getB' kX3_sureDepth_0 2 rfl
theorem dX3_sureDepth_7 : decode cX3_sureDepth 7 = .ok (.aload_n 0, 1) := getB' kX3_sureDepth_0 3 rfl
theorem dX3_sureDepth_8 : decode cX3_sureDepth 8 = .ok (.getfield 64, 3) := getB' kX3_sureDepth_0 4 rfl
theorem dX3_sureDepth_11 : decode cX3_sureDepth 11 = .ok (.getfield 78, 3) := getB' kX3_sureDepth_0 5 rfl
theorem dX3_sureDepth_14 : decode cX3_sureDepth 14 = .ok (.ifCond .ne 5, 3) := getB' kX3_sureDepth_0 6 rfl
theorem dX3_sureDepth_17 : decode cX3_sureDepth 17 = .ok (.iconst 0, 1) := getB' kX3_sureDepth_0 7 rfl
theorem dX3_sureDepth_18 : decode cX3_sureDepth 18 = .ok (.ireturn, 1) := getB' kX3_sureDepth_0 8 rfl
theorem dX3_sureDepth_19 : decode cX3_sureDepth 19 = .ok (.aload_n 0, 1) := getB' kX3_sureDepth_0 9 rfl
theorem dX3_sureDepth_20 : decode cX3_sureDepth 20 = .ok (.getfield 64, 3) := getB' kX3_sureDepth_0 10 rfl
theorem dX3_sureDepth_23 : decode cX3_sureDepth 23 = .ok (.iconst 0, 1) := getB' kX3_sureDepth_0 11 rfl
def LX3_sureDepth_1 : List (Nat × Instr × Nat) := [(24, .iconst 0, 1), (25, .invokevirtual 81, 3), (28, .istore_n 1, 1), (29, .iload_n 1, 1), (30, .istore_n 2, 1), (31, .aload_n 0, 1), (32, .getfield 64, 3), (35, .iconst 0, 1), (36, .iconst 1, 1), (37, .invokevirtual 81, 3), (40, .istore_n 3, 1), (41, .iconst 1, 1)]
theorem kX3_sureDepth_1 : chkB cX3_sureDepth LX3_sureDepth_1 = true := by decide +kernel
theorem dX3_sureDepth_24 : decode cX3_sureDepth 24 = .ok (.iconst 0, 1) := getB' kX3_sureDepth_1 0 rfl
theorem dX3_sureDepth_25 : decode cX3_sureDepth 25 = .ok (.invokevirtual 81, 3) := getB' kX3_sureDepth_1 1 rfl
theorem dX3_sureDepth_28 : decode cX3_sureDepth 28 = .ok (.istore_n 1, 1) := getB' kX3_sureDepth_1 2 rfl
theorem dX3_sureDepth_29 : decode cX3_sureDepth 29 = .ok (.iload_n 1, 1) := getB' kX3_sureDepth_1 3 rfl
theorem dX3_sureDepth_30 : decode cX3_sureDepth 30 = .ok (.istore_n 2, 1) := getB' kX3_sureDepth_1 4 rfl
theorem dX3_sureDepth_31 : decode cX3_sureDepth 31 = .ok (.aload_n 0, 1) := getB' kX3_sureDepth_1 5 rfl
theorem dX3_sureDepth_32 : decode cX3_sureDepth 32 = .ok (.getfield 64, 3) := getB' kX3_sureDepth_1 6 rfl
theorem dX3_sureDepth_35 : decode cX3_sureDepth 35 = .ok (.iconst 0, 1) := getB' kX3_sureDepth_1 7 rfl
theorem dX3_sureDepth_36 : decode cX3_sureDepth 36 = .ok (.iconst 1, 1) := getB' kX3_sureDepth_1 8 rfl
theorem dX3_sureDepth_37 : decode cX3_sureDepth 37 = .ok (.invokevirtual 81, 3) := getB' kX3_sureDepth_1 9 rfl
theorem dX3_sureDepth_40 : decode cX3_sureDepth 40 = .ok (.istore_n 3, 1) := getB' kX3_sureDepth_1 10 rfl
theorem dX3_sureDepth_41 : decode cX3_sureDepth 41 = .ok (.iconst 1, 1) := getB' kX3_sureDepth_1 11 rfl
def LX3_sureDepth_2 : List (Nat × Instr × Nat) := [(42, .istore 4, 2), (44, .iload 4, 2), (46, .aload_n 0, 1), (47, .getfield 64, 3), (50, .getfield 78, 3), (53, .if_icmp .ge 54, 3), (56, .iload_n 1, 1), (57, .aload_n 0, 1), (58, .getfield 64, 3), (61, .iload 4, 2), (63, .iconst 0, 1), (64, .invokevirtual 81, 3)]
theorem kX3_sureDepth_2 : chkB cX3_sureDepth LX3_sureDepth_2 = true := by decide +kernel
theorem dX3_sureDepth_42 : decode cX3_sureDepth 42 = .ok (.istore 4, 2) := getB' kX3_sureDepth_2 0 rfl
theorem dX3_sureDepth_44 : decode cX3_sureDepth 44 = .ok (.iload 4, 2) := getB' kX3_sureDepth_2 1 rfl
theorem dX3_sureDepth_46 : decode cX3_sureDepth 46 = .ok (.aload_n 0, 1) := getB' kX3_sureDepth_2 2 rfl
theorem dX3_sureDepth_47 : decode cX3_sureDepth 47 = .ok (.getfield 64, 3) := getB' kX3_sureDepth_2 3 rfl
theorem dX3_sureDepth_50 : decode cX3_sureDepth 50 = .ok (.getfield 78, 3) := getB' kX3_sureDepth_2 4 rfl
theorem dX3_sureDepth_53 : decode cX3_sureDepth 53 = .ok (.if_icmp .ge 54, 3) := getB' kX3_sureDepth_2 5 rfl
theorem dX3_sureDepth_56 : decode cX3_sureDepth 56 = .ok (.iload_n 1, 1) := getB' kX3_sureDepth_2 6 rfl
theorem dX3_sureDepth_57 : decode cX3_sureDepth 57 = .ok (.aload_n 0, 1) := getB' kX3_sureDepth_2 7 rfl
theorem dX3_sureDepth_58 : decode cX3_sureDepth 58 = .ok (.getfield 64, 3) := getB' kX3_sureDepth_2 8 rfl
theorem dX3_sureDepth_61 : decode cX3_sureDepth 61 = .ok (.iload 4, 2) := getB' kX3_sureDepth_2 9 rfl
theorem dX3_sureDepth_63 : decode cX3_sureDepth 63 = .ok (.iconst 0, 1) := getB' kX3_sureDepth_2 10 rfl
theorem dX3_sureDepth_64 : decode cX3_sureDepth 64 = .ok (.invokevirtual 81, 3) := getB' kX3_sureDepth_2 11 rfl
def LX3_sureDepth_3 : List (Nat × Instr × Nat) := [(67, .invokestatic 85, 3), (70, .istore_n 1, 1), (71, .iload_n 2, 1), (72, .aload_n 0, 1), (73, .getfield 64, 3), (76, .iload 4, 2), (78, .iconst 0, 1), (79, .invokevirtual 81, 3), (82, .invokestatic 90, 3), (85, .istore_n 2, 1), (86, .iload_n 3, 1), (87, .aload_n 0, 1)]
theorem kX3_sureDepth_3 : chkB cX3_sureDepth LX3_sureDepth_3 = true := by decide +kernel
theorem dX3_sureDepth_67 : decode cX3_sureDepth 67 = .ok (.invokestatic 85, 3) := getB' kX3_sureDepth_3 0 rfl
theorem dX3_sureDepth_70 : decode cX3_sureDepth 70 = .ok (.istore_n 1, 1) := getB' kX3_sureDepth_3 1 rfl
theorem dX3_sureDepth_71 : decode cX3_sureDepth 71 = .ok (.iload_n 2, 1) := getB' kX3_sureDepth_3 2 rfl
theorem dX3_sureDepth_72 : decode cX3_sureDepth 72 = .ok (.aload_n 0, 1) := getB' kX3_sureDepth_3 3 rfl
theorem dX3_sureDepth_73 : decode cX3_sureDepth 73 = .ok (.getfield 64, 3) := getB' kX3_sureDepth_3 4 rfl
theorem dX3_sureDepth_76 : decode cX3_sureDepth 76 = .ok (.iload 4, 2) := getB' kX3_sureDepth_3 5 rfl
theorem dX3_sureDepth_78 : decode cX3_sureDepth 78 = .ok (.iconst 0, 1) := getB' kX3_sureDepth_3 6 rfl
theorem dX3_sureDepth_79 : decode cX3_sureDepth 79 = .ok (.invokevirtual 81, 3) := getB' kX3_sureDepth_3 7 rfl
theorem dX3_sureDepth_82 : decode cX3_sureDepth 82 = .ok (.invokestatic 90, 3) := getB' kX3_sureDepth_3 8 rfl
theorem dX3_sureDepth_85 : decode cX3_sureDepth 85 = .ok (.istore_n 2, 1) := getB' kX3_sureDepth_3 9 rfl
theorem dX3_sureDepth_86 : decode cX3_sureDepth 86 = .ok (.iload_n 3, 1) := getB' kX3_sureDepth_3 10 rfl
theorem dX3_sureDepth_87 : decode cX3_sureDepth 87 = .ok (.aload_n 0, 1) := getB' kX3_sureDepth_3 11 rfl
def LX3_sureDepth_4 : List (Nat × Instr × Nat) := [(88, .getfield 64, 3), (91, .iload 4, 2), (93, .iconst 1, 1), (94, .invokevirtual 81, 3), (97, .invokestatic 85, 3), (100, .istore_n 3, 1), (101, .iinc 4 1, 3), (104, .goto (-60), 3), (107, .iconst 0, 1), (108, .iload_n 2, 1), (109, .iload_n 3, 1), (110, .if_icmp .gt 7, 3)]
theorem kX3_sureDepth_4 : chkB cX3_sureDepth LX3_sureDepth_4 = true := by decide +kernel
theorem dX3_sureDepth_88 : decode cX3_sureDepth 88 = .ok (.getfield 64, 3) := getB' kX3_sureDepth_4 0 rfl
theorem dX3_sureDepth_91 : decode cX3_sureDepth 91 = .ok (.iload 4, 2) := getB' kX3_sureDepth_4 1 rfl
theorem dX3_sureDepth_93 : decode cX3_sureDepth 93 = .ok (.iconst 1, 1) := getB' kX3_sureDepth_4 2 rfl
theorem dX3_sureDepth_94 : decode cX3_sureDepth 94 = .ok (.invokevirtual 81, 3) := getB' kX3_sureDepth_4 3 rfl
theorem dX3_sureDepth_97 : decode cX3_sureDepth 97 = .ok (.invokestatic 85, 3) := getB' kX3_sureDepth_4 4 rfl
theorem dX3_sureDepth_100 : decode cX3_sureDepth 100 = .ok (.istore_n 3, 1) := getB' kX3_sureDepth_4 5 rfl
theorem dX3_sureDepth_101 : decode cX3_sureDepth 101 = .ok (.iinc 4 1, 3) := getB' kX3_sureDepth_4 6 rfl
theorem dX3_sureDepth_104 : decode cX3_sureDepth 104 = .ok (.goto (-60), 3) := getB' kX3_sureDepth_4 7 rfl
theorem dX3_sureDepth_107 : decode cX3_sureDepth 107 = .ok (.iconst 0, 1) := getB' kX3_sureDepth_4 8 rfl
theorem dX3_sureDepth_108 : decode cX3_sureDepth 108 = .ok (.iload_n 2, 1) := getB' kX3_sureDepth_4 9 rfl
theorem dX3_sureDepth_109 : decode cX3_sureDepth 109 = .ok (.iload_n 3, 1) := getB' kX3_sureDepth_4 10 rfl
theorem dX3_sureDepth_110 : decode cX3_sureDepth 110 = .ok (.if_icmp .gt 7, 3) := getB' kX3_sureDepth_4 11 rfl
def LX3_sureDepth_5 : List (Nat × Instr × Nat) := [(113, .iload_n 2, 1), (114, .goto 4, 3), (117, .iload_n 1, 1), (118, .invokestatic 90, 3), (121, .ireturn, 1)]
theorem kX3_sureDepth_5 : chkB cX3_sureDepth LX3_sureDepth_5 = true := by decide +kernel
theorem dX3_sureDepth_113 : decode cX3_sureDepth 113 = .ok (.iload_n 2, 1) := getB' kX3_sureDepth_5 0 rfl
theorem dX3_sureDepth_114 : decode cX3_sureDepth 114 = .ok (.goto 4, 3) := getB' kX3_sureDepth_5 1 rfl
theorem dX3_sureDepth_117 : decode cX3_sureDepth 117 = .ok (.iload_n 1, 1) := getB' kX3_sureDepth_5 2 rfl
theorem dX3_sureDepth_118 : decode cX3_sureDepth 118 = .ok (.invokestatic 90, 3) := getB' kX3_sureDepth_5 3 rfl
theorem dX3_sureDepth_121 : decode cX3_sureDepth 121 = .ok (.ireturn, 1) := getB' kX3_sureDepth_5 4 rfl
def LX4_get_0 : List (Nat × Instr × Nat) := [(0, .aload_n 0, 1), (1, .ifnull 19, 3), (4, .iload_n 1, 1), (5, .ifCond .lt 15, 3), (8, .iload_n 1, 1), (9, .aload_n 0, 1), (10, .arraylength, 1), (11, .if_icmp .ge 9, 3), (14, .aload_n 0, 1), (15, .iload_n 1, 1), (16, .iaload, 1), (17, .goto 4, 3)]
theorem kX4_get_0 : chkB cX4_get LX4_get_0 = true := by decide +kernel
theorem dX4_get_0 : decode cX4_get 0 = .ok (.aload_n 0, 1) := getB' kX4_get_0 0 rfl
theorem dX4_get_1 : decode cX4_get 1 = .ok (.ifnull 19, 3) := getB' kX4_get_0 1 rfl
theorem dX4_get_4 : decode cX4_get 4 = .ok (.iload_n 1, 1) := getB' kX4_get_0 2 rfl
theorem dX4_get_5 : decode cX4_get 5 = .ok (.ifCond .lt 15, 3) := getB' kX4_get_0 3 rfl
theorem dX4_get_8 : decode cX4_get 8 = .ok (.iload_n 1, 1) := getB' kX4_get_0 4 rfl
theorem dX4_get_9 : decode cX4_get 9 = .ok (.aload_n 0, 1) := getB' kX4_get_0 5 rfl
theorem dX4_get_10 : decode cX4_get 10 = .ok (.arraylength, 1) := getB' kX4_get_0 6 rfl
theorem dX4_get_11 : decode cX4_get 11 = .ok (.if_icmp .ge 9, 3) := getB' kX4_get_0 7 rfl
theorem dX4_get_14 : decode cX4_get 14 = .ok (.aload_n 0, 1) := getB' kX4_get_0 8 rfl
theorem dX4_get_15 : decode cX4_get 15 = .ok (.iload_n 1, 1) := getB' kX4_get_0 9 rfl
theorem dX4_get_16 : decode cX4_get 16 = .ok (.iaload, 1) := getB' kX4_get_0 10 rfl
theorem dX4_get_17 : decode cX4_get 17 = .ok (.goto 4, 3) := getB' kX4_get_0 11 rfl
def LX4_get_1 : List (Nat × Instr × Nat) := [(20, .iconst 0, 1), (21, .ireturn, 1)]
theorem kX4_get_1 : chkB cX4_get LX4_get_1 = true := by decide +kernel
theorem dX4_get_20 : decode cX4_get 20 = .ok (.iconst 0, 1) := getB' kX4_get_1 0 rfl
theorem dX4_get_21 : decode cX4_get 21 = .ok (.ireturn, 1) := getB' kX4_get_1 1 rfl
def LX4_put_0 : List (Nat × Instr × Nat) := [(0, .aload_n 0, 1), (1, .ifnull 17, 3), (4, .iload_n 1, 1), (5, .ifCond .lt 13, 3), (8, .iload_n 1, 1), (9, .aload_n 0, 1), (10, .arraylength, 1), (11, .if_icmp .ge 7, 3), (14, .aload_n 0, 1), (15, .iload_n 1, 1), (16, .iload_n 2, 1), (17, .iastore, 1)]
theorem kX4_put_0 : chkB cX4_put LX4_put_0 = true := by decide +kernel
theorem dX4_put_0 : decode cX4_put 0 = .ok (.aload_n 0, 1) := getB' kX4_put_0 0 rfl
theorem dX4_put_1 : decode cX4_put 1 = .ok (.ifnull 17, 3) := getB' kX4_put_0 1 rfl
theorem dX4_put_4 : decode cX4_put 4 = .ok (.iload_n 1, 1) := getB' kX4_put_0 2 rfl
theorem dX4_put_5 : decode cX4_put 5 = .ok (.ifCond .lt 13, 3) := getB' kX4_put_0 3 rfl
theorem dX4_put_8 : decode cX4_put 8 = .ok (.iload_n 1, 1) := getB' kX4_put_0 4 rfl
theorem dX4_put_9 : decode cX4_put 9 = .ok (.aload_n 0, 1) := getB' kX4_put_0 5 rfl
theorem dX4_put_10 : decode cX4_put 10 = .ok (.arraylength, 1) := getB' kX4_put_0 6 rfl
theorem dX4_put_11 : decode cX4_put 11 = .ok (.if_icmp .ge 7, 3) := getB' kX4_put_0 7 rfl
theorem dX4_put_14 : decode cX4_put 14 = .ok (.aload_n 0, 1) := getB' kX4_put_0 8 rfl
theorem dX4_put_15 : decode cX4_put 15 = .ok (.iload_n 1, 1) := getB' kX4_put_0 9 rfl
theorem dX4_put_16 : decode cX4_put 16 = .ok (.iload_n 2, 1) := getB' kX4_put_0 10 rfl
theorem dX4_put_17 : decode cX4_put 17 = .ok (.iastore, 1) := getB' kX4_put_0 11 rfl
def LX4_put_1 : List (Nat × Instr × Nat) := [(18, .return_, 1)]
theorem kX4_put_1 : chkB cX4_put LX4_put_1 = true := by decide +kernel
theorem dX4_put_18 : decode cX4_put 18 = .ok (.return_, 1) := getB' kX4_put_1 0 rfl
def LX4_add : List (Nat × Instr × Nat) := [(0, .aload_n 0, 1), (1, .iload_n 1, 1), (2, .aload_n 0, 1), (3, .iload_n 1, 1), (4, .invokestatic 7, 3), (7, .iload_n 2, 1), (8, .iadd, 1), (9, .invokestatic 13, 3), (12, .return_, 1)]
theorem kX4_add : chkB cX4_add LX4_add = true := by decide +kernel
theorem dX4_add_0 : decode cX4_add 0 = .ok (.aload_n 0, 1) := getB' kX4_add 0 rfl
theorem dX4_add_1 : decode cX4_add 1 = .ok (.iload_n 1, 1) := getB' kX4_add 1 rfl
theorem dX4_add_2 : decode cX4_add 2 = .ok (.aload_n 0, 1) := getB' kX4_add 2 rfl
theorem dX4_add_3 : decode cX4_add 3 = .ok (.iload_n 1, 1) := getB' kX4_add 3 rfl
theorem dX4_add_4 : decode cX4_add 4 = .ok (.invokestatic 7, 3) := getB' kX4_add 4 rfl
theorem dX4_add_7 : decode cX4_add 7 = .ok (.iload_n 2, 1) := getB' kX4_add 5 rfl
theorem dX4_add_8 : decode cX4_add 8 = .ok (.iadd, 1) := getB' kX4_add 6 rfl
theorem dX4_add_9 : decode cX4_add 9 = .ok (.invokestatic 13, 3) := getB' kX4_add 7 rfl
theorem dX4_add_12 : decode cX4_add 12 = .ok (.return_, 1) := getB' kX4_add 8 rfl
def LX4_fill_0 : List (Nat × Instr × Nat) := [(0, .aload_n 0, 1), (1, .ifnonnull 4, 3), (4, .return_, 1), (5, .iconst 0, 1), (6, .istore_n 2, 1), (7, .iload_n 2, 1), (8, .aload_n 0, 1), (9, .arraylength, 1), (10, .if_icmp .ge 13, 3), (13, .aload_n 0, 1), (14, .iload_n 2, 1), (15, .iload_n 1, 1)]
theorem kX4_fill_0 : chkB cX4_fill LX4_fill_0 = true := by decide +kernel
theorem dX4_fill_0 : decode cX4_fill 0 = .ok (.aload_n 0, 1) := getB' kX4_fill_0 0 rfl
theorem dX4_fill_1 : decode cX4_fill 1 = .ok (.ifnonnull 4, 3) := getB' kX4_fill_0 1 rfl
theorem dX4_fill_4 : decode cX4_fill 4 = .ok (.return_, 1) := getB' kX4_fill_0 2 rfl
theorem dX4_fill_5 : decode cX4_fill 5 = .ok (.iconst 0, 1) := getB' kX4_fill_0 3 rfl
theorem dX4_fill_6 : decode cX4_fill 6 = .ok (.istore_n 2, 1) := getB' kX4_fill_0 4 rfl
theorem dX4_fill_7 : decode cX4_fill 7 = .ok (.iload_n 2, 1) := getB' kX4_fill_0 5 rfl
theorem dX4_fill_8 : decode cX4_fill 8 = .ok (.aload_n 0, 1) := getB' kX4_fill_0 6 rfl
theorem dX4_fill_9 : decode cX4_fill 9 = .ok (.arraylength, 1) := getB' kX4_fill_0 7 rfl
theorem dX4_fill_10 : decode cX4_fill 10 = .ok (.if_icmp .ge 13, 3) := getB' kX4_fill_0 8 rfl
theorem dX4_fill_13 : decode cX4_fill 13 = .ok (.aload_n 0, 1) := getB' kX4_fill_0 9 rfl
theorem dX4_fill_14 : decode cX4_fill 14 = .ok (.iload_n 2, 1) := getB' kX4_fill_0 10 rfl
theorem dX4_fill_15 : decode cX4_fill 15 = .ok (.iload_n 1, 1) := getB' kX4_fill_0 11 rfl
def LX4_fill_1 : List (Nat × Instr × Nat) := [(16, .iastore, 1), (17, .iinc 2 1, 3), (20, .goto (-13), 3), (23, .return_, 1)]
theorem kX4_fill_1 : chkB cX4_fill LX4_fill_1 = true := by decide +kernel
theorem dX4_fill_16 : decode cX4_fill 16 = .ok (.iastore, 1) := getB' kX4_fill_1 0 rfl
theorem dX4_fill_17 : decode cX4_fill 17 = .ok (.iinc 2 1, 3) := getB' kX4_fill_1 1 rfl
theorem dX4_fill_20 : decode cX4_fill 20 = .ok (.goto (-13), 3) := getB' kX4_fill_1 2 rfl
theorem dX4_fill_23 : decode cX4_fill 23 = .ok (.return_, 1) := getB' kX4_fill_1 3 rfl
def LX5_init_0 : List (Nat × Instr × Nat) := [(0, .aload_n 0, 1), (1, .invokespecial 3, 3), (4, .aload_n 0, 1), (5, .iconst 0, 1), (6, .putfield 9, 3), (9, .aload_n 0, 1), (10, .iconst 0, 1), (11, .putfield 15, 3), (14, .aload_n 0, 1), (15, .iconst 0, 1), (16, .putfield 18, 3), (19, .aload_n 0, 1)]
theorem kX5_init_0 : chkB cX5_init LX5_init_0 = true := by decide +kernel
theorem dX5_init_0 : decode cX5_init 0 = .ok (.aload_n 0, 1) := getB' kX5_init_0 0 rfl
theorem dX5_init_1 : decode cX5_init 1 = .ok (.invokespecial 3, 3) := getB' kX5_init_0 1 rfl
theorem dX5_init_4 : decode cX5_init 4 = .ok (.aload_n 0, 1) := getB' kX5_init_0 2 rfl
theorem dX5_init_5 : decode cX5_init 5 = .ok (.iconst 0, 1) := getB' kX5_init_0 3 rfl
theorem dX5_init_6 : decode cX5_init 6 = .ok (.putfield 9, 3) := getB' kX5_init_0 4 rfl
theorem dX5_init_9 : decode cX5_init 9 = .ok (.aload_n 0, 1) := getB' kX5_init_0 5 rfl
theorem dX5_init_10 : decode cX5_init 10 = .ok (.iconst 0, 1) := getB' kX5_init_0 6 rfl
theorem dX5_init_11 : decode cX5_init 11 = .ok (.putfield 15, 3) := getB' kX5_init_0 7 rfl
theorem dX5_init_14 : decode cX5_init 14 = .ok (.aload_n 0, 1) := getB' kX5_init_0 8 rfl
theorem dX5_init_15 : decode cX5_init 15 = .ok (.iconst 0, 1) := getB' kX5_init_0 9 rfl
theorem dX5_init_16 : decode cX5_init 16 = .ok (.putfield 18, 3) := getB' kX5_init_0 10 rfl
theorem dX5_init_19 : decode cX5_init 19 = .ok (.aload_n 0, 1) := getB' kX5_init_0 11 rfl
def LX5_init_1 : List (Nat × Instr × Nat) := [(20, .iconst 0, 1), (21, .putfield 21, 3), (24, .aload_n 0, 1), (25, .aload_n 1, 1), (26, .putfield 24, 3), (29, .aload_n 0, 1), (30, .iload_n 2, 1), (31, .putfield 28, 3), (34, .aload_n 0, 1), (35, .aload_n 3, 1), (36, .putfield 31, 3), (39, .return_, 1)]
theorem kX5_init_1 : chkB cX5_init LX5_init_1 = true := by decide +kernel
theorem dX5_init_20 : decode cX5_init 20 = .ok (.iconst 0, 1) := getB' kX5_init_1 0 rfl
theorem dX5_init_21 : decode cX5_init 21 = .ok (.putfield 21, 3) := getB' kX5_init_1 1 rfl
theorem dX5_init_24 : decode cX5_init 24 = .ok (.aload_n 0, 1) := getB' kX5_init_1 2 rfl
theorem dX5_init_25 : decode cX5_init 25 = .ok (.aload_n 1, 1) := getB' kX5_init_1 3 rfl
theorem dX5_init_26 : decode cX5_init 26 = .ok (.putfield 24, 3) := getB' kX5_init_1 4 rfl
theorem dX5_init_29 : decode cX5_init 29 = .ok (.aload_n 0, 1) := getB' kX5_init_1 5 rfl
theorem dX5_init_30 : decode cX5_init 30 = .ok (.iload_n 2, 1) := getB' kX5_init_1 6 rfl
theorem dX5_init_31 : decode cX5_init 31 = .ok (.putfield 28, 3) := getB' kX5_init_1 7 rfl
theorem dX5_init_34 : decode cX5_init 34 = .ok (.aload_n 0, 1) := getB' kX5_init_1 8 rfl
theorem dX5_init_35 : decode cX5_init 35 = .ok (.aload_n 3, 1) := getB' kX5_init_1 9 rfl
theorem dX5_init_36 : decode cX5_init 36 = .ok (.putfield 31, 3) := getB' kX5_init_1 10 rfl
theorem dX5_init_39 : decode cX5_init 39 = .ok (.return_, 1) := getB' kX5_init_1 11 rfl
def LX5_faultAnswer : List (Nat × Instr × Nat) := [(0, .sipush (-1000), 3), (3, .aload_n 0, 1), (4, .getfield 18, 3), (7, .imul, 1), (8, .aload_n 0, 1), (9, .getfield 21, 3), (12, .isub, 1), (13, .ireturn, 1)]
theorem kX5_faultAnswer : chkB cX5_faultAnswer LX5_faultAnswer = true := by decide +kernel
theorem dX5_faultAnswer_0 : decode cX5_faultAnswer 0 = .ok (.sipush (-1000), 3) := getB' kX5_faultAnswer 0 rfl
theorem dX5_faultAnswer_3 : decode cX5_faultAnswer 3 = .ok (.aload_n 0, 1) := getB' kX5_faultAnswer 1 rfl
theorem dX5_faultAnswer_4 : decode cX5_faultAnswer 4 = .ok (.getfield 18, 3) := getB' kX5_faultAnswer 2 rfl
theorem dX5_faultAnswer_7 : decode cX5_faultAnswer 7 = .ok (.imul, 1) := getB' kX5_faultAnswer 3 rfl
theorem dX5_faultAnswer_8 : decode cX5_faultAnswer 8 = .ok (.aload_n 0, 1) := getB' kX5_faultAnswer 4 rfl
theorem dX5_faultAnswer_9 : decode cX5_faultAnswer 9 = .ok (.getfield 21, 3) := getB' kX5_faultAnswer 5 rfl
theorem dX5_faultAnswer_12 : decode cX5_faultAnswer 12 = .ok (.isub, 1) := getB' kX5_faultAnswer 6 rfl
theorem dX5_faultAnswer_13 : decode cX5_faultAnswer 13 = .ok (.ireturn, 1) := getB' kX5_faultAnswer 7 rfl
def LX5_writeText_0 : List (Nat × Instr × Nat) := [(0, .iconst 0, 1), (1, .istore_n 1, 1), (2, .iload_n 1, 1), (3, .bipush 12, 2), (5, .if_icmp .gt 45, 3), (8, .aload_n 0, 1), (9, .getfield 18, 3), (12, .ifCond .ne 38, 3), (15, .aload_n 0, 1), (16, .invokevirtual 35, 3), (19, .aload_n 0, 1), (20, .getfield 18, 3)]
theorem kX5_writeText_0 : chkB cX5_writeText LX5_writeText_0 = true := by decide +kernel
theorem dX5_writeText_0 : decode cX5_writeText 0 = .ok (.iconst 0, 1) := getB' kX5_writeText_0 0 rfl
theorem dX5_writeText_1 : decode cX5_writeText 1 = .ok (.istore_n 1, 1) := getB' kX5_writeText_0 1 rfl
theorem dX5_writeText_2 : decode cX5_writeText 2 = .ok (.iload_n 1, 1) := getB' kX5_writeText_0 2 rfl
theorem dX5_writeText_3 : decode cX5_writeText 3 = .ok (.bipush 12, 2) := getB' kX5_writeText_0 3 rfl
theorem dX5_writeText_5 : decode cX5_writeText 5 = .ok (.if_icmp .gt 45, 3) := getB' kX5_writeText_0 4 rfl
theorem dX5_writeText_8 : decode cX5_writeText 8 = .ok (.aload_n 0, 1) := getB' kX5_writeText_0 5 rfl
theorem dX5_writeText_9 : decode cX5_writeText 9 = .ok (.getfield 18, 3) := getB' kX5_writeText_0 6 rfl
theorem dX5_writeText_12 : decode cX5_writeText 12 = .ok (.ifCond .ne 38, 3) := getB' kX5_writeText_0 7 rfl
theorem dX5_writeText_15 : decode cX5_writeText 15 = .ok (.aload_n 0, 1) := getB' kX5_writeText_0 8 rfl
theorem dX5_writeText_16 : decode cX5_writeText 16 = .ok (.invokevirtual 35, 3) := getB' kX5_writeText_0 9 rfl
theorem dX5_writeText_19 : decode cX5_writeText 19 = .ok (.aload_n 0, 1) := getB' kX5_writeText_0 10 rfl
theorem dX5_writeText_20 : decode cX5_writeText 20 = .ok (.getfield 18, 3) := getB' kX5_writeText_0 11 rfl
def LX5_writeText_1 : List (Nat × Instr × Nat) := [(23, .ifCond .ne 14, 3), (26, .aload_n 0, 1), (27, .getfield 9, 3), (30, .aload_n 0, 1), (31, .getfield 28, 3), (34, .if_icmp .lt 4, 3), (37, .return_, 1), (38, .aload_n 0, 1), (39, .bipush 59, 2), (41, .invokevirtual 38, 3), (44, .iinc 1 1, 3), (47, .goto (-45), 3)]
theorem kX5_writeText_1 : chkB cX5_writeText LX5_writeText_1 = true := by decide +kernel
theorem dX5_writeText_23 : decode cX5_writeText 23 = .ok (.ifCond .ne 14, 3) := getB' kX5_writeText_1 0 rfl
theorem dX5_writeText_26 : decode cX5_writeText 26 = .ok (.aload_n 0, 1) := getB' kX5_writeText_1 1 rfl
theorem dX5_writeText_27 : decode cX5_writeText 27 = .ok (.getfield 9, 3) := getB' kX5_writeText_1 2 rfl
theorem dX5_writeText_30 : decode cX5_writeText 30 = .ok (.aload_n 0, 1) := getB' kX5_writeText_1 3 rfl
theorem dX5_writeText_31 : decode cX5_writeText 31 = .ok (.getfield 28, 3) := getB' kX5_writeText_1 4 rfl
theorem dX5_writeText_34 : decode cX5_writeText 34 = .ok (.if_icmp .lt 4, 3) := getB' kX5_writeText_1 5 rfl
theorem dX5_writeText_37 : decode cX5_writeText 37 = .ok (.return_, 1) := getB' kX5_writeText_1 6 rfl
theorem dX5_writeText_38 : decode cX5_writeText 38 = .ok (.aload_n 0, 1) := getB' kX5_writeText_1 7 rfl
theorem dX5_writeText_39 : decode cX5_writeText 39 = .ok (.bipush 59, 2) := getB' kX5_writeText_1 8 rfl
theorem dX5_writeText_41 : decode cX5_writeText 41 = .ok (.invokevirtual 38, 3) := getB' kX5_writeText_1 9 rfl
theorem dX5_writeText_44 : decode cX5_writeText 44 = .ok (.iinc 1 1, 3) := getB' kX5_writeText_1 10 rfl
theorem dX5_writeText_47 : decode cX5_writeText 47 = .ok (.goto (-45), 3) := getB' kX5_writeText_1 11 rfl
def LX5_writeText_2 : List (Nat × Instr × Nat) := [(50, .return_, 1)]
theorem kX5_writeText_2 : chkB cX5_writeText LX5_writeText_2 = true := by decide +kernel
theorem dX5_writeText_50 : decode cX5_writeText 50 = .ok (.return_, 1) := getB' kX5_writeText_2 0 rfl
def LX5_writeReading_0 : List (Nat × Instr × Nat) := [(0, .aload_n 0, 1), (1, .getfield 31, 3), (4, .getfield 42, 3), (7, .bipush 40, 2), (9, .iconst 0, 1), (10, .iconst 0, 1), (11, .iconst 0, 1), (12, .iconst 0, 1), (13, .invokevirtual 48, 3), (16, .pop, 1), (17, .aload_n 0, 1), (18, .invokevirtual 54, 3)]
theorem kX5_writeReading_0 : chkB cX5_writeReading LX5_writeReading_0 = true := by decide +kernel
theorem dX5_writeReading_0 : decode cX5_writeReading 0 = .ok (.aload_n 0, 1) := getB' kX5_writeReading_0 0 rfl
theorem dX5_writeReading_1 : decode cX5_writeReading 1 = .ok (.getfield 31, 3) := getB' kX5_writeReading_0 1 rfl
theorem dX5_writeReading_4 : decode cX5_writeReading 4 = .ok (.getfield 42, 3) := getB' kX5_writeReading_0 2 rfl
theorem dX5_writeReading_7 : decode cX5_writeReading 7 = .ok (.bipush 40, 2) := getB' kX5_writeReading_0 3 rfl
theorem dX5_writeReading_9 : decode cX5_writeReading 9 = .ok (.iconst 0, 1) := getB' kX5_writeReading_0 4 rfl
theorem dX5_writeReading_10 : decode cX5_writeReading 10 = .ok (.iconst 0, 1) := getB' kX5_writeReading_0 5 rfl
theorem dX5_writeReading_11 : decode cX5_writeReading 11 = .ok (.iconst 0, 1) := getB' kX5_writeReading_0 6 rfl
theorem dX5_writeReading_12 : decode cX5_writeReading 12 = .ok (.iconst 0, 1) := getB' kX5_writeReading_0 7 rfl
theorem dX5_writeReading_13 : decode cX5_writeReading 13 = .ok (.invokevirtual 48, 3) := getB' kX5_writeReading_0 8 rfl
theorem dX5_writeReading_16 : decode cX5_writeReading 16 = .ok (.pop, 1) := getB' kX5_writeReading_0 9 rfl
theorem dX5_writeReading_17 : decode cX5_writeReading 17 = .ok (.aload_n 0, 1) := getB' kX5_writeReading_0 10 rfl
theorem dX5_writeReading_18 : decode cX5_writeReading 18 = .ok (.invokevirtual 54, 3) := getB' kX5_writeReading_0 11 rfl
def LX5_writeReading_1 : List (Nat × Instr × Nat) := [(21, .aload_n 0, 1), (22, .getfield 9, 3), (25, .aload_n 0, 1), (26, .getfield 28, 3), (29, .if_icmp .ge 12, 3), (32, .aload_n 0, 1), (33, .iconst 1, 1), (34, .aload_n 0, 1), (35, .getfield 9, 3), (38, .invokevirtual 57, 3), (41, .return_, 1)]
theorem kX5_writeReading_1 : chkB cX5_writeReading LX5_writeReading_1 = true := by decide +kernel
theorem dX5_writeReading_21 : decode cX5_writeReading 21 = .ok (.aload_n 0, 1) := getB' kX5_writeReading_1 0 rfl
theorem dX5_writeReading_22 : decode cX5_writeReading 22 = .ok (.getfield 9, 3) := getB' kX5_writeReading_1 1 rfl
theorem dX5_writeReading_25 : decode cX5_writeReading 25 = .ok (.aload_n 0, 1) := getB' kX5_writeReading_1 2 rfl
theorem dX5_writeReading_26 : decode cX5_writeReading 26 = .ok (.getfield 28, 3) := getB' kX5_writeReading_1 3 rfl
theorem dX5_writeReading_29 : decode cX5_writeReading 29 = .ok (.if_icmp .ge 12, 3) := getB' kX5_writeReading_1 4 rfl
theorem dX5_writeReading_32 : decode cX5_writeReading 32 = .ok (.aload_n 0, 1) := getB' kX5_writeReading_1 5 rfl
theorem dX5_writeReading_33 : decode cX5_writeReading 33 = .ok (.iconst 1, 1) := getB' kX5_writeReading_1 6 rfl
theorem dX5_writeReading_34 : decode cX5_writeReading 34 = .ok (.aload_n 0, 1) := getB' kX5_writeReading_1 7 rfl
theorem dX5_writeReading_35 : decode cX5_writeReading 35 = .ok (.getfield 9, 3) := getB' kX5_writeReading_1 8 rfl
theorem dX5_writeReading_38 : decode cX5_writeReading 38 = .ok (.invokevirtual 57, 3) := getB' kX5_writeReading_1 9 rfl
theorem dX5_writeReading_41 : decode cX5_writeReading 41 = .ok (.return_, 1) := getB' kX5_writeReading_1 10 rfl
def LX5_clause_0 : List (Nat × Instr × Nat) := [(0, .aload_n 0, 1), (1, .invokevirtual 61, 3), (4, .istore_n 1, 1), (5, .iload_n 1, 1), (6, .invokestatic 65, 3), (9, .ifCond .ne 13, 3), (12, .aload_n 0, 1), (13, .iconst 1, 1), (14, .aload_n 0, 1), (15, .getfield 9, 3), (18, .invokevirtual 57, 3), (21, .return_, 1)]
theorem kX5_clause_0 : chkB cX5_clause LX5_clause_0 = true := by decide +kernel
theorem dX5_clause_0 : decode cX5_clause 0 = .ok (.aload_n 0, 1) := getB' kX5_clause_0 0 rfl
theorem dX5_clause_1 : decode cX5_clause 1 = .ok (.invokevirtual 61, 3) := getB' kX5_clause_0 1 rfl
theorem dX5_clause_4 : decode cX5_clause 4 = .ok (.istore_n 1, 1) := getB' kX5_clause_0 2 rfl
theorem dX5_clause_5 : decode cX5_clause 5 = .ok (.iload_n 1, 1) := getB' kX5_clause_0 3 rfl
theorem dX5_clause_6 : decode cX5_clause 6 = .ok (.invokestatic 65, 3) := getB' kX5_clause_0 4 rfl
theorem dX5_clause_9 : decode cX5_clause 9 = .ok (.ifCond .ne 13, 3) := getB' kX5_clause_0 5 rfl
theorem dX5_clause_12 : decode cX5_clause 12 = .ok (.aload_n 0, 1) := getB' kX5_clause_0 6 rfl
theorem dX5_clause_13 : decode cX5_clause 13 = .ok (.iconst 1, 1) := getB' kX5_clause_0 7 rfl
theorem dX5_clause_14 : decode cX5_clause 14 = .ok (.aload_n 0, 1) := getB' kX5_clause_0 8 rfl
theorem dX5_clause_15 : decode cX5_clause 15 = .ok (.getfield 9, 3) := getB' kX5_clause_0 9 rfl
theorem dX5_clause_18 : decode cX5_clause 18 = .ok (.invokevirtual 57, 3) := getB' kX5_clause_0 10 rfl
theorem dX5_clause_21 : decode cX5_clause 21 = .ok (.return_, 1) := getB' kX5_clause_0 11 rfl
def LX5_clause_1 : List (Nat × Instr × Nat) := [(22, .aload_n 0, 1), (23, .getfield 31, 3), (26, .getfield 42, 3), (29, .iload_n 1, 1), (30, .iconst 0, 1), (31, .iconst 0, 1), (32, .iconst 0, 1), (33, .iconst 0, 1), (34, .invokevirtual 48, 3), (37, .iconst (-1), 1), (38, .if_icmp .ne 13, 3), (41, .aload_n 0, 1)]
theorem kX5_clause_1 : chkB cX5_clause LX5_clause_1 = true := by decide +kernel
theorem dX5_clause_22 : decode cX5_clause 22 = .ok (.aload_n 0, 1) := getB' kX5_clause_1 0 rfl
theorem dX5_clause_23 : decode cX5_clause 23 = .ok (.getfield 31, 3) := getB' kX5_clause_1 1 rfl
theorem dX5_clause_26 : decode cX5_clause 26 = .ok (.getfield 42, 3) := getB' kX5_clause_1 2 rfl
theorem dX5_clause_29 : decode cX5_clause 29 = .ok (.iload_n 1, 1) := getB' kX5_clause_1 3 rfl
theorem dX5_clause_30 : decode cX5_clause 30 = .ok (.iconst 0, 1) := getB' kX5_clause_1 4 rfl
theorem dX5_clause_31 : decode cX5_clause 31 = .ok (.iconst 0, 1) := getB' kX5_clause_1 5 rfl
theorem dX5_clause_32 : decode cX5_clause 32 = .ok (.iconst 0, 1) := getB' kX5_clause_1 6 rfl
theorem dX5_clause_33 : decode cX5_clause 33 = .ok (.iconst 0, 1) := getB' kX5_clause_1 7 rfl
theorem dX5_clause_34 : decode cX5_clause 34 = .ok (.invokevirtual 48, 3) := getB' kX5_clause_1 8 rfl
theorem dX5_clause_37 : decode cX5_clause 37 = .ok (.iconst (-1), 1) := getB' kX5_clause_1 9 rfl
theorem dX5_clause_38 : decode cX5_clause 38 = .ok (.if_icmp .ne 13, 3) := getB' kX5_clause_1 10 rfl
theorem dX5_clause_41 : decode cX5_clause 41 = .ok (.aload_n 0, 1) := getB' kX5_clause_1 11 rfl
def LX5_clause_2 : List (Nat × Instr × Nat) := [(42, .iconst 4, 1), (43, .aload_n 0, 1), (44, .getfield 9, 3), (47, .invokevirtual 57, 3), (50, .return_, 1), (51, .aload_n 0, 1), (52, .dup, 1), (53, .getfield 9, 3), (56, .iconst 1, 1), (57, .iadd, 1), (58, .putfield 9, 3), (61, .iload_n 1, 1)]
theorem kX5_clause_2 : chkB cX5_clause LX5_clause_2 = true := by decide +kernel
theorem dX5_clause_42 : decode cX5_clause 42 = .ok (.iconst 4, 1) := getB' kX5_clause_2 0 rfl
theorem dX5_clause_43 : decode cX5_clause 43 = .ok (.aload_n 0, 1) := getB' kX5_clause_2 1 rfl
theorem dX5_clause_44 : decode cX5_clause 44 = .ok (.getfield 9, 3) := getB' kX5_clause_2 2 rfl
theorem dX5_clause_47 : decode cX5_clause 47 = .ok (.invokevirtual 57, 3) := getB' kX5_clause_2 3 rfl
theorem dX5_clause_50 : decode cX5_clause 50 = .ok (.return_, 1) := getB' kX5_clause_2 4 rfl
theorem dX5_clause_51 : decode cX5_clause 51 = .ok (.aload_n 0, 1) := getB' kX5_clause_2 5 rfl
theorem dX5_clause_52 : decode cX5_clause 52 = .ok (.dup, 1) := getB' kX5_clause_2 6 rfl
theorem dX5_clause_53 : decode cX5_clause 53 = .ok (.getfield 9, 3) := getB' kX5_clause_2 7 rfl
theorem dX5_clause_56 : decode cX5_clause 56 = .ok (.iconst 1, 1) := getB' kX5_clause_2 8 rfl
theorem dX5_clause_57 : decode cX5_clause 57 = .ok (.iadd, 1) := getB' kX5_clause_2 9 rfl
theorem dX5_clause_58 : decode cX5_clause 58 = .ok (.putfield 9, 3) := getB' kX5_clause_2 10 rfl
theorem dX5_clause_61 : decode cX5_clause 61 = .ok (.iload_n 1, 1) := getB' kX5_clause_2 11 rfl
def LX5_clause_3 : List (Nat × Instr × Nat) := [(62, .bipush 107, 2), (64, .if_icmp .ne 38, 3), (67, .aload_n 0, 1), (68, .iconst 2, 1), (69, .aload_n 0, 1), (70, .iconst 3, 1), (71, .invokevirtual 69, 3), (74, .invokevirtual 73, 3), (77, .aload_n 0, 1), (78, .bipush 46, 2), (80, .invokevirtual 38, 3), (83, .aload_n 0, 1)]
theorem kX5_clause_3 : chkB cX5_clause LX5_clause_3 = true := by decide +kernel
theorem dX5_clause_62 : decode cX5_clause 62 = .ok (.bipush 107, 2) := getB' kX5_clause_3 0 rfl
theorem dX5_clause_64 : decode cX5_clause 64 = .ok (.if_icmp .ne 38, 3) := getB' kX5_clause_3 1 rfl
theorem dX5_clause_67 : decode cX5_clause 67 = .ok (.aload_n 0, 1) := getB' kX5_clause_3 2 rfl
theorem dX5_clause_68 : decode cX5_clause 68 = .ok (.iconst 2, 1) := getB' kX5_clause_3 3 rfl
theorem dX5_clause_69 : decode cX5_clause 69 = .ok (.aload_n 0, 1) := getB' kX5_clause_3 4 rfl
theorem dX5_clause_70 : decode cX5_clause 70 = .ok (.iconst 3, 1) := getB' kX5_clause_3 5 rfl
theorem dX5_clause_71 : decode cX5_clause 71 = .ok (.invokevirtual 69, 3) := getB' kX5_clause_3 6 rfl
theorem dX5_clause_74 : decode cX5_clause 74 = .ok (.invokevirtual 73, 3) := getB' kX5_clause_3 7 rfl
theorem dX5_clause_77 : decode cX5_clause 77 = .ok (.aload_n 0, 1) := getB' kX5_clause_3 8 rfl
theorem dX5_clause_78 : decode cX5_clause 78 = .ok (.bipush 46, 2) := getB' kX5_clause_3 9 rfl
theorem dX5_clause_80 : decode cX5_clause 80 = .ok (.invokevirtual 38, 3) := getB' kX5_clause_3 10 rfl
theorem dX5_clause_83 : decode cX5_clause 83 = .ok (.aload_n 0, 1) := getB' kX5_clause_3 11 rfl
def LX5_clause_4 : List (Nat × Instr × Nat) := [(84, .iconst 3, 1), (85, .aload_n 0, 1), (86, .iconst 3, 1), (87, .invokevirtual 69, 3), (90, .invokevirtual 73, 3), (93, .aload_n 0, 1), (94, .bipush 61, 2), (96, .invokevirtual 38, 3), (99, .goto 74, 3), (102, .iload_n 1, 1), (103, .bipush 120, 2), (105, .if_icmp .ne 34, 3)]
theorem kX5_clause_4 : chkB cX5_clause LX5_clause_4 = true := by decide +kernel
theorem dX5_clause_84 : decode cX5_clause 84 = .ok (.iconst 3, 1) := getB' kX5_clause_4 0 rfl
theorem dX5_clause_85 : decode cX5_clause 85 = .ok (.aload_n 0, 1) := getB' kX5_clause_4 1 rfl
theorem dX5_clause_86 : decode cX5_clause 86 = .ok (.iconst 3, 1) := getB' kX5_clause_4 2 rfl
theorem dX5_clause_87 : decode cX5_clause 87 = .ok (.invokevirtual 69, 3) := getB' kX5_clause_4 3 rfl
theorem dX5_clause_90 : decode cX5_clause 90 = .ok (.invokevirtual 73, 3) := getB' kX5_clause_4 4 rfl
theorem dX5_clause_93 : decode cX5_clause 93 = .ok (.aload_n 0, 1) := getB' kX5_clause_4 5 rfl
theorem dX5_clause_94 : decode cX5_clause 94 = .ok (.bipush 61, 2) := getB' kX5_clause_4 6 rfl
theorem dX5_clause_96 : decode cX5_clause 96 = .ok (.invokevirtual 38, 3) := getB' kX5_clause_4 7 rfl
theorem dX5_clause_99 : decode cX5_clause 99 = .ok (.goto 74, 3) := getB' kX5_clause_4 8 rfl
theorem dX5_clause_102 : decode cX5_clause 102 = .ok (.iload_n 1, 1) := getB' kX5_clause_4 9 rfl
theorem dX5_clause_103 : decode cX5_clause 103 = .ok (.bipush 120, 2) := getB' kX5_clause_4 10 rfl
theorem dX5_clause_105 : decode cX5_clause 105 = .ok (.if_icmp .ne 34, 3) := getB' kX5_clause_4 11 rfl
def LX5_clause_5 : List (Nat × Instr × Nat) := [(108, .aload_n 0, 1), (109, .iconst 2, 1), (110, .aload_n 0, 1), (111, .bipush 19, 2), (113, .invokevirtual 69, 3), (116, .invokevirtual 73, 3), (119, .aload_n 0, 1), (120, .bipush 46, 2), (122, .invokevirtual 38, 3), (125, .aload_n 0, 1), (126, .iconst 3, 1), (127, .aload_n 0, 1)]
theorem kX5_clause_5 : chkB cX5_clause LX5_clause_5 = true := by decide +kernel
theorem dX5_clause_108 : decode cX5_clause 108 = .ok (.aload_n 0, 1) := getB' kX5_clause_5 0 rfl
theorem dX5_clause_109 : decode cX5_clause 109 = .ok (.iconst 2, 1) := getB' kX5_clause_5 1 rfl
theorem dX5_clause_110 : decode cX5_clause 110 = .ok (.aload_n 0, 1) := getB' kX5_clause_5 2 rfl
theorem dX5_clause_111 : decode cX5_clause 111 = .ok (.bipush 19, 2) := getB' kX5_clause_5 3 rfl
theorem dX5_clause_113 : decode cX5_clause 113 = .ok (.invokevirtual 69, 3) := getB' kX5_clause_5 4 rfl
theorem dX5_clause_116 : decode cX5_clause 116 = .ok (.invokevirtual 73, 3) := getB' kX5_clause_5 5 rfl
theorem dX5_clause_119 : decode cX5_clause 119 = .ok (.aload_n 0, 1) := getB' kX5_clause_5 6 rfl
theorem dX5_clause_120 : decode cX5_clause 120 = .ok (.bipush 46, 2) := getB' kX5_clause_5 7 rfl
theorem dX5_clause_122 : decode cX5_clause 122 = .ok (.invokevirtual 38, 3) := getB' kX5_clause_5 8 rfl
theorem dX5_clause_125 : decode cX5_clause 125 = .ok (.aload_n 0, 1) := getB' kX5_clause_5 9 rfl
theorem dX5_clause_126 : decode cX5_clause 126 = .ok (.iconst 3, 1) := getB' kX5_clause_5 10 rfl
theorem dX5_clause_127 : decode cX5_clause 127 = .ok (.aload_n 0, 1) := getB' kX5_clause_5 11 rfl
def LX5_clause_6 : List (Nat × Instr × Nat) := [(128, .bipush 11, 2), (130, .invokevirtual 69, 3), (133, .invokevirtual 73, 3), (136, .goto 37, 3), (139, .iload_n 1, 1), (140, .bipush 102, 2), (142, .if_icmp .eq 27, 3), (145, .iload_n 1, 1), (146, .bipush 108, 2), (148, .if_icmp .eq 21, 3), (151, .iload_n 1, 1), (152, .bipush 110, 2)]
theorem kX5_clause_6 : chkB cX5_clause LX5_clause_6 = true := by decide +kernel
theorem dX5_clause_128 : decode cX5_clause 128 = .ok (.bipush 11, 2) := getB' kX5_clause_6 0 rfl
theorem dX5_clause_130 : decode cX5_clause 130 = .ok (.invokevirtual 69, 3) := getB' kX5_clause_6 1 rfl
theorem dX5_clause_133 : decode cX5_clause 133 = .ok (.invokevirtual 73, 3) := getB' kX5_clause_6 2 rfl
theorem dX5_clause_136 : decode cX5_clause 136 = .ok (.goto 37, 3) := getB' kX5_clause_6 3 rfl
theorem dX5_clause_139 : decode cX5_clause 139 = .ok (.iload_n 1, 1) := getB' kX5_clause_6 4 rfl
theorem dX5_clause_140 : decode cX5_clause 140 = .ok (.bipush 102, 2) := getB' kX5_clause_6 5 rfl
theorem dX5_clause_142 : decode cX5_clause 142 = .ok (.if_icmp .eq 27, 3) := getB' kX5_clause_6 6 rfl
theorem dX5_clause_145 : decode cX5_clause 145 = .ok (.iload_n 1, 1) := getB' kX5_clause_6 7 rfl
theorem dX5_clause_146 : decode cX5_clause 146 = .ok (.bipush 108, 2) := getB' kX5_clause_6 8 rfl
theorem dX5_clause_148 : decode cX5_clause 148 = .ok (.if_icmp .eq 21, 3) := getB' kX5_clause_6 9 rfl
theorem dX5_clause_151 : decode cX5_clause 151 = .ok (.iload_n 1, 1) := getB' kX5_clause_6 10 rfl
theorem dX5_clause_152 : decode cX5_clause 152 = .ok (.bipush 110, 2) := getB' kX5_clause_6 11 rfl
def LX5_clause_7 : List (Nat × Instr × Nat) := [(154, .if_icmp .eq 15, 3), (157, .iload_n 1, 1), (158, .bipush 115, 2), (160, .if_icmp .eq 9, 3), (163, .iload_n 1, 1), (164, .bipush 99, 2), (166, .if_icmp .ne 7, 3), (169, .aload_n 0, 1), (170, .invokevirtual 54, 3), (173, .iload_n 1, 1), (174, .bipush 110, 2), (176, .if_icmp .eq 33, 3)]
theorem kX5_clause_7 : chkB cX5_clause LX5_clause_7 = true := by decide +kernel
theorem dX5_clause_154 : decode cX5_clause 154 = .ok (.if_icmp .eq 15, 3) := getB' kX5_clause_7 0 rfl
theorem dX5_clause_157 : decode cX5_clause 157 = .ok (.iload_n 1, 1) := getB' kX5_clause_7 1 rfl
theorem dX5_clause_158 : decode cX5_clause 158 = .ok (.bipush 115, 2) := getB' kX5_clause_7 2 rfl
theorem dX5_clause_160 : decode cX5_clause 160 = .ok (.if_icmp .eq 9, 3) := getB' kX5_clause_7 3 rfl
theorem dX5_clause_163 : decode cX5_clause 163 = .ok (.iload_n 1, 1) := getB' kX5_clause_7 4 rfl
theorem dX5_clause_164 : decode cX5_clause 164 = .ok (.bipush 99, 2) := getB' kX5_clause_7 5 rfl
theorem dX5_clause_166 : decode cX5_clause 166 = .ok (.if_icmp .ne 7, 3) := getB' kX5_clause_7 6 rfl
theorem dX5_clause_169 : decode cX5_clause 169 = .ok (.aload_n 0, 1) := getB' kX5_clause_7 7 rfl
theorem dX5_clause_170 : decode cX5_clause 170 = .ok (.invokevirtual 54, 3) := getB' kX5_clause_7 8 rfl
theorem dX5_clause_173 : decode cX5_clause 173 = .ok (.iload_n 1, 1) := getB' kX5_clause_7 9 rfl
theorem dX5_clause_174 : decode cX5_clause 174 = .ok (.bipush 110, 2) := getB' kX5_clause_7 10 rfl
theorem dX5_clause_176 : decode cX5_clause 176 = .ok (.if_icmp .eq 33, 3) := getB' kX5_clause_7 11 rfl
def LX5_clause_8 : List (Nat × Instr × Nat) := [(179, .iload_n 1, 1), (180, .bipush 115, 2), (182, .if_icmp .eq 27, 3), (185, .iload_n 1, 1), (186, .bipush 97, 2), (188, .if_icmp .eq 21, 3), (191, .iload_n 1, 1), (192, .bipush 113, 2), (194, .if_icmp .eq 15, 3), (197, .iload_n 1, 1), (198, .bipush 107, 2), (200, .if_icmp .eq 9, 3)]
theorem kX5_clause_8 : chkB cX5_clause LX5_clause_8 = true := by decide +kernel
theorem dX5_clause_179 : decode cX5_clause 179 = .ok (.iload_n 1, 1) := getB' kX5_clause_8 0 rfl
theorem dX5_clause_180 : decode cX5_clause 180 = .ok (.bipush 115, 2) := getB' kX5_clause_8 1 rfl
theorem dX5_clause_182 : decode cX5_clause 182 = .ok (.if_icmp .eq 27, 3) := getB' kX5_clause_8 2 rfl
theorem dX5_clause_185 : decode cX5_clause 185 = .ok (.iload_n 1, 1) := getB' kX5_clause_8 3 rfl
theorem dX5_clause_186 : decode cX5_clause 186 = .ok (.bipush 97, 2) := getB' kX5_clause_8 4 rfl
theorem dX5_clause_188 : decode cX5_clause 188 = .ok (.if_icmp .eq 21, 3) := getB' kX5_clause_8 5 rfl
theorem dX5_clause_191 : decode cX5_clause 191 = .ok (.iload_n 1, 1) := getB' kX5_clause_8 6 rfl
theorem dX5_clause_192 : decode cX5_clause 192 = .ok (.bipush 113, 2) := getB' kX5_clause_8 7 rfl
theorem dX5_clause_194 : decode cX5_clause 194 = .ok (.if_icmp .eq 15, 3) := getB' kX5_clause_8 8 rfl
theorem dX5_clause_197 : decode cX5_clause 197 = .ok (.iload_n 1, 1) := getB' kX5_clause_8 9 rfl
theorem dX5_clause_198 : decode cX5_clause 198 = .ok (.bipush 107, 2) := getB' kX5_clause_8 10 rfl
theorem dX5_clause_200 : decode cX5_clause 200 = .ok (.if_icmp .eq 9, 3) := getB' kX5_clause_8 11 rfl
def LX5_clause_9 : List (Nat × Instr × Nat) := [(203, .iload_n 1, 1), (204, .bipush 103, 2), (206, .if_icmp .ne 14, 3), (209, .aload_n 0, 1), (210, .iconst 1, 1), (211, .aload_n 0, 1), (212, .ldc 76, 2), (214, .invokevirtual 69, 3), (217, .invokevirtual 73, 3), (220, .return_, 1)]
theorem kX5_clause_9 : chkB cX5_clause LX5_clause_9 = true := by decide +kernel
theorem dX5_clause_203 : decode cX5_clause 203 = .ok (.iload_n 1, 1) := getB' kX5_clause_9 0 rfl
theorem dX5_clause_204 : decode cX5_clause 204 = .ok (.bipush 103, 2) := getB' kX5_clause_9 1 rfl
theorem dX5_clause_206 : decode cX5_clause 206 = .ok (.if_icmp .ne 14, 3) := getB' kX5_clause_9 2 rfl
theorem dX5_clause_209 : decode cX5_clause 209 = .ok (.aload_n 0, 1) := getB' kX5_clause_9 3 rfl
theorem dX5_clause_210 : decode cX5_clause 210 = .ok (.iconst 1, 1) := getB' kX5_clause_9 4 rfl
theorem dX5_clause_211 : decode cX5_clause 211 = .ok (.aload_n 0, 1) := getB' kX5_clause_9 5 rfl
theorem dX5_clause_212 : decode cX5_clause 212 = .ok (.ldc 76, 2) := getB' kX5_clause_9 6 rfl
theorem dX5_clause_214 : decode cX5_clause 214 = .ok (.invokevirtual 69, 3) := getB' kX5_clause_9 7 rfl
theorem dX5_clause_217 : decode cX5_clause 217 = .ok (.invokevirtual 73, 3) := getB' kX5_clause_9 8 rfl
theorem dX5_clause_220 : decode cX5_clause 220 = .ok (.return_, 1) := getB' kX5_clause_9 9 rfl
