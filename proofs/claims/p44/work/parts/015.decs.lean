def LX12_blocks_0 : List (Nat × Instr × Nat) := [(0, .iload_n 1, 1), (1, .iconst 0, 1), (2, .iconst 1, 1), (3, .aload_n 0, 1), (4, .getfield 718, 3), (7, .ishl, 1), (8, .iconst 1, 1), (9, .isub, 1), (10, .invokestatic 371, 3), (13, .ifCond .ne 5, 3), (16, .iconst (-1), 1), (17, .ireturn, 1)]
theorem kX12_blocks_0 : chkB cX12_blocks LX12_blocks_0 = true := by decide +kernel
theorem dX12_blocks_0 : decode cX12_blocks 0 = .ok (.iload_n 1, 1) := getB' kX12_blocks_0 0 rfl
theorem dX12_blocks_1 : decode cX12_blocks 1 = .ok (.iconst 0, 1) := getB' kX12_blocks_0 1 rfl
theorem dX12_blocks_2 : decode cX12_blocks 2 = .ok (.iconst 1, 1) := getB' kX12_blocks_0 2 rfl
theorem dX12_blocks_3 : decode cX12_blocks 3 = .ok (.aload_n 0, 1) := getB' kX12_blocks_0 3 rfl
theorem dX12_blocks_4 : decode cX12_blocks 4 = .ok (.getfield 718, 3) := getB' kX12_blocks_0 4 rfl
theorem dX12_blocks_7 : decode cX12_blocks 7 = .ok (.ishl, 1) := getB' kX12_blocks_0 5 rfl
theorem dX12_blocks_8 : decode cX12_blocks 8 = .ok (.iconst 1, 1) := getB' kX12_blocks_0 6 rfl
theorem dX12_blocks_9 : decode cX12_blocks 9 = .ok (.isub, 1) := getB' kX12_blocks_0 7 rfl
theorem dX12_blocks_10 : decode cX12_blocks 10 = .ok (.invokestatic 371, 3) := getB' kX12_blocks_0 8 rfl
theorem dX12_blocks_13 : decode cX12_blocks 13 = .ok (.ifCond .ne 5, 3) := getB' kX12_blocks_0 9 rfl
theorem dX12_blocks_16 : decode cX12_blocks 16 = .ok (.iconst (-1), 1) := getB' kX12_blocks_0 10 rfl
theorem dX12_blocks_17 : decode cX12_blocks 17 = .ok (.ireturn, 1) := getB' kX12_blocks_0 11 rfl
def LX12_blocks_1 : List (Nat × Instr × Nat) := [(18, .iconst 0, 1), (19, .istore_n 2, 1), (20, .iconst 0, 1), (21, .istore_n 3, 1), (22, .iload_n 3, 1), (23, .aload_n 0, 1), (24, .getfield 393, 3), (27, .if_icmp .ge 28, 3), (30, .iload_n 2, 1), (31, .aload_n 0, 1), (32, .iload_n 3, 1), (33, .iload_n 1, 1)]
theorem kX12_blocks_1 : chkB cX12_blocks LX12_blocks_1 = true := by decide +kernel
theorem dX12_blocks_18 : decode cX12_blocks 18 = .ok (.iconst 0, 1) := getB' kX12_blocks_1 0 rfl
theorem dX12_blocks_19 : decode cX12_blocks 19 = .ok (.istore_n 2, 1) := getB' kX12_blocks_1 1 rfl
theorem dX12_blocks_20 : decode cX12_blocks 20 = .ok (.iconst 0, 1) := getB' kX12_blocks_1 2 rfl
theorem dX12_blocks_21 : decode cX12_blocks 21 = .ok (.istore_n 3, 1) := getB' kX12_blocks_1 3 rfl
theorem dX12_blocks_22 : decode cX12_blocks 22 = .ok (.iload_n 3, 1) := getB' kX12_blocks_1 4 rfl
theorem dX12_blocks_23 : decode cX12_blocks 23 = .ok (.aload_n 0, 1) := getB' kX12_blocks_1 5 rfl
theorem dX12_blocks_24 : decode cX12_blocks 24 = .ok (.getfield 393, 3) := getB' kX12_blocks_1 6 rfl
theorem dX12_blocks_27 : decode cX12_blocks 27 = .ok (.if_icmp .ge 28, 3) := getB' kX12_blocks_1 7 rfl
theorem dX12_blocks_30 : decode cX12_blocks 30 = .ok (.iload_n 2, 1) := getB' kX12_blocks_1 8 rfl
theorem dX12_blocks_31 : decode cX12_blocks 31 = .ok (.aload_n 0, 1) := getB' kX12_blocks_1 9 rfl
theorem dX12_blocks_32 : decode cX12_blocks 32 = .ok (.iload_n 3, 1) := getB' kX12_blocks_1 10 rfl
theorem dX12_blocks_33 : decode cX12_blocks 33 = .ok (.iload_n 1, 1) := getB' kX12_blocks_1 11 rfl
def LX12_blocks_2 : List (Nat × Instr × Nat) := [(34, .invokevirtual 724, 3), (37, .ifCond .eq 9, 3), (40, .iconst 1, 1), (41, .iload_n 3, 1), (42, .ishl, 1), (43, .goto 4, 3), (46, .iconst 0, 1), (47, .ior, 1), (48, .istore_n 2, 1), (49, .iinc 3 1, 3), (52, .goto (-30), 3), (55, .iload_n 2, 1)]
theorem kX12_blocks_2 : chkB cX12_blocks LX12_blocks_2 = true := by decide +kernel
theorem dX12_blocks_34 : decode cX12_blocks 34 = .ok (.invokevirtual 724, 3) := getB' kX12_blocks_2 0 rfl
theorem dX12_blocks_37 : decode cX12_blocks 37 = .ok (.ifCond .eq 9, 3) := getB' kX12_blocks_2 1 rfl
theorem dX12_blocks_40 : decode cX12_blocks 40 = .ok (.iconst 1, 1) := getB' kX12_blocks_2 2 rfl
theorem dX12_blocks_41 : decode cX12_blocks 41 = .ok (.iload_n 3, 1) := getB' kX12_blocks_2 3 rfl
theorem dX12_blocks_42 : decode cX12_blocks 42 = .ok (.ishl, 1) := getB' kX12_blocks_2 4 rfl
theorem dX12_blocks_43 : decode cX12_blocks 43 = .ok (.goto 4, 3) := getB' kX12_blocks_2 5 rfl
theorem dX12_blocks_46 : decode cX12_blocks 46 = .ok (.iconst 0, 1) := getB' kX12_blocks_2 6 rfl
theorem dX12_blocks_47 : decode cX12_blocks 47 = .ok (.ior, 1) := getB' kX12_blocks_2 7 rfl
theorem dX12_blocks_48 : decode cX12_blocks 48 = .ok (.istore_n 2, 1) := getB' kX12_blocks_2 8 rfl
theorem dX12_blocks_49 : decode cX12_blocks 49 = .ok (.iinc 3 1, 3) := getB' kX12_blocks_2 9 rfl
theorem dX12_blocks_52 : decode cX12_blocks 52 = .ok (.goto (-30), 3) := getB' kX12_blocks_2 10 rfl
theorem dX12_blocks_55 : decode cX12_blocks 55 = .ok (.iload_n 2, 1) := getB' kX12_blocks_2 11 rfl
def LX12_blocks_3 : List (Nat × Instr × Nat) := [(56, .ireturn, 1)]
theorem kX12_blocks_3 : chkB cX12_blocks LX12_blocks_3 = true := by decide +kernel
theorem dX12_blocks_56 : decode cX12_blocks 56 = .ok (.ireturn, 1) := getB' kX12_blocks_3 0 rfl
def LX12_worthOf_0 : List (Nat × Instr × Nat) := [(0, .iconst 0, 1), (1, .istore_n 2, 1), (2, .iconst 0, 1), (3, .istore_n 3, 1), (4, .iload_n 3, 1), (5, .aload_n 0, 1), (6, .getfield 718, 3), (9, .if_icmp .ge 31, 3), (12, .iload_n 2, 1), (13, .iload_n 1, 1), (14, .iload_n 3, 1), (15, .ishr, 1)]
theorem kX12_worthOf_0 : chkB cX12_worthOf LX12_worthOf_0 = true := by decide +kernel
theorem dX12_worthOf_0 : decode cX12_worthOf 0 = .ok (.iconst 0, 1) := getB' kX12_worthOf_0 0 rfl
theorem dX12_worthOf_1 : decode cX12_worthOf 1 = .ok (.istore_n 2, 1) := getB' kX12_worthOf_0 1 rfl
theorem dX12_worthOf_2 : decode cX12_worthOf 2 = .ok (.iconst 0, 1) := getB' kX12_worthOf_0 2 rfl
theorem dX12_worthOf_3 : decode cX12_worthOf 3 = .ok (.istore_n 3, 1) := getB' kX12_worthOf_0 3 rfl
theorem dX12_worthOf_4 : decode cX12_worthOf 4 = .ok (.iload_n 3, 1) := getB' kX12_worthOf_0 4 rfl
theorem dX12_worthOf_5 : decode cX12_worthOf 5 = .ok (.aload_n 0, 1) := getB' kX12_worthOf_0 5 rfl
theorem dX12_worthOf_6 : decode cX12_worthOf 6 = .ok (.getfield 718, 3) := getB' kX12_worthOf_0 6 rfl
theorem dX12_worthOf_9 : decode cX12_worthOf 9 = .ok (.if_icmp .ge 31, 3) := getB' kX12_worthOf_0 7 rfl
theorem dX12_worthOf_12 : decode cX12_worthOf 12 = .ok (.iload_n 2, 1) := getB' kX12_worthOf_0 8 rfl
theorem dX12_worthOf_13 : decode cX12_worthOf 13 = .ok (.iload_n 1, 1) := getB' kX12_worthOf_0 9 rfl
theorem dX12_worthOf_14 : decode cX12_worthOf 14 = .ok (.iload_n 3, 1) := getB' kX12_worthOf_0 10 rfl
theorem dX12_worthOf_15 : decode cX12_worthOf 15 = .ok (.ishr, 1) := getB' kX12_worthOf_0 11 rfl
def LX12_worthOf_1 : List (Nat × Instr × Nat) := [(16, .iconst 1, 1), (17, .iand, 1), (18, .iconst 1, 1), (19, .if_icmp .ne 12, 3), (22, .aload_n 0, 1), (23, .getfield 319, 3), (26, .iload_n 3, 1), (27, .iaload, 1), (28, .goto 4, 3), (31, .iconst 0, 1), (32, .iadd, 1), (33, .istore_n 2, 1)]
theorem kX12_worthOf_1 : chkB cX12_worthOf LX12_worthOf_1 = true := by decide +kernel
theorem dX12_worthOf_16 : decode cX12_worthOf 16 = .ok (.iconst 1, 1) := getB' kX12_worthOf_1 0 rfl
theorem dX12_worthOf_17 : decode cX12_worthOf 17 = .ok (.iand, 1) := getB' kX12_worthOf_1 1 rfl
theorem dX12_worthOf_18 : decode cX12_worthOf 18 = .ok (.iconst 1, 1) := getB' kX12_worthOf_1 2 rfl
theorem dX12_worthOf_19 : decode cX12_worthOf 19 = .ok (.if_icmp .ne 12, 3) := getB' kX12_worthOf_1 3 rfl
theorem dX12_worthOf_22 : decode cX12_worthOf 22 = .ok (.aload_n 0, 1) := getB' kX12_worthOf_1 4 rfl
theorem dX12_worthOf_23 : decode cX12_worthOf 23 = .ok (.getfield 319, 3) := getB' kX12_worthOf_1 5 rfl
theorem dX12_worthOf_26 : decode cX12_worthOf 26 = .ok (.iload_n 3, 1) := getB' kX12_worthOf_1 6 rfl
theorem dX12_worthOf_27 : decode cX12_worthOf 27 = .ok (.iaload, 1) := getB' kX12_worthOf_1 7 rfl
theorem dX12_worthOf_28 : decode cX12_worthOf 28 = .ok (.goto 4, 3) := getB' kX12_worthOf_1 8 rfl
theorem dX12_worthOf_31 : decode cX12_worthOf 31 = .ok (.iconst 0, 1) := getB' kX12_worthOf_1 9 rfl
theorem dX12_worthOf_32 : decode cX12_worthOf 32 = .ok (.iadd, 1) := getB' kX12_worthOf_1 10 rfl
theorem dX12_worthOf_33 : decode cX12_worthOf 33 = .ok (.istore_n 2, 1) := getB' kX12_worthOf_1 11 rfl
def LX12_worthOf_2 : List (Nat × Instr × Nat) := [(34, .iinc 3 1, 3), (37, .goto (-33), 3), (40, .iload_n 2, 1), (41, .ireturn, 1)]
theorem kX12_worthOf_2 : chkB cX12_worthOf LX12_worthOf_2 = true := by decide +kernel
theorem dX12_worthOf_34 : decode cX12_worthOf 34 = .ok (.iinc 3 1, 3) := getB' kX12_worthOf_2 0 rfl
theorem dX12_worthOf_37 : decode cX12_worthOf 37 = .ok (.goto (-33), 3) := getB' kX12_worthOf_2 1 rfl
theorem dX12_worthOf_40 : decode cX12_worthOf 40 = .ok (.iload_n 2, 1) := getB' kX12_worthOf_2 2 rfl
theorem dX12_worthOf_41 : decode cX12_worthOf 41 = .ok (.ireturn, 1) := getB' kX12_worthOf_2 3 rfl
def LX12_bits_0 : List (Nat × Instr × Nat) := [(0, .iconst 0, 1), (1, .istore_n 1, 1), (2, .iconst 0, 1), (3, .istore_n 2, 1), (4, .iload_n 2, 1), (5, .bipush 9, 2), (7, .if_icmp .ge 17, 3), (10, .iload_n 1, 1), (11, .iload_n 0, 1), (12, .iload_n 2, 1), (13, .ishr, 1), (14, .iconst 1, 1)]
theorem kX12_bits_0 : chkB cX12_bits LX12_bits_0 = true := by decide +kernel
theorem dX12_bits_0 : decode cX12_bits 0 = .ok (.iconst 0, 1) := getB' kX12_bits_0 0 rfl
theorem dX12_bits_1 : decode cX12_bits 1 = .ok (.istore_n 1, 1) := getB' kX12_bits_0 1 rfl
theorem dX12_bits_2 : decode cX12_bits 2 = .ok (.iconst 0, 1) := getB' kX12_bits_0 2 rfl
theorem dX12_bits_3 : decode cX12_bits 3 = .ok (.istore_n 2, 1) := getB' kX12_bits_0 3 rfl
theorem dX12_bits_4 : decode cX12_bits 4 = .ok (.iload_n 2, 1) := getB' kX12_bits_0 4 rfl
theorem dX12_bits_5 : decode cX12_bits 5 = .ok (.bipush 9, 2) := getB' kX12_bits_0 5 rfl
theorem dX12_bits_7 : decode cX12_bits 7 = .ok (.if_icmp .ge 17, 3) := getB' kX12_bits_0 6 rfl
theorem dX12_bits_10 : decode cX12_bits 10 = .ok (.iload_n 1, 1) := getB' kX12_bits_0 7 rfl
theorem dX12_bits_11 : decode cX12_bits 11 = .ok (.iload_n 0, 1) := getB' kX12_bits_0 8 rfl
theorem dX12_bits_12 : decode cX12_bits 12 = .ok (.iload_n 2, 1) := getB' kX12_bits_0 9 rfl
theorem dX12_bits_13 : decode cX12_bits 13 = .ok (.ishr, 1) := getB' kX12_bits_0 10 rfl
theorem dX12_bits_14 : decode cX12_bits 14 = .ok (.iconst 1, 1) := getB' kX12_bits_0 11 rfl
def LX12_bits_1 : List (Nat × Instr × Nat) := [(15, .iand, 1), (16, .iadd, 1), (17, .istore_n 1, 1), (18, .iinc 2 1, 3), (21, .goto (-17), 3), (24, .iload_n 1, 1), (25, .ireturn, 1)]
theorem kX12_bits_1 : chkB cX12_bits LX12_bits_1 = true := by decide +kernel
theorem dX12_bits_15 : decode cX12_bits 15 = .ok (.iand, 1) := getB' kX12_bits_1 0 rfl
theorem dX12_bits_16 : decode cX12_bits 16 = .ok (.iadd, 1) := getB' kX12_bits_1 1 rfl
theorem dX12_bits_17 : decode cX12_bits 17 = .ok (.istore_n 1, 1) := getB' kX12_bits_1 2 rfl
theorem dX12_bits_18 : decode cX12_bits 18 = .ok (.iinc 2 1, 3) := getB' kX12_bits_1 3 rfl
theorem dX12_bits_21 : decode cX12_bits 21 = .ok (.goto (-17), 3) := getB' kX12_bits_1 4 rfl
theorem dX12_bits_24 : decode cX12_bits 24 = .ok (.iload_n 1, 1) := getB' kX12_bits_1 5 rfl
theorem dX12_bits_25 : decode cX12_bits 25 = .ok (.ireturn, 1) := getB' kX12_bits_1 6 rfl
def LX12_best_0 : List (Nat × Instr × Nat) := [(0, .iconst 0, 1), (1, .istore_n 1, 1), (2, .iconst 0, 1), (3, .istore_n 2, 1), (4, .iload_n 2, 1), (5, .aload_n 0, 1), (6, .getfield 393, 3), (9, .if_icmp .ge 31, 3), (12, .iload_n 1, 1), (13, .aload_n 0, 1), (14, .iload_n 2, 1), (15, .aload_n 0, 1)]
theorem kX12_best_0 : chkB cX12_best LX12_best_0 = true := by decide +kernel
theorem dX12_best_0 : decode cX12_best 0 = .ok (.iconst 0, 1) := getB' kX12_best_0 0 rfl
theorem dX12_best_1 : decode cX12_best 1 = .ok (.istore_n 1, 1) := getB' kX12_best_0 1 rfl
theorem dX12_best_2 : decode cX12_best 2 = .ok (.iconst 0, 1) := getB' kX12_best_0 2 rfl
theorem dX12_best_3 : decode cX12_best 3 = .ok (.istore_n 2, 1) := getB' kX12_best_0 3 rfl
theorem dX12_best_4 : decode cX12_best 4 = .ok (.iload_n 2, 1) := getB' kX12_best_0 4 rfl
theorem dX12_best_5 : decode cX12_best 5 = .ok (.aload_n 0, 1) := getB' kX12_best_0 5 rfl
theorem dX12_best_6 : decode cX12_best 6 = .ok (.getfield 393, 3) := getB' kX12_best_0 6 rfl
theorem dX12_best_9 : decode cX12_best 9 = .ok (.if_icmp .ge 31, 3) := getB' kX12_best_0 7 rfl
theorem dX12_best_12 : decode cX12_best 12 = .ok (.iload_n 1, 1) := getB' kX12_best_0 8 rfl
theorem dX12_best_13 : decode cX12_best 13 = .ok (.aload_n 0, 1) := getB' kX12_best_0 9 rfl
theorem dX12_best_14 : decode cX12_best 14 = .ok (.iload_n 2, 1) := getB' kX12_best_0 10 rfl
theorem dX12_best_15 : decode cX12_best 15 = .ok (.aload_n 0, 1) := getB' kX12_best_0 11 rfl
def LX12_best_1 : List (Nat × Instr × Nat) := [(16, .getfield 396, 3), (19, .invokevirtual 412, 3), (22, .ifCond .eq 9, 3), (25, .iconst 1, 1), (26, .iload_n 2, 1), (27, .ishl, 1), (28, .goto 4, 3), (31, .iconst 0, 1), (32, .ior, 1), (33, .istore_n 1, 1), (34, .iinc 2 1, 3), (37, .goto (-33), 3)]
theorem kX12_best_1 : chkB cX12_best LX12_best_1 = true := by decide +kernel
theorem dX12_best_16 : decode cX12_best 16 = .ok (.getfield 396, 3) := getB' kX12_best_1 0 rfl
theorem dX12_best_19 : decode cX12_best 19 = .ok (.invokevirtual 412, 3) := getB' kX12_best_1 1 rfl
theorem dX12_best_22 : decode cX12_best 22 = .ok (.ifCond .eq 9, 3) := getB' kX12_best_1 2 rfl
theorem dX12_best_25 : decode cX12_best 25 = .ok (.iconst 1, 1) := getB' kX12_best_1 3 rfl
theorem dX12_best_26 : decode cX12_best 26 = .ok (.iload_n 2, 1) := getB' kX12_best_1 4 rfl
theorem dX12_best_27 : decode cX12_best 27 = .ok (.ishl, 1) := getB' kX12_best_1 5 rfl
theorem dX12_best_28 : decode cX12_best 28 = .ok (.goto 4, 3) := getB' kX12_best_1 6 rfl
theorem dX12_best_31 : decode cX12_best 31 = .ok (.iconst 0, 1) := getB' kX12_best_1 7 rfl
theorem dX12_best_32 : decode cX12_best 32 = .ok (.ior, 1) := getB' kX12_best_1 8 rfl
theorem dX12_best_33 : decode cX12_best 33 = .ok (.istore_n 1, 1) := getB' kX12_best_1 9 rfl
theorem dX12_best_34 : decode cX12_best 34 = .ok (.iinc 2 1, 3) := getB' kX12_best_1 10 rfl
theorem dX12_best_37 : decode cX12_best 37 = .ok (.goto (-33), 3) := getB' kX12_best_1 11 rfl
def LX12_best_2 : List (Nat × Instr × Nat) := [(40, .iconst 0, 1), (41, .istore_n 2, 1), (42, .iconst 1, 1), (43, .istore_n 3, 1), (44, .iload_n 3, 1), (45, .iconst 1, 1), (46, .aload_n 0, 1), (47, .getfield 718, 3), (50, .ishl, 1), (51, .if_icmp .ge 58, 3), (54, .aload_n 0, 1), (55, .iload_n 3, 1)]
theorem kX12_best_2 : chkB cX12_best LX12_best_2 = true := by decide +kernel
theorem dX12_best_40 : decode cX12_best 40 = .ok (.iconst 0, 1) := getB' kX12_best_2 0 rfl
theorem dX12_best_41 : decode cX12_best 41 = .ok (.istore_n 2, 1) := getB' kX12_best_2 1 rfl
theorem dX12_best_42 : decode cX12_best 42 = .ok (.iconst 1, 1) := getB' kX12_best_2 2 rfl
theorem dX12_best_43 : decode cX12_best 43 = .ok (.istore_n 3, 1) := getB' kX12_best_2 3 rfl
theorem dX12_best_44 : decode cX12_best 44 = .ok (.iload_n 3, 1) := getB' kX12_best_2 4 rfl
theorem dX12_best_45 : decode cX12_best 45 = .ok (.iconst 1, 1) := getB' kX12_best_2 5 rfl
theorem dX12_best_46 : decode cX12_best 46 = .ok (.aload_n 0, 1) := getB' kX12_best_2 6 rfl
theorem dX12_best_47 : decode cX12_best 47 = .ok (.getfield 718, 3) := getB' kX12_best_2 7 rfl
theorem dX12_best_50 : decode cX12_best 50 = .ok (.ishl, 1) := getB' kX12_best_2 8 rfl
theorem dX12_best_51 : decode cX12_best 51 = .ok (.if_icmp .ge 58, 3) := getB' kX12_best_2 9 rfl
theorem dX12_best_54 : decode cX12_best 54 = .ok (.aload_n 0, 1) := getB' kX12_best_2 10 rfl
theorem dX12_best_55 : decode cX12_best 55 = .ok (.iload_n 3, 1) := getB' kX12_best_2 11 rfl
def LX12_best_3 : List (Nat × Instr × Nat) := [(56, .invokevirtual 727, 3), (59, .iload_n 1, 1), (60, .iand, 1), (61, .ifCond .eq 6, 3), (64, .goto 39, 3), (67, .aload_n 0, 1), (68, .iload_n 3, 1), (69, .invokevirtual 730, 3), (72, .aload_n 0, 1), (73, .iload_n 2, 1), (74, .invokevirtual 730, 3), (77, .isub, 1)]
theorem kX12_best_3 : chkB cX12_best LX12_best_3 = true := by decide +kernel
theorem dX12_best_56 : decode cX12_best 56 = .ok (.invokevirtual 727, 3) := getB' kX12_best_3 0 rfl
theorem dX12_best_59 : decode cX12_best 59 = .ok (.iload_n 1, 1) := getB' kX12_best_3 1 rfl
theorem dX12_best_60 : decode cX12_best 60 = .ok (.iand, 1) := getB' kX12_best_3 2 rfl
theorem dX12_best_61 : decode cX12_best 61 = .ok (.ifCond .eq 6, 3) := getB' kX12_best_3 3 rfl
theorem dX12_best_64 : decode cX12_best 64 = .ok (.goto 39, 3) := getB' kX12_best_3 4 rfl
theorem dX12_best_67 : decode cX12_best 67 = .ok (.aload_n 0, 1) := getB' kX12_best_3 5 rfl
theorem dX12_best_68 : decode cX12_best 68 = .ok (.iload_n 3, 1) := getB' kX12_best_3 6 rfl
theorem dX12_best_69 : decode cX12_best 69 = .ok (.invokevirtual 730, 3) := getB' kX12_best_3 7 rfl
theorem dX12_best_72 : decode cX12_best 72 = .ok (.aload_n 0, 1) := getB' kX12_best_3 8 rfl
theorem dX12_best_73 : decode cX12_best 73 = .ok (.iload_n 2, 1) := getB' kX12_best_3 9 rfl
theorem dX12_best_74 : decode cX12_best 74 = .ok (.invokevirtual 730, 3) := getB' kX12_best_3 10 rfl
theorem dX12_best_77 : decode cX12_best 77 = .ok (.isub, 1) := getB' kX12_best_3 11 rfl
def LX12_best_4 : List (Nat × Instr × Nat) := [(78, .istore 4, 2), (80, .iload 4, 2), (82, .ifCond .gt 19, 3), (85, .iload 4, 2), (87, .ifCond .ne 16, 3), (90, .iload_n 3, 1), (91, .invokestatic 733, 3), (94, .iload_n 2, 1), (95, .invokestatic 733, 3), (98, .if_icmp .ge 5, 3), (101, .iload_n 3, 1), (102, .istore_n 2, 1)]
theorem kX12_best_4 : chkB cX12_best LX12_best_4 = true := by decide +kernel
theorem dX12_best_78 : decode cX12_best 78 = .ok (.istore 4, 2) := getB' kX12_best_4 0 rfl
theorem dX12_best_80 : decode cX12_best 80 = .ok (.iload 4, 2) := getB' kX12_best_4 1 rfl
theorem dX12_best_82 : decode cX12_best 82 = .ok (.ifCond .gt 19, 3) := getB' kX12_best_4 2 rfl
theorem dX12_best_85 : decode cX12_best 85 = .ok (.iload 4, 2) := getB' kX12_best_4 3 rfl
theorem dX12_best_87 : decode cX12_best 87 = .ok (.ifCond .ne 16, 3) := getB' kX12_best_4 4 rfl
theorem dX12_best_90 : decode cX12_best 90 = .ok (.iload_n 3, 1) := getB' kX12_best_4 5 rfl
theorem dX12_best_91 : decode cX12_best 91 = .ok (.invokestatic 733, 3) := getB' kX12_best_4 6 rfl
theorem dX12_best_94 : decode cX12_best 94 = .ok (.iload_n 2, 1) := getB' kX12_best_4 7 rfl
theorem dX12_best_95 : decode cX12_best 95 = .ok (.invokestatic 733, 3) := getB' kX12_best_4 8 rfl
theorem dX12_best_98 : decode cX12_best 98 = .ok (.if_icmp .ge 5, 3) := getB' kX12_best_4 9 rfl
theorem dX12_best_101 : decode cX12_best 101 = .ok (.iload_n 3, 1) := getB' kX12_best_4 10 rfl
theorem dX12_best_102 : decode cX12_best 102 = .ok (.istore_n 2, 1) := getB' kX12_best_4 11 rfl
def LX12_best_5 : List (Nat × Instr × Nat) := [(103, .iinc 3 1, 3), (106, .goto (-62), 3), (109, .iload_n 2, 1), (110, .ireturn, 1)]
theorem kX12_best_5 : chkB cX12_best LX12_best_5 = true := by decide +kernel
theorem dX12_best_103 : decode cX12_best 103 = .ok (.iinc 3 1, 3) := getB' kX12_best_5 0 rfl
theorem dX12_best_106 : decode cX12_best 106 = .ok (.goto (-62), 3) := getB' kX12_best_5 1 rfl
theorem dX12_best_109 : decode cX12_best 109 = .ok (.iload_n 2, 1) := getB' kX12_best_5 2 rfl
theorem dX12_best_110 : decode cX12_best 110 = .ok (.ireturn, 1) := getB' kX12_best_5 3 rfl
def LX12_stop_0 : List (Nat × Instr × Nat) := [(0, .aload_n 0, 1), (1, .iload_n 1, 1), (2, .invokevirtual 433, 3), (5, .ifCond .eq 23, 3), (8, .iload_n 2, 1), (9, .iconst 0, 1), (10, .sipush 10000, 3), (13, .invokestatic 371, 3), (16, .ifCond .eq 12, 3), (19, .aload_n 0, 1), (20, .getfield 736, 3), (23, .bipush 8, 2)]
theorem kX12_stop_0 : chkB cX12_stop LX12_stop_0 = true := by decide +kernel
theorem dX12_stop_0 : decode cX12_stop 0 = .ok (.aload_n 0, 1) := getB' kX12_stop_0 0 rfl
theorem dX12_stop_1 : decode cX12_stop 1 = .ok (.iload_n 1, 1) := getB' kX12_stop_0 1 rfl
theorem dX12_stop_2 : decode cX12_stop 2 = .ok (.invokevirtual 433, 3) := getB' kX12_stop_0 2 rfl
theorem dX12_stop_5 : decode cX12_stop 5 = .ok (.ifCond .eq 23, 3) := getB' kX12_stop_0 3 rfl
theorem dX12_stop_8 : decode cX12_stop 8 = .ok (.iload_n 2, 1) := getB' kX12_stop_0 4 rfl
theorem dX12_stop_9 : decode cX12_stop 9 = .ok (.iconst 0, 1) := getB' kX12_stop_0 5 rfl
theorem dX12_stop_10 : decode cX12_stop 10 = .ok (.sipush 10000, 3) := getB' kX12_stop_0 6 rfl
theorem dX12_stop_13 : decode cX12_stop 13 = .ok (.invokestatic 371, 3) := getB' kX12_stop_0 7 rfl
theorem dX12_stop_16 : decode cX12_stop 16 = .ok (.ifCond .eq 12, 3) := getB' kX12_stop_0 8 rfl
theorem dX12_stop_19 : decode cX12_stop 19 = .ok (.aload_n 0, 1) := getB' kX12_stop_0 9 rfl
theorem dX12_stop_20 : decode cX12_stop 20 = .ok (.getfield 736, 3) := getB' kX12_stop_0 10 rfl
theorem dX12_stop_23 : decode cX12_stop 23 = .ok (.bipush 8, 2) := getB' kX12_stop_0 11 rfl
def LX12_stop_1 : List (Nat × Instr × Nat) := [(25, .if_icmp .ne 5, 3), (28, .iconst (-1), 1), (29, .ireturn, 1), (30, .iconst 0, 1), (31, .istore_n 3, 1), (32, .iload_n 3, 1), (33, .aload_n 0, 1), (34, .getfield 736, 3), (37, .if_icmp .ge 21, 3), (40, .aload_n 0, 1), (41, .getfield 328, 3), (44, .iload_n 3, 1)]
theorem kX12_stop_1 : chkB cX12_stop LX12_stop_1 = true := by decide +kernel
theorem dX12_stop_25 : decode cX12_stop 25 = .ok (.if_icmp .ne 5, 3) := getB' kX12_stop_1 0 rfl
theorem dX12_stop_28 : decode cX12_stop 28 = .ok (.iconst (-1), 1) := getB' kX12_stop_1 1 rfl
theorem dX12_stop_29 : decode cX12_stop 29 = .ok (.ireturn, 1) := getB' kX12_stop_1 2 rfl
theorem dX12_stop_30 : decode cX12_stop 30 = .ok (.iconst 0, 1) := getB' kX12_stop_1 3 rfl
theorem dX12_stop_31 : decode cX12_stop 31 = .ok (.istore_n 3, 1) := getB' kX12_stop_1 4 rfl
theorem dX12_stop_32 : decode cX12_stop 32 = .ok (.iload_n 3, 1) := getB' kX12_stop_1 5 rfl
theorem dX12_stop_33 : decode cX12_stop 33 = .ok (.aload_n 0, 1) := getB' kX12_stop_1 6 rfl
theorem dX12_stop_34 : decode cX12_stop 34 = .ok (.getfield 736, 3) := getB' kX12_stop_1 7 rfl
theorem dX12_stop_37 : decode cX12_stop 37 = .ok (.if_icmp .ge 21, 3) := getB' kX12_stop_1 8 rfl
theorem dX12_stop_40 : decode cX12_stop 40 = .ok (.aload_n 0, 1) := getB' kX12_stop_1 9 rfl
theorem dX12_stop_41 : decode cX12_stop 41 = .ok (.getfield 328, 3) := getB' kX12_stop_1 10 rfl
theorem dX12_stop_44 : decode cX12_stop 44 = .ok (.iload_n 3, 1) := getB' kX12_stop_1 11 rfl
def LX12_stop_2 : List (Nat × Instr × Nat) := [(45, .iaload, 1), (46, .iload_n 1, 1), (47, .if_icmp .ne 5, 3), (50, .iconst (-1), 1), (51, .ireturn, 1), (52, .iinc 3 1, 3), (55, .goto (-23), 3), (58, .aload_n 0, 1), (59, .getfield 328, 3), (62, .aload_n 0, 1), (63, .getfield 736, 3), (66, .iload_n 1, 1)]
theorem kX12_stop_2 : chkB cX12_stop LX12_stop_2 = true := by decide +kernel
theorem dX12_stop_45 : decode cX12_stop 45 = .ok (.iaload, 1) := getB' kX12_stop_2 0 rfl
theorem dX12_stop_46 : decode cX12_stop 46 = .ok (.iload_n 1, 1) := getB' kX12_stop_2 1 rfl
theorem dX12_stop_47 : decode cX12_stop 47 = .ok (.if_icmp .ne 5, 3) := getB' kX12_stop_2 2 rfl
theorem dX12_stop_50 : decode cX12_stop 50 = .ok (.iconst (-1), 1) := getB' kX12_stop_2 3 rfl
theorem dX12_stop_51 : decode cX12_stop 51 = .ok (.ireturn, 1) := getB' kX12_stop_2 4 rfl
theorem dX12_stop_52 : decode cX12_stop 52 = .ok (.iinc 3 1, 3) := getB' kX12_stop_2 5 rfl
theorem dX12_stop_55 : decode cX12_stop 55 = .ok (.goto (-23), 3) := getB' kX12_stop_2 6 rfl
theorem dX12_stop_58 : decode cX12_stop 58 = .ok (.aload_n 0, 1) := getB' kX12_stop_2 7 rfl
theorem dX12_stop_59 : decode cX12_stop 59 = .ok (.getfield 328, 3) := getB' kX12_stop_2 8 rfl
theorem dX12_stop_62 : decode cX12_stop 62 = .ok (.aload_n 0, 1) := getB' kX12_stop_2 9 rfl
theorem dX12_stop_63 : decode cX12_stop 63 = .ok (.getfield 736, 3) := getB' kX12_stop_2 10 rfl
theorem dX12_stop_66 : decode cX12_stop 66 = .ok (.iload_n 1, 1) := getB' kX12_stop_2 11 rfl
def LX12_stop_3 : List (Nat × Instr × Nat) := [(67, .iastore, 1), (68, .aload_n 0, 1), (69, .getfield 331, 3), (72, .aload_n 0, 1), (73, .getfield 736, 3), (76, .iload_n 2, 1), (77, .iastore, 1), (78, .aload_n 0, 1), (79, .aload_n 0, 1), (80, .getfield 736, 3), (83, .iconst 1, 1), (84, .iadd, 1)]
theorem kX12_stop_3 : chkB cX12_stop LX12_stop_3 = true := by decide +kernel
theorem dX12_stop_67 : decode cX12_stop 67 = .ok (.iastore, 1) := getB' kX12_stop_3 0 rfl
theorem dX12_stop_68 : decode cX12_stop 68 = .ok (.aload_n 0, 1) := getB' kX12_stop_3 1 rfl
theorem dX12_stop_69 : decode cX12_stop 69 = .ok (.getfield 331, 3) := getB' kX12_stop_3 2 rfl
theorem dX12_stop_72 : decode cX12_stop 72 = .ok (.aload_n 0, 1) := getB' kX12_stop_3 3 rfl
theorem dX12_stop_73 : decode cX12_stop 73 = .ok (.getfield 736, 3) := getB' kX12_stop_3 4 rfl
theorem dX12_stop_76 : decode cX12_stop 76 = .ok (.iload_n 2, 1) := getB' kX12_stop_3 5 rfl
theorem dX12_stop_77 : decode cX12_stop 77 = .ok (.iastore, 1) := getB' kX12_stop_3 6 rfl
theorem dX12_stop_78 : decode cX12_stop 78 = .ok (.aload_n 0, 1) := getB' kX12_stop_3 7 rfl
theorem dX12_stop_79 : decode cX12_stop 79 = .ok (.aload_n 0, 1) := getB' kX12_stop_3 8 rfl
theorem dX12_stop_80 : decode cX12_stop 80 = .ok (.getfield 736, 3) := getB' kX12_stop_3 9 rfl
theorem dX12_stop_83 : decode cX12_stop 83 = .ok (.iconst 1, 1) := getB' kX12_stop_3 10 rfl
theorem dX12_stop_84 : decode cX12_stop 84 = .ok (.iadd, 1) := getB' kX12_stop_3 11 rfl
def LX12_stop_4 : List (Nat × Instr × Nat) := [(85, .putfield 736, 3), (88, .aload_n 0, 1), (89, .getfield 736, 3), (92, .iconst 1, 1), (93, .isub, 1), (94, .ireturn, 1)]
theorem kX12_stop_4 : chkB cX12_stop LX12_stop_4 = true := by decide +kernel
theorem dX12_stop_85 : decode cX12_stop 85 = .ok (.putfield 736, 3) := getB' kX12_stop_4 0 rfl
theorem dX12_stop_88 : decode cX12_stop 88 = .ok (.aload_n 0, 1) := getB' kX12_stop_4 1 rfl
theorem dX12_stop_89 : decode cX12_stop 89 = .ok (.getfield 736, 3) := getB' kX12_stop_4 2 rfl
theorem dX12_stop_92 : decode cX12_stop 92 = .ok (.iconst 1, 1) := getB' kX12_stop_4 3 rfl
theorem dX12_stop_93 : decode cX12_stop 93 = .ok (.isub, 1) := getB' kX12_stop_4 4 rfl
theorem dX12_stop_94 : decode cX12_stop 94 = .ok (.ireturn, 1) := getB' kX12_stop_4 5 rfl
def LX12_open_0 : List (Nat × Instr × Nat) := [(0, .iload_n 1, 1), (1, .iconst 0, 1), (2, .iconst 2, 1), (3, .invokestatic 371, 3), (6, .ifCond .eq 38, 3), (9, .iload_n 2, 1), (10, .ifCond .lt 34, 3), (13, .iload_n 2, 1), (14, .aload_n 0, 1), (15, .getfield 736, 3), (18, .if_icmp .ge 26, 3), (21, .iload_n 3, 1)]
theorem kX12_open_0 : chkB cX12_open LX12_open_0 = true := by decide +kernel
theorem dX12_open_0 : decode cX12_open 0 = .ok (.iload_n 1, 1) := getB' kX12_open_0 0 rfl
theorem dX12_open_1 : decode cX12_open 1 = .ok (.iconst 0, 1) := getB' kX12_open_0 1 rfl
theorem dX12_open_2 : decode cX12_open 2 = .ok (.iconst 2, 1) := getB' kX12_open_0 2 rfl
theorem dX12_open_3 : decode cX12_open 3 = .ok (.invokestatic 371, 3) := getB' kX12_open_0 3 rfl
theorem dX12_open_6 : decode cX12_open 6 = .ok (.ifCond .eq 38, 3) := getB' kX12_open_0 4 rfl
theorem dX12_open_9 : decode cX12_open 9 = .ok (.iload_n 2, 1) := getB' kX12_open_0 5 rfl
theorem dX12_open_10 : decode cX12_open 10 = .ok (.ifCond .lt 34, 3) := getB' kX12_open_0 6 rfl
theorem dX12_open_13 : decode cX12_open 13 = .ok (.iload_n 2, 1) := getB' kX12_open_0 7 rfl
theorem dX12_open_14 : decode cX12_open 14 = .ok (.aload_n 0, 1) := getB' kX12_open_0 8 rfl
theorem dX12_open_15 : decode cX12_open 15 = .ok (.getfield 736, 3) := getB' kX12_open_0 9 rfl
theorem dX12_open_18 : decode cX12_open 18 = .ok (.if_icmp .ge 26, 3) := getB' kX12_open_0 10 rfl
theorem dX12_open_21 : decode cX12_open 21 = .ok (.iload_n 3, 1) := getB' kX12_open_0 11 rfl
def LX12_open_1 : List (Nat × Instr × Nat) := [(22, .iconst 0, 1), (23, .sipush 359, 3), (26, .invokestatic 371, 3), (29, .ifCond .eq 15, 3), (32, .iload 4, 2), (34, .iload_n 3, 1), (35, .sipush 359, 3), (38, .invokestatic 371, 3), (41, .ifCond .ne 5, 3), (44, .iconst 0, 1), (45, .ireturn, 1), (46, .aload_n 0, 1)]
theorem kX12_open_1 : chkB cX12_open LX12_open_1 = true := by decide +kernel
theorem dX12_open_22 : decode cX12_open 22 = .ok (.iconst 0, 1) := getB' kX12_open_1 0 rfl
theorem dX12_open_23 : decode cX12_open 23 = .ok (.sipush 359, 3) := getB' kX12_open_1 1 rfl
theorem dX12_open_26 : decode cX12_open 26 = .ok (.invokestatic 371, 3) := getB' kX12_open_1 2 rfl
theorem dX12_open_29 : decode cX12_open 29 = .ok (.ifCond .eq 15, 3) := getB' kX12_open_1 3 rfl
theorem dX12_open_32 : decode cX12_open 32 = .ok (.iload 4, 2) := getB' kX12_open_1 4 rfl
theorem dX12_open_34 : decode cX12_open 34 = .ok (.iload_n 3, 1) := getB' kX12_open_1 5 rfl
theorem dX12_open_35 : decode cX12_open 35 = .ok (.sipush 359, 3) := getB' kX12_open_1 6 rfl
theorem dX12_open_38 : decode cX12_open 38 = .ok (.invokestatic 371, 3) := getB' kX12_open_1 7 rfl
theorem dX12_open_41 : decode cX12_open 41 = .ok (.ifCond .ne 5, 3) := getB' kX12_open_1 8 rfl
theorem dX12_open_44 : decode cX12_open 44 = .ok (.iconst 0, 1) := getB' kX12_open_1 9 rfl
theorem dX12_open_45 : decode cX12_open 45 = .ok (.ireturn, 1) := getB' kX12_open_1 10 rfl
theorem dX12_open_46 : decode cX12_open 46 = .ok (.aload_n 0, 1) := getB' kX12_open_1 11 rfl
def LX12_open_2 : List (Nat × Instr × Nat) := [(47, .getfield 334, 3), (50, .bipush 8, 2), (52, .iload_n 1, 1), (53, .imul, 1), (54, .iload_n 2, 1), (55, .iadd, 1), (56, .iload_n 3, 1), (57, .iastore, 1), (58, .aload_n 0, 1), (59, .getfield 337, 3), (62, .bipush 8, 2), (64, .iload_n 1, 1)]
theorem kX12_open_2 : chkB cX12_open LX12_open_2 = true := by decide +kernel
theorem dX12_open_47 : decode cX12_open 47 = .ok (.getfield 334, 3) := getB' kX12_open_2 0 rfl
theorem dX12_open_50 : decode cX12_open 50 = .ok (.bipush 8, 2) := getB' kX12_open_2 1 rfl
theorem dX12_open_52 : decode cX12_open 52 = .ok (.iload_n 1, 1) := getB' kX12_open_2 2 rfl
theorem dX12_open_53 : decode cX12_open 53 = .ok (.imul, 1) := getB' kX12_open_2 3 rfl
theorem dX12_open_54 : decode cX12_open 54 = .ok (.iload_n 2, 1) := getB' kX12_open_2 4 rfl
theorem dX12_open_55 : decode cX12_open 55 = .ok (.iadd, 1) := getB' kX12_open_2 5 rfl
theorem dX12_open_56 : decode cX12_open 56 = .ok (.iload_n 3, 1) := getB' kX12_open_2 6 rfl
theorem dX12_open_57 : decode cX12_open 57 = .ok (.iastore, 1) := getB' kX12_open_2 7 rfl
theorem dX12_open_58 : decode cX12_open 58 = .ok (.aload_n 0, 1) := getB' kX12_open_2 8 rfl
theorem dX12_open_59 : decode cX12_open 59 = .ok (.getfield 337, 3) := getB' kX12_open_2 9 rfl
theorem dX12_open_62 : decode cX12_open 62 = .ok (.bipush 8, 2) := getB' kX12_open_2 10 rfl
theorem dX12_open_64 : decode cX12_open 64 = .ok (.iload_n 1, 1) := getB' kX12_open_2 11 rfl
def LX12_open_3 : List (Nat × Instr × Nat) := [(65, .imul, 1), (66, .iload_n 2, 1), (67, .iadd, 1), (68, .iload 4, 2), (70, .iastore, 1), (71, .iconst 1, 1), (72, .ireturn, 1)]
theorem kX12_open_3 : chkB cX12_open LX12_open_3 = true := by decide +kernel
theorem dX12_open_65 : decode cX12_open 65 = .ok (.imul, 1) := getB' kX12_open_3 0 rfl
theorem dX12_open_66 : decode cX12_open 66 = .ok (.iload_n 2, 1) := getB' kX12_open_3 1 rfl
theorem dX12_open_67 : decode cX12_open 67 = .ok (.iadd, 1) := getB' kX12_open_3 2 rfl
theorem dX12_open_68 : decode cX12_open 68 = .ok (.iload 4, 2) := getB' kX12_open_3 3 rfl
theorem dX12_open_70 : decode cX12_open 70 = .ok (.iastore, 1) := getB' kX12_open_3 4 rfl
theorem dX12_open_71 : decode cX12_open 71 = .ok (.iconst 1, 1) := getB' kX12_open_3 5 rfl
theorem dX12_open_72 : decode cX12_open 72 = .ok (.ireturn, 1) := getB' kX12_open_3 6 rfl
def LX12_endOf_0 : List (Nat × Instr × Nat) := [(0, .iload_n 2, 1), (1, .istore_n 3, 1), (2, .iconst 0, 1), (3, .istore 4, 2), (5, .iload 4, 2), (7, .aload_n 0, 1), (8, .getfield 736, 3), (11, .if_icmp .ge 109, 3), (14, .iload 4, 2), (16, .ifCond .le 48, 3), (19, .iload_n 3, 1), (20, .iconst 2, 1)]
theorem kX12_endOf_0 : chkB cX12_endOf LX12_endOf_0 = true := by decide +kernel
theorem dX12_endOf_0 : decode cX12_endOf 0 = .ok (.iload_n 2, 1) := getB' kX12_endOf_0 0 rfl
theorem dX12_endOf_1 : decode cX12_endOf 1 = .ok (.istore_n 3, 1) := getB' kX12_endOf_0 1 rfl
theorem dX12_endOf_2 : decode cX12_endOf 2 = .ok (.iconst 0, 1) := getB' kX12_endOf_0 2 rfl
theorem dX12_endOf_3 : decode cX12_endOf 3 = .ok (.istore 4, 2) := getB' kX12_endOf_0 3 rfl
theorem dX12_endOf_5 : decode cX12_endOf 5 = .ok (.iload 4, 2) := getB' kX12_endOf_0 4 rfl
theorem dX12_endOf_7 : decode cX12_endOf 7 = .ok (.aload_n 0, 1) := getB' kX12_endOf_0 5 rfl
theorem dX12_endOf_8 : decode cX12_endOf 8 = .ok (.getfield 736, 3) := getB' kX12_endOf_0 6 rfl
theorem dX12_endOf_11 : decode cX12_endOf 11 = .ok (.if_icmp .ge 109, 3) := getB' kX12_endOf_0 7 rfl
theorem dX12_endOf_14 : decode cX12_endOf 14 = .ok (.iload 4, 2) := getB' kX12_endOf_0 8 rfl
theorem dX12_endOf_16 : decode cX12_endOf 16 = .ok (.ifCond .le 48, 3) := getB' kX12_endOf_0 9 rfl
theorem dX12_endOf_19 : decode cX12_endOf 19 = .ok (.iload_n 3, 1) := getB' kX12_endOf_0 10 rfl
theorem dX12_endOf_20 : decode cX12_endOf 20 = .ok (.iconst 2, 1) := getB' kX12_endOf_0 11 rfl
def LX12_endOf_1 : List (Nat × Instr × Nat) := [(21, .aload_n 0, 1), (22, .aload_n 0, 1), (23, .getfield 41, 3), (26, .aload_n 0, 1), (27, .getfield 328, 3), (30, .aload_n 0, 1), (31, .getfield 340, 3), (34, .iload 4, 2), (36, .iconst 1, 1), (37, .isub, 1), (38, .iaload, 1), (39, .iaload, 1)]
theorem kX12_endOf_1 : chkB cX12_endOf LX12_endOf_1 = true := by decide +kernel
theorem dX12_endOf_21 : decode cX12_endOf 21 = .ok (.aload_n 0, 1) := getB' kX12_endOf_1 0 rfl
theorem dX12_endOf_22 : decode cX12_endOf 22 = .ok (.aload_n 0, 1) := getB' kX12_endOf_1 1 rfl
theorem dX12_endOf_23 : decode cX12_endOf 23 = .ok (.getfield 41, 3) := getB' kX12_endOf_1 2 rfl
theorem dX12_endOf_26 : decode cX12_endOf 26 = .ok (.aload_n 0, 1) := getB' kX12_endOf_1 3 rfl
theorem dX12_endOf_27 : decode cX12_endOf 27 = .ok (.getfield 328, 3) := getB' kX12_endOf_1 4 rfl
theorem dX12_endOf_30 : decode cX12_endOf 30 = .ok (.aload_n 0, 1) := getB' kX12_endOf_1 5 rfl
theorem dX12_endOf_31 : decode cX12_endOf 31 = .ok (.getfield 340, 3) := getB' kX12_endOf_1 6 rfl
theorem dX12_endOf_34 : decode cX12_endOf 34 = .ok (.iload 4, 2) := getB' kX12_endOf_1 7 rfl
theorem dX12_endOf_36 : decode cX12_endOf 36 = .ok (.iconst 1, 1) := getB' kX12_endOf_1 8 rfl
theorem dX12_endOf_37 : decode cX12_endOf 37 = .ok (.isub, 1) := getB' kX12_endOf_1 9 rfl
theorem dX12_endOf_38 : decode cX12_endOf 38 = .ok (.iaload, 1) := getB' kX12_endOf_1 10 rfl
theorem dX12_endOf_39 : decode cX12_endOf 39 = .ok (.iaload, 1) := getB' kX12_endOf_1 11 rfl
def LX12_endOf_2 : List (Nat × Instr × Nat) := [(40, .iaload, 1), (41, .aload_n 0, 1), (42, .getfield 41, 3), (45, .aload_n 0, 1), (46, .getfield 328, 3), (49, .aload_n 0, 1), (50, .getfield 340, 3), (53, .iload 4, 2), (55, .iaload, 1), (56, .iaload, 1), (57, .iaload, 1), (58, .invokevirtual 389, 3)]
theorem kX12_endOf_2 : chkB cX12_endOf LX12_endOf_2 = true := by decide +kernel
theorem dX12_endOf_40 : decode cX12_endOf 40 = .ok (.iaload, 1) := getB' kX12_endOf_2 0 rfl
theorem dX12_endOf_41 : decode cX12_endOf 41 = .ok (.aload_n 0, 1) := getB' kX12_endOf_2 1 rfl
theorem dX12_endOf_42 : decode cX12_endOf 42 = .ok (.getfield 41, 3) := getB' kX12_endOf_2 2 rfl
theorem dX12_endOf_45 : decode cX12_endOf 45 = .ok (.aload_n 0, 1) := getB' kX12_endOf_2 3 rfl
theorem dX12_endOf_46 : decode cX12_endOf 46 = .ok (.getfield 328, 3) := getB' kX12_endOf_2 4 rfl
theorem dX12_endOf_49 : decode cX12_endOf 49 = .ok (.aload_n 0, 1) := getB' kX12_endOf_2 5 rfl
theorem dX12_endOf_50 : decode cX12_endOf 50 = .ok (.getfield 340, 3) := getB' kX12_endOf_2 6 rfl
theorem dX12_endOf_53 : decode cX12_endOf 53 = .ok (.iload 4, 2) := getB' kX12_endOf_2 7 rfl
theorem dX12_endOf_55 : decode cX12_endOf 55 = .ok (.iaload, 1) := getB' kX12_endOf_2 8 rfl
theorem dX12_endOf_56 : decode cX12_endOf 56 = .ok (.iaload, 1) := getB' kX12_endOf_2 9 rfl
theorem dX12_endOf_57 : decode cX12_endOf 57 = .ok (.iaload, 1) := getB' kX12_endOf_2 10 rfl
theorem dX12_endOf_58 : decode cX12_endOf 58 = .ok (.invokevirtual 389, 3) := getB' kX12_endOf_2 11 rfl
def LX12_endOf_3 : List (Nat × Instr × Nat) := [(61, .imul, 1), (62, .iadd, 1), (63, .istore_n 3, 1), (64, .bipush 8, 2), (66, .iload_n 1, 1), (67, .imul, 1), (68, .aload_n 0, 1), (69, .getfield 340, 3), (72, .iload 4, 2), (74, .iaload, 1), (75, .iadd, 1), (76, .istore 5, 2)]
theorem kX12_endOf_3 : chkB cX12_endOf LX12_endOf_3 = true := by decide +kernel
theorem dX12_endOf_61 : decode cX12_endOf 61 = .ok (.imul, 1) := getB' kX12_endOf_3 0 rfl
theorem dX12_endOf_62 : decode cX12_endOf 62 = .ok (.iadd, 1) := getB' kX12_endOf_3 1 rfl
theorem dX12_endOf_63 : decode cX12_endOf 63 = .ok (.istore_n 3, 1) := getB' kX12_endOf_3 2 rfl
theorem dX12_endOf_64 : decode cX12_endOf 64 = .ok (.bipush 8, 2) := getB' kX12_endOf_3 3 rfl
theorem dX12_endOf_66 : decode cX12_endOf 66 = .ok (.iload_n 1, 1) := getB' kX12_endOf_3 4 rfl
theorem dX12_endOf_67 : decode cX12_endOf 67 = .ok (.imul, 1) := getB' kX12_endOf_3 5 rfl
theorem dX12_endOf_68 : decode cX12_endOf 68 = .ok (.aload_n 0, 1) := getB' kX12_endOf_3 6 rfl
theorem dX12_endOf_69 : decode cX12_endOf 69 = .ok (.getfield 340, 3) := getB' kX12_endOf_3 7 rfl
theorem dX12_endOf_72 : decode cX12_endOf 72 = .ok (.iload 4, 2) := getB' kX12_endOf_3 8 rfl
theorem dX12_endOf_74 : decode cX12_endOf 74 = .ok (.iaload, 1) := getB' kX12_endOf_3 9 rfl
theorem dX12_endOf_75 : decode cX12_endOf 75 = .ok (.iadd, 1) := getB' kX12_endOf_3 10 rfl
theorem dX12_endOf_76 : decode cX12_endOf 76 = .ok (.istore 5, 2) := getB' kX12_endOf_3 11 rfl
def LX12_endOf_4 : List (Nat × Instr × Nat) := [(78, .iload_n 3, 1), (79, .aload_n 0, 1), (80, .getfield 337, 3), (83, .iload 5, 2), (85, .iaload, 1), (86, .if_icmp .le 5, 3), (89, .iconst (-1), 1), (90, .ireturn, 1), (91, .iload_n 3, 1), (92, .aload_n 0, 1), (93, .getfield 334, 3), (96, .iload 5, 2)]
theorem kX12_endOf_4 : chkB cX12_endOf LX12_endOf_4 = true := by decide +kernel
theorem dX12_endOf_78 : decode cX12_endOf 78 = .ok (.iload_n 3, 1) := getB' kX12_endOf_4 0 rfl
theorem dX12_endOf_79 : decode cX12_endOf 79 = .ok (.aload_n 0, 1) := getB' kX12_endOf_4 1 rfl
theorem dX12_endOf_80 : decode cX12_endOf 80 = .ok (.getfield 337, 3) := getB' kX12_endOf_4 2 rfl
theorem dX12_endOf_83 : decode cX12_endOf 83 = .ok (.iload 5, 2) := getB' kX12_endOf_4 3 rfl
theorem dX12_endOf_85 : decode cX12_endOf 85 = .ok (.iaload, 1) := getB' kX12_endOf_4 4 rfl
theorem dX12_endOf_86 : decode cX12_endOf 86 = .ok (.if_icmp .le 5, 3) := getB' kX12_endOf_4 5 rfl
theorem dX12_endOf_89 : decode cX12_endOf 89 = .ok (.iconst (-1), 1) := getB' kX12_endOf_4 6 rfl
theorem dX12_endOf_90 : decode cX12_endOf 90 = .ok (.ireturn, 1) := getB' kX12_endOf_4 7 rfl
theorem dX12_endOf_91 : decode cX12_endOf 91 = .ok (.iload_n 3, 1) := getB' kX12_endOf_4 8 rfl
theorem dX12_endOf_92 : decode cX12_endOf 92 = .ok (.aload_n 0, 1) := getB' kX12_endOf_4 9 rfl
theorem dX12_endOf_93 : decode cX12_endOf 93 = .ok (.getfield 334, 3) := getB' kX12_endOf_4 10 rfl
theorem dX12_endOf_96 : decode cX12_endOf 96 = .ok (.iload 5, 2) := getB' kX12_endOf_4 11 rfl
def LX12_endOf_5 : List (Nat × Instr × Nat) := [(98, .iaload, 1), (99, .if_icmp .ge 13, 3), (102, .aload_n 0, 1), (103, .getfield 334, 3), (106, .iload 5, 2), (108, .iaload, 1), (109, .goto 4, 3), (112, .iload_n 3, 1), (113, .istore_n 3, 1), (114, .iinc 4 1, 3), (117, .goto (-112), 3), (120, .iload_n 3, 1)]
theorem kX12_endOf_5 : chkB cX12_endOf LX12_endOf_5 = true := by decide +kernel
theorem dX12_endOf_98 : decode cX12_endOf 98 = .ok (.iaload, 1) := getB' kX12_endOf_5 0 rfl
theorem dX12_endOf_99 : decode cX12_endOf 99 = .ok (.if_icmp .ge 13, 3) := getB' kX12_endOf_5 1 rfl
theorem dX12_endOf_102 : decode cX12_endOf 102 = .ok (.aload_n 0, 1) := getB' kX12_endOf_5 2 rfl
theorem dX12_endOf_103 : decode cX12_endOf 103 = .ok (.getfield 334, 3) := getB' kX12_endOf_5 3 rfl
theorem dX12_endOf_106 : decode cX12_endOf 106 = .ok (.iload 5, 2) := getB' kX12_endOf_5 4 rfl
theorem dX12_endOf_108 : decode cX12_endOf 108 = .ok (.iaload, 1) := getB' kX12_endOf_5 5 rfl
theorem dX12_endOf_109 : decode cX12_endOf 109 = .ok (.goto 4, 3) := getB' kX12_endOf_5 6 rfl
theorem dX12_endOf_112 : decode cX12_endOf 112 = .ok (.iload_n 3, 1) := getB' kX12_endOf_5 7 rfl
theorem dX12_endOf_113 : decode cX12_endOf 113 = .ok (.istore_n 3, 1) := getB' kX12_endOf_5 8 rfl
theorem dX12_endOf_114 : decode cX12_endOf 114 = .ok (.iinc 4 1, 3) := getB' kX12_endOf_5 9 rfl
theorem dX12_endOf_117 : decode cX12_endOf 117 = .ok (.goto (-112), 3) := getB' kX12_endOf_5 10 rfl
theorem dX12_endOf_120 : decode cX12_endOf 120 = .ok (.iload_n 3, 1) := getB' kX12_endOf_5 11 rfl
def LX12_endOf_6 : List (Nat × Instr × Nat) := [(121, .ireturn, 1)]
theorem kX12_endOf_6 : chkB cX12_endOf LX12_endOf_6 = true := by decide +kernel
theorem dX12_endOf_121 : decode cX12_endOf 121 = .ok (.ireturn, 1) := getB' kX12_endOf_6 0 rfl
def LX12_worstEnd_0 : List (Nat × Instr × Nat) := [(0, .iconst (-1), 1), (1, .istore_n 2, 1), (2, .iconst 0, 1), (3, .istore_n 3, 1), (4, .iload_n 3, 1), (5, .iconst 3, 1), (6, .if_icmp .ge 38, 3), (9, .aload_n 0, 1), (10, .iload_n 3, 1), (11, .iload_n 1, 1), (12, .invokevirtual 739, 3), (15, .istore 4, 2)]
theorem kX12_worstEnd_0 : chkB cX12_worstEnd LX12_worstEnd_0 = true := by decide +kernel
theorem dX12_worstEnd_0 : decode cX12_worstEnd 0 = .ok (.iconst (-1), 1) := getB' kX12_worstEnd_0 0 rfl
theorem dX12_worstEnd_1 : decode cX12_worstEnd 1 = .ok (.istore_n 2, 1) := getB' kX12_worstEnd_0 1 rfl
theorem dX12_worstEnd_2 : decode cX12_worstEnd 2 = .ok (.iconst 0, 1) := getB' kX12_worstEnd_0 2 rfl
theorem dX12_worstEnd_3 : decode cX12_worstEnd 3 = .ok (.istore_n 3, 1) := getB' kX12_worstEnd_0 3 rfl
theorem dX12_worstEnd_4 : decode cX12_worstEnd 4 = .ok (.iload_n 3, 1) := getB' kX12_worstEnd_0 4 rfl
theorem dX12_worstEnd_5 : decode cX12_worstEnd 5 = .ok (.iconst 3, 1) := getB' kX12_worstEnd_0 5 rfl
theorem dX12_worstEnd_6 : decode cX12_worstEnd 6 = .ok (.if_icmp .ge 38, 3) := getB' kX12_worstEnd_0 6 rfl
theorem dX12_worstEnd_9 : decode cX12_worstEnd 9 = .ok (.aload_n 0, 1) := getB' kX12_worstEnd_0 7 rfl
theorem dX12_worstEnd_10 : decode cX12_worstEnd 10 = .ok (.iload_n 3, 1) := getB' kX12_worstEnd_0 8 rfl
theorem dX12_worstEnd_11 : decode cX12_worstEnd 11 = .ok (.iload_n 1, 1) := getB' kX12_worstEnd_0 9 rfl
theorem dX12_worstEnd_12 : decode cX12_worstEnd 12 = .ok (.invokevirtual 739, 3) := getB' kX12_worstEnd_0 10 rfl
theorem dX12_worstEnd_15 : decode cX12_worstEnd 15 = .ok (.istore 4, 2) := getB' kX12_worstEnd_0 11 rfl
def LX12_worstEnd_1 : List (Nat × Instr × Nat) := [(17, .iload 4, 2), (19, .iconst (-1), 1), (20, .if_icmp .ne 5, 3), (23, .iconst (-1), 1), (24, .ireturn, 1), (25, .iload 4, 2), (27, .iload_n 2, 1), (28, .if_icmp .le 8, 3), (31, .iload 4, 2), (33, .goto 4, 3), (36, .iload_n 2, 1), (37, .istore_n 2, 1)]
theorem kX12_worstEnd_1 : chkB cX12_worstEnd LX12_worstEnd_1 = true := by decide +kernel
theorem dX12_worstEnd_17 : decode cX12_worstEnd 17 = .ok (.iload 4, 2) := getB' kX12_worstEnd_1 0 rfl
theorem dX12_worstEnd_19 : decode cX12_worstEnd 19 = .ok (.iconst (-1), 1) := getB' kX12_worstEnd_1 1 rfl
theorem dX12_worstEnd_20 : decode cX12_worstEnd 20 = .ok (.if_icmp .ne 5, 3) := getB' kX12_worstEnd_1 2 rfl
theorem dX12_worstEnd_23 : decode cX12_worstEnd 23 = .ok (.iconst (-1), 1) := getB' kX12_worstEnd_1 3 rfl
theorem dX12_worstEnd_24 : decode cX12_worstEnd 24 = .ok (.ireturn, 1) := getB' kX12_worstEnd_1 4 rfl
theorem dX12_worstEnd_25 : decode cX12_worstEnd 25 = .ok (.iload 4, 2) := getB' kX12_worstEnd_1 5 rfl
theorem dX12_worstEnd_27 : decode cX12_worstEnd 27 = .ok (.iload_n 2, 1) := getB' kX12_worstEnd_1 6 rfl
theorem dX12_worstEnd_28 : decode cX12_worstEnd 28 = .ok (.if_icmp .le 8, 3) := getB' kX12_worstEnd_1 7 rfl
theorem dX12_worstEnd_31 : decode cX12_worstEnd 31 = .ok (.iload 4, 2) := getB' kX12_worstEnd_1 8 rfl
theorem dX12_worstEnd_33 : decode cX12_worstEnd 33 = .ok (.goto 4, 3) := getB' kX12_worstEnd_1 9 rfl
theorem dX12_worstEnd_36 : decode cX12_worstEnd 36 = .ok (.iload_n 2, 1) := getB' kX12_worstEnd_1 10 rfl
theorem dX12_worstEnd_37 : decode cX12_worstEnd 37 = .ok (.istore_n 2, 1) := getB' kX12_worstEnd_1 11 rfl
def LX12_worstEnd_2 : List (Nat × Instr × Nat) := [(38, .iinc 3 1, 3), (41, .goto (-37), 3), (44, .iload_n 2, 1), (45, .ireturn, 1)]
theorem kX12_worstEnd_2 : chkB cX12_worstEnd LX12_worstEnd_2 = true := by decide +kernel
theorem dX12_worstEnd_38 : decode cX12_worstEnd 38 = .ok (.iinc 3 1, 3) := getB' kX12_worstEnd_2 0 rfl
theorem dX12_worstEnd_41 : decode cX12_worstEnd 41 = .ok (.goto (-37), 3) := getB' kX12_worstEnd_2 1 rfl
theorem dX12_worstEnd_44 : decode cX12_worstEnd 44 = .ok (.iload_n 2, 1) := getB' kX12_worstEnd_2 2 rfl
theorem dX12_worstEnd_45 : decode cX12_worstEnd 45 = .ok (.ireturn, 1) := getB' kX12_worstEnd_2 3 rfl
def LX12_nextOrder_0 : List (Nat × Instr × Nat) := [(0, .aload_n 0, 1), (1, .getfield 736, 3), (4, .iconst 2, 1), (5, .isub, 1), (6, .istore_n 1, 1), (7, .iload_n 1, 1), (8, .ifCond .lt 27, 3), (11, .aload_n 0, 1), (12, .getfield 340, 3), (15, .iload_n 1, 1), (16, .iaload, 1), (17, .aload_n 0, 1)]
theorem kX12_nextOrder_0 : chkB cX12_nextOrder LX12_nextOrder_0 = true := by decide +kernel
theorem dX12_nextOrder_0 : decode cX12_nextOrder 0 = .ok (.aload_n 0, 1) := getB' kX12_nextOrder_0 0 rfl
theorem dX12_nextOrder_1 : decode cX12_nextOrder 1 = .ok (.getfield 736, 3) := getB' kX12_nextOrder_0 1 rfl
theorem dX12_nextOrder_4 : decode cX12_nextOrder 4 = .ok (.iconst 2, 1) := getB' kX12_nextOrder_0 2 rfl
theorem dX12_nextOrder_5 : decode cX12_nextOrder 5 = .ok (.isub, 1) := getB' kX12_nextOrder_0 3 rfl
theorem dX12_nextOrder_6 : decode cX12_nextOrder 6 = .ok (.istore_n 1, 1) := getB' kX12_nextOrder_0 4 rfl
theorem dX12_nextOrder_7 : decode cX12_nextOrder 7 = .ok (.iload_n 1, 1) := getB' kX12_nextOrder_0 5 rfl
theorem dX12_nextOrder_8 : decode cX12_nextOrder 8 = .ok (.ifCond .lt 27, 3) := getB' kX12_nextOrder_0 6 rfl
theorem dX12_nextOrder_11 : decode cX12_nextOrder 11 = .ok (.aload_n 0, 1) := getB' kX12_nextOrder_0 7 rfl
theorem dX12_nextOrder_12 : decode cX12_nextOrder 12 = .ok (.getfield 340, 3) := getB' kX12_nextOrder_0 8 rfl
theorem dX12_nextOrder_15 : decode cX12_nextOrder 15 = .ok (.iload_n 1, 1) := getB' kX12_nextOrder_0 9 rfl
theorem dX12_nextOrder_16 : decode cX12_nextOrder 16 = .ok (.iaload, 1) := getB' kX12_nextOrder_0 10 rfl
theorem dX12_nextOrder_17 : decode cX12_nextOrder 17 = .ok (.aload_n 0, 1) := getB' kX12_nextOrder_0 11 rfl
def LX12_nextOrder_1 : List (Nat × Instr × Nat) := [(18, .getfield 340, 3), (21, .iload_n 1, 1), (22, .iconst 1, 1), (23, .iadd, 1), (24, .iaload, 1), (25, .if_icmp .le 10, 3), (28, .iload_n 1, 1), (29, .iconst 1, 1), (30, .isub, 1), (31, .istore_n 1, 1), (32, .goto (-25), 3), (35, .iload_n 1, 1)]
theorem kX12_nextOrder_1 : chkB cX12_nextOrder LX12_nextOrder_1 = true := by decide +kernel
theorem dX12_nextOrder_18 : decode cX12_nextOrder 18 = .ok (.getfield 340, 3) := getB' kX12_nextOrder_1 0 rfl
theorem dX12_nextOrder_21 : decode cX12_nextOrder 21 = .ok (.iload_n 1, 1) := getB' kX12_nextOrder_1 1 rfl
theorem dX12_nextOrder_22 : decode cX12_nextOrder 22 = .ok (.iconst 1, 1) := getB' kX12_nextOrder_1 2 rfl
theorem dX12_nextOrder_23 : decode cX12_nextOrder 23 = .ok (.iadd, 1) := getB' kX12_nextOrder_1 3 rfl
theorem dX12_nextOrder_24 : decode cX12_nextOrder 24 = .ok (.iaload, 1) := getB' kX12_nextOrder_1 4 rfl
theorem dX12_nextOrder_25 : decode cX12_nextOrder 25 = .ok (.if_icmp .le 10, 3) := getB' kX12_nextOrder_1 5 rfl
theorem dX12_nextOrder_28 : decode cX12_nextOrder 28 = .ok (.iload_n 1, 1) := getB' kX12_nextOrder_1 6 rfl
theorem dX12_nextOrder_29 : decode cX12_nextOrder 29 = .ok (.iconst 1, 1) := getB' kX12_nextOrder_1 7 rfl
theorem dX12_nextOrder_30 : decode cX12_nextOrder 30 = .ok (.isub, 1) := getB' kX12_nextOrder_1 8 rfl
theorem dX12_nextOrder_31 : decode cX12_nextOrder 31 = .ok (.istore_n 1, 1) := getB' kX12_nextOrder_1 9 rfl
theorem dX12_nextOrder_32 : decode cX12_nextOrder 32 = .ok (.goto (-25), 3) := getB' kX12_nextOrder_1 10 rfl
theorem dX12_nextOrder_35 : decode cX12_nextOrder 35 = .ok (.iload_n 1, 1) := getB' kX12_nextOrder_1 11 rfl
def LX12_nextOrder_2 : List (Nat × Instr × Nat) := [(36, .ifCond .ge 5, 3), (39, .iconst 0, 1), (40, .ireturn, 1), (41, .aload_n 0, 1), (42, .getfield 736, 3), (45, .iconst 1, 1), (46, .isub, 1), (47, .istore_n 2, 1), (48, .aload_n 0, 1), (49, .getfield 340, 3), (52, .iload_n 2, 1), (53, .iaload, 1)]
theorem kX12_nextOrder_2 : chkB cX12_nextOrder LX12_nextOrder_2 = true := by decide +kernel
theorem dX12_nextOrder_36 : decode cX12_nextOrder 36 = .ok (.ifCond .ge 5, 3) := getB' kX12_nextOrder_2 0 rfl
theorem dX12_nextOrder_39 : decode cX12_nextOrder 39 = .ok (.iconst 0, 1) := getB' kX12_nextOrder_2 1 rfl
theorem dX12_nextOrder_40 : decode cX12_nextOrder 40 = .ok (.ireturn, 1) := getB' kX12_nextOrder_2 2 rfl
theorem dX12_nextOrder_41 : decode cX12_nextOrder 41 = .ok (.aload_n 0, 1) := getB' kX12_nextOrder_2 3 rfl
theorem dX12_nextOrder_42 : decode cX12_nextOrder 42 = .ok (.getfield 736, 3) := getB' kX12_nextOrder_2 4 rfl
theorem dX12_nextOrder_45 : decode cX12_nextOrder 45 = .ok (.iconst 1, 1) := getB' kX12_nextOrder_2 5 rfl
theorem dX12_nextOrder_46 : decode cX12_nextOrder 46 = .ok (.isub, 1) := getB' kX12_nextOrder_2 6 rfl
theorem dX12_nextOrder_47 : decode cX12_nextOrder 47 = .ok (.istore_n 2, 1) := getB' kX12_nextOrder_2 7 rfl
theorem dX12_nextOrder_48 : decode cX12_nextOrder 48 = .ok (.aload_n 0, 1) := getB' kX12_nextOrder_2 8 rfl
theorem dX12_nextOrder_49 : decode cX12_nextOrder 49 = .ok (.getfield 340, 3) := getB' kX12_nextOrder_2 9 rfl
theorem dX12_nextOrder_52 : decode cX12_nextOrder 52 = .ok (.iload_n 2, 1) := getB' kX12_nextOrder_2 10 rfl
theorem dX12_nextOrder_53 : decode cX12_nextOrder 53 = .ok (.iaload, 1) := getB' kX12_nextOrder_2 11 rfl
def LX12_nextOrder_3 : List (Nat × Instr × Nat) := [(54, .aload_n 0, 1), (55, .getfield 340, 3), (58, .iload_n 1, 1), (59, .iaload, 1), (60, .if_icmp .ge 10, 3), (63, .iload_n 2, 1), (64, .iconst 1, 1), (65, .isub, 1), (66, .istore_n 2, 1), (67, .goto (-19), 3), (70, .aload_n 0, 1), (71, .iload_n 1, 1)]
theorem kX12_nextOrder_3 : chkB cX12_nextOrder LX12_nextOrder_3 = true := by decide +kernel
theorem dX12_nextOrder_54 : decode cX12_nextOrder 54 = .ok (.aload_n 0, 1) := getB' kX12_nextOrder_3 0 rfl
theorem dX12_nextOrder_55 : decode cX12_nextOrder 55 = .ok (.getfield 340, 3) := getB' kX12_nextOrder_3 1 rfl
theorem dX12_nextOrder_58 : decode cX12_nextOrder 58 = .ok (.iload_n 1, 1) := getB' kX12_nextOrder_3 2 rfl
theorem dX12_nextOrder_59 : decode cX12_nextOrder 59 = .ok (.iaload, 1) := getB' kX12_nextOrder_3 3 rfl
theorem dX12_nextOrder_60 : decode cX12_nextOrder 60 = .ok (.if_icmp .ge 10, 3) := getB' kX12_nextOrder_3 4 rfl
theorem dX12_nextOrder_63 : decode cX12_nextOrder 63 = .ok (.iload_n 2, 1) := getB' kX12_nextOrder_3 5 rfl
theorem dX12_nextOrder_64 : decode cX12_nextOrder 64 = .ok (.iconst 1, 1) := getB' kX12_nextOrder_3 6 rfl
theorem dX12_nextOrder_65 : decode cX12_nextOrder 65 = .ok (.isub, 1) := getB' kX12_nextOrder_3 7 rfl
theorem dX12_nextOrder_66 : decode cX12_nextOrder 66 = .ok (.istore_n 2, 1) := getB' kX12_nextOrder_3 8 rfl
theorem dX12_nextOrder_67 : decode cX12_nextOrder 67 = .ok (.goto (-19), 3) := getB' kX12_nextOrder_3 9 rfl
theorem dX12_nextOrder_70 : decode cX12_nextOrder 70 = .ok (.aload_n 0, 1) := getB' kX12_nextOrder_3 10 rfl
theorem dX12_nextOrder_71 : decode cX12_nextOrder 71 = .ok (.iload_n 1, 1) := getB' kX12_nextOrder_3 11 rfl
def LX12_nextOrder_4 : List (Nat × Instr × Nat) := [(72, .iload_n 2, 1), (73, .invokevirtual 742, 3), (76, .iload_n 1, 1), (77, .iconst 1, 1), (78, .iadd, 1), (79, .istore_n 3, 1), (80, .aload_n 0, 1), (81, .getfield 736, 3), (84, .iconst 1, 1), (85, .isub, 1), (86, .istore 4, 2), (88, .iload_n 3, 1)]
theorem kX12_nextOrder_4 : chkB cX12_nextOrder LX12_nextOrder_4 = true := by decide +kernel
theorem dX12_nextOrder_72 : decode cX12_nextOrder 72 = .ok (.iload_n 2, 1) := getB' kX12_nextOrder_4 0 rfl
theorem dX12_nextOrder_73 : decode cX12_nextOrder 73 = .ok (.invokevirtual 742, 3) := getB' kX12_nextOrder_4 1 rfl
theorem dX12_nextOrder_76 : decode cX12_nextOrder 76 = .ok (.iload_n 1, 1) := getB' kX12_nextOrder_4 2 rfl
theorem dX12_nextOrder_77 : decode cX12_nextOrder 77 = .ok (.iconst 1, 1) := getB' kX12_nextOrder_4 3 rfl
theorem dX12_nextOrder_78 : decode cX12_nextOrder 78 = .ok (.iadd, 1) := getB' kX12_nextOrder_4 4 rfl
theorem dX12_nextOrder_79 : decode cX12_nextOrder 79 = .ok (.istore_n 3, 1) := getB' kX12_nextOrder_4 5 rfl
theorem dX12_nextOrder_80 : decode cX12_nextOrder 80 = .ok (.aload_n 0, 1) := getB' kX12_nextOrder_4 6 rfl
theorem dX12_nextOrder_81 : decode cX12_nextOrder 81 = .ok (.getfield 736, 3) := getB' kX12_nextOrder_4 7 rfl
theorem dX12_nextOrder_84 : decode cX12_nextOrder 84 = .ok (.iconst 1, 1) := getB' kX12_nextOrder_4 8 rfl
theorem dX12_nextOrder_85 : decode cX12_nextOrder 85 = .ok (.isub, 1) := getB' kX12_nextOrder_4 9 rfl
theorem dX12_nextOrder_86 : decode cX12_nextOrder 86 = .ok (.istore 4, 2) := getB' kX12_nextOrder_4 10 rfl
theorem dX12_nextOrder_88 : decode cX12_nextOrder 88 = .ok (.iload_n 3, 1) := getB' kX12_nextOrder_4 11 rfl
def LX12_nextOrder_5 : List (Nat × Instr × Nat) := [(89, .iload 4, 2), (91, .if_icmp .ge 23, 3), (94, .aload_n 0, 1), (95, .iload_n 3, 1), (96, .iload 4, 2), (98, .invokevirtual 742, 3), (101, .iload_n 3, 1), (102, .iconst 1, 1), (103, .iadd, 1), (104, .istore_n 3, 1), (105, .iload 4, 2), (107, .iconst 1, 1)]
theorem kX12_nextOrder_5 : chkB cX12_nextOrder LX12_nextOrder_5 = true := by decide +kernel
theorem dX12_nextOrder_89 : decode cX12_nextOrder 89 = .ok (.iload 4, 2) := getB' kX12_nextOrder_5 0 rfl
theorem dX12_nextOrder_91 : decode cX12_nextOrder 91 = .ok (.if_icmp .ge 23, 3) := getB' kX12_nextOrder_5 1 rfl
theorem dX12_nextOrder_94 : decode cX12_nextOrder 94 = .ok (.aload_n 0, 1) := getB' kX12_nextOrder_5 2 rfl
theorem dX12_nextOrder_95 : decode cX12_nextOrder 95 = .ok (.iload_n 3, 1) := getB' kX12_nextOrder_5 3 rfl
theorem dX12_nextOrder_96 : decode cX12_nextOrder 96 = .ok (.iload 4, 2) := getB' kX12_nextOrder_5 4 rfl
theorem dX12_nextOrder_98 : decode cX12_nextOrder 98 = .ok (.invokevirtual 742, 3) := getB' kX12_nextOrder_5 5 rfl
theorem dX12_nextOrder_101 : decode cX12_nextOrder 101 = .ok (.iload_n 3, 1) := getB' kX12_nextOrder_5 6 rfl
theorem dX12_nextOrder_102 : decode cX12_nextOrder 102 = .ok (.iconst 1, 1) := getB' kX12_nextOrder_5 7 rfl
theorem dX12_nextOrder_103 : decode cX12_nextOrder 103 = .ok (.iadd, 1) := getB' kX12_nextOrder_5 8 rfl
theorem dX12_nextOrder_104 : decode cX12_nextOrder 104 = .ok (.istore_n 3, 1) := getB' kX12_nextOrder_5 9 rfl
theorem dX12_nextOrder_105 : decode cX12_nextOrder 105 = .ok (.iload 4, 2) := getB' kX12_nextOrder_5 10 rfl
theorem dX12_nextOrder_107 : decode cX12_nextOrder 107 = .ok (.iconst 1, 1) := getB' kX12_nextOrder_5 11 rfl
def LX12_nextOrder_6 : List (Nat × Instr × Nat) := [(108, .isub, 1), (109, .istore 4, 2), (111, .goto (-23), 3), (114, .iconst 1, 1), (115, .ireturn, 1)]
theorem kX12_nextOrder_6 : chkB cX12_nextOrder LX12_nextOrder_6 = true := by decide +kernel
theorem dX12_nextOrder_108 : decode cX12_nextOrder 108 = .ok (.isub, 1) := getB' kX12_nextOrder_6 0 rfl
theorem dX12_nextOrder_109 : decode cX12_nextOrder 109 = .ok (.istore 4, 2) := getB' kX12_nextOrder_6 1 rfl
theorem dX12_nextOrder_111 : decode cX12_nextOrder 111 = .ok (.goto (-23), 3) := getB' kX12_nextOrder_6 2 rfl
theorem dX12_nextOrder_114 : decode cX12_nextOrder 114 = .ok (.iconst 1, 1) := getB' kX12_nextOrder_6 3 rfl
theorem dX12_nextOrder_115 : decode cX12_nextOrder 115 = .ok (.ireturn, 1) := getB' kX12_nextOrder_6 4 rfl
def LX12_swaps_0 : List (Nat × Instr × Nat) := [(0, .aload_n 0, 1), (1, .getfield 340, 3), (4, .iload_n 1, 1), (5, .iaload, 1), (6, .istore_n 3, 1), (7, .aload_n 0, 1), (8, .getfield 340, 3), (11, .iload_n 1, 1), (12, .aload_n 0, 1), (13, .getfield 340, 3), (16, .iload_n 2, 1), (17, .iaload, 1)]
theorem kX12_swaps_0 : chkB cX12_swaps LX12_swaps_0 = true := by decide +kernel
theorem dX12_swaps_0 : decode cX12_swaps 0 = .ok (.aload_n 0, 1) := getB' kX12_swaps_0 0 rfl
theorem dX12_swaps_1 : decode cX12_swaps 1 = .ok (.getfield 340, 3) := getB' kX12_swaps_0 1 rfl
theorem dX12_swaps_4 : decode cX12_swaps 4 = .ok (.iload_n 1, 1) := getB' kX12_swaps_0 2 rfl
theorem dX12_swaps_5 : decode cX12_swaps 5 = .ok (.iaload, 1) := getB' kX12_swaps_0 3 rfl
theorem dX12_swaps_6 : decode cX12_swaps 6 = .ok (.istore_n 3, 1) := getB' kX12_swaps_0 4 rfl
theorem dX12_swaps_7 : decode cX12_swaps 7 = .ok (.aload_n 0, 1) := getB' kX12_swaps_0 5 rfl
theorem dX12_swaps_8 : decode cX12_swaps 8 = .ok (.getfield 340, 3) := getB' kX12_swaps_0 6 rfl
theorem dX12_swaps_11 : decode cX12_swaps 11 = .ok (.iload_n 1, 1) := getB' kX12_swaps_0 7 rfl
theorem dX12_swaps_12 : decode cX12_swaps 12 = .ok (.aload_n 0, 1) := getB' kX12_swaps_0 8 rfl
theorem dX12_swaps_13 : decode cX12_swaps 13 = .ok (.getfield 340, 3) := getB' kX12_swaps_0 9 rfl
theorem dX12_swaps_16 : decode cX12_swaps 16 = .ok (.iload_n 2, 1) := getB' kX12_swaps_0 10 rfl
theorem dX12_swaps_17 : decode cX12_swaps 17 = .ok (.iaload, 1) := getB' kX12_swaps_0 11 rfl
def LX12_swaps_1 : List (Nat × Instr × Nat) := [(18, .iastore, 1), (19, .aload_n 0, 1), (20, .getfield 340, 3), (23, .iload_n 2, 1), (24, .iload_n 3, 1), (25, .iastore, 1), (26, .return_, 1)]
theorem kX12_swaps_1 : chkB cX12_swaps LX12_swaps_1 = true := by decide +kernel
theorem dX12_swaps_18 : decode cX12_swaps 18 = .ok (.iastore, 1) := getB' kX12_swaps_1 0 rfl
theorem dX12_swaps_19 : decode cX12_swaps 19 = .ok (.aload_n 0, 1) := getB' kX12_swaps_1 1 rfl
theorem dX12_swaps_20 : decode cX12_swaps 20 = .ok (.getfield 340, 3) := getB' kX12_swaps_1 2 rfl
theorem dX12_swaps_23 : decode cX12_swaps 23 = .ok (.iload_n 2, 1) := getB' kX12_swaps_1 3 rfl
theorem dX12_swaps_24 : decode cX12_swaps 24 = .ok (.iload_n 3, 1) := getB' kX12_swaps_1 4 rfl
theorem dX12_swaps_25 : decode cX12_swaps 25 = .ok (.iastore, 1) := getB' kX12_swaps_1 5 rfl
theorem dX12_swaps_26 : decode cX12_swaps 26 = .ok (.return_, 1) := getB' kX12_swaps_1 6 rfl
def LX12_plans_0 : List (Nat × Instr × Nat) := [(0, .aload_n 0, 1), (1, .iconst (-1), 1), (2, .putfield 745, 3), (5, .iconst 0, 1), (6, .istore 4, 2), (8, .iconst 0, 1), (9, .istore 5, 2), (11, .iload 5, 2), (13, .aload_n 0, 1), (14, .getfield 736, 3), (17, .if_icmp .ge 30, 3), (20, .aload_n 0, 1)]
theorem kX12_plans_0 : chkB cX12_plans LX12_plans_0 = true := by decide +kernel
theorem dX12_plans_0 : decode cX12_plans 0 = .ok (.aload_n 0, 1) := getB' kX12_plans_0 0 rfl
theorem dX12_plans_1 : decode cX12_plans 1 = .ok (.iconst (-1), 1) := getB' kX12_plans_0 1 rfl
theorem dX12_plans_2 : decode cX12_plans 2 = .ok (.putfield 745, 3) := getB' kX12_plans_0 2 rfl
theorem dX12_plans_5 : decode cX12_plans 5 = .ok (.iconst 0, 1) := getB' kX12_plans_0 3 rfl
theorem dX12_plans_6 : decode cX12_plans 6 = .ok (.istore 4, 2) := getB' kX12_plans_0 4 rfl
theorem dX12_plans_8 : decode cX12_plans 8 = .ok (.iconst 0, 1) := getB' kX12_plans_0 5 rfl
theorem dX12_plans_9 : decode cX12_plans 9 = .ok (.istore 5, 2) := getB' kX12_plans_0 6 rfl
theorem dX12_plans_11 : decode cX12_plans 11 = .ok (.iload 5, 2) := getB' kX12_plans_0 7 rfl
theorem dX12_plans_13 : decode cX12_plans 13 = .ok (.aload_n 0, 1) := getB' kX12_plans_0 8 rfl
theorem dX12_plans_14 : decode cX12_plans 14 = .ok (.getfield 736, 3) := getB' kX12_plans_0 9 rfl
theorem dX12_plans_17 : decode cX12_plans 17 = .ok (.if_icmp .ge 30, 3) := getB' kX12_plans_0 10 rfl
theorem dX12_plans_20 : decode cX12_plans 20 = .ok (.aload_n 0, 1) := getB' kX12_plans_0 11 rfl
def LX12_plans_1 : List (Nat × Instr × Nat) := [(21, .getfield 340, 3), (24, .iload 5, 2), (26, .iload 5, 2), (28, .iastore, 1), (29, .iload 4, 2), (31, .aload_n 0, 1), (32, .getfield 331, 3), (35, .iload 5, 2), (37, .iaload, 1), (38, .iadd, 1), (39, .istore 4, 2), (41, .iinc 5 1, 3)]
theorem kX12_plans_1 : chkB cX12_plans LX12_plans_1 = true := by decide +kernel
theorem dX12_plans_21 : decode cX12_plans 21 = .ok (.getfield 340, 3) := getB' kX12_plans_1 0 rfl
theorem dX12_plans_24 : decode cX12_plans 24 = .ok (.iload 5, 2) := getB' kX12_plans_1 1 rfl
theorem dX12_plans_26 : decode cX12_plans 26 = .ok (.iload 5, 2) := getB' kX12_plans_1 2 rfl
theorem dX12_plans_28 : decode cX12_plans 28 = .ok (.iastore, 1) := getB' kX12_plans_1 3 rfl
theorem dX12_plans_29 : decode cX12_plans 29 = .ok (.iload 4, 2) := getB' kX12_plans_1 4 rfl
theorem dX12_plans_31 : decode cX12_plans 31 = .ok (.aload_n 0, 1) := getB' kX12_plans_1 5 rfl
theorem dX12_plans_32 : decode cX12_plans 32 = .ok (.getfield 331, 3) := getB' kX12_plans_1 6 rfl
theorem dX12_plans_35 : decode cX12_plans 35 = .ok (.iload 5, 2) := getB' kX12_plans_1 7 rfl
theorem dX12_plans_37 : decode cX12_plans 37 = .ok (.iaload, 1) := getB' kX12_plans_1 8 rfl
theorem dX12_plans_38 : decode cX12_plans 38 = .ok (.iadd, 1) := getB' kX12_plans_1 9 rfl
theorem dX12_plans_39 : decode cX12_plans 39 = .ok (.istore 4, 2) := getB' kX12_plans_1 10 rfl
theorem dX12_plans_41 : decode cX12_plans 41 = .ok (.iinc 5 1, 3) := getB' kX12_plans_1 11 rfl
def LX12_plans_2 : List (Nat × Instr × Nat) := [(44, .goto (-33), 3), (47, .aload_n 0, 1), (48, .getfield 736, 3), (51, .ifCond .le 18, 3), (54, .iload 4, 2), (56, .aload_n 0, 1), (57, .getfield 211, 3), (60, .iload_n 1, 1), (61, .iaload, 1), (62, .if_icmp .gt 7, 3), (65, .iconst 1, 1), (66, .goto 4, 3)]
theorem kX12_plans_2 : chkB cX12_plans LX12_plans_2 = true := by decide +kernel
theorem dX12_plans_44 : decode cX12_plans 44 = .ok (.goto (-33), 3) := getB' kX12_plans_2 0 rfl
theorem dX12_plans_47 : decode cX12_plans 47 = .ok (.aload_n 0, 1) := getB' kX12_plans_2 1 rfl
theorem dX12_plans_48 : decode cX12_plans 48 = .ok (.getfield 736, 3) := getB' kX12_plans_2 2 rfl
theorem dX12_plans_51 : decode cX12_plans 51 = .ok (.ifCond .le 18, 3) := getB' kX12_plans_2 3 rfl
theorem dX12_plans_54 : decode cX12_plans 54 = .ok (.iload 4, 2) := getB' kX12_plans_2 4 rfl
theorem dX12_plans_56 : decode cX12_plans 56 = .ok (.aload_n 0, 1) := getB' kX12_plans_2 5 rfl
theorem dX12_plans_57 : decode cX12_plans 57 = .ok (.getfield 211, 3) := getB' kX12_plans_2 6 rfl
theorem dX12_plans_60 : decode cX12_plans 60 = .ok (.iload_n 1, 1) := getB' kX12_plans_2 7 rfl
theorem dX12_plans_61 : decode cX12_plans 61 = .ok (.iaload, 1) := getB' kX12_plans_2 8 rfl
theorem dX12_plans_62 : decode cX12_plans 62 = .ok (.if_icmp .gt 7, 3) := getB' kX12_plans_2 9 rfl
theorem dX12_plans_65 : decode cX12_plans 65 = .ok (.iconst 1, 1) := getB' kX12_plans_2 10 rfl
theorem dX12_plans_66 : decode cX12_plans 66 = .ok (.goto 4, 3) := getB' kX12_plans_2 11 rfl
def LX12_plans_3 : List (Nat × Instr × Nat) := [(69, .iconst 0, 1), (70, .istore 5, 2), (72, .iload 5, 2), (74, .ifCond .eq 87, 3), (77, .aload_n 0, 1), (78, .iload_n 3, 1), (79, .aload_n 0, 1), (80, .getfield 244, 3), (83, .iload_n 2, 1), (84, .iaload, 1), (85, .iadd, 1), (86, .invokevirtual 748, 3)]
theorem kX12_plans_3 : chkB cX12_plans LX12_plans_3 = true := by decide +kernel
theorem dX12_plans_69 : decode cX12_plans 69 = .ok (.iconst 0, 1) := getB' kX12_plans_3 0 rfl
theorem dX12_plans_70 : decode cX12_plans 70 = .ok (.istore 5, 2) := getB' kX12_plans_3 1 rfl
theorem dX12_plans_72 : decode cX12_plans 72 = .ok (.iload 5, 2) := getB' kX12_plans_3 2 rfl
theorem dX12_plans_74 : decode cX12_plans 74 = .ok (.ifCond .eq 87, 3) := getB' kX12_plans_3 3 rfl
theorem dX12_plans_77 : decode cX12_plans 77 = .ok (.aload_n 0, 1) := getB' kX12_plans_3 4 rfl
theorem dX12_plans_78 : decode cX12_plans 78 = .ok (.iload_n 3, 1) := getB' kX12_plans_3 5 rfl
theorem dX12_plans_79 : decode cX12_plans 79 = .ok (.aload_n 0, 1) := getB' kX12_plans_3 6 rfl
theorem dX12_plans_80 : decode cX12_plans 80 = .ok (.getfield 244, 3) := getB' kX12_plans_3 7 rfl
theorem dX12_plans_83 : decode cX12_plans 83 = .ok (.iload_n 2, 1) := getB' kX12_plans_3 8 rfl
theorem dX12_plans_84 : decode cX12_plans 84 = .ok (.iaload, 1) := getB' kX12_plans_3 9 rfl
theorem dX12_plans_85 : decode cX12_plans 85 = .ok (.iadd, 1) := getB' kX12_plans_3 10 rfl
theorem dX12_plans_86 : decode cX12_plans 86 = .ok (.invokevirtual 748, 3) := getB' kX12_plans_3 11 rfl
def LX12_plans_4 : List (Nat × Instr × Nat) := [(89, .istore 6, 2), (91, .iload 6, 2), (93, .iconst (-1), 1), (94, .if_icmp .eq 58, 3), (97, .aload_n 0, 1), (98, .getfield 745, 3), (101, .iconst (-1), 1), (102, .if_icmp .eq 12, 3), (105, .iload 6, 2), (107, .aload_n 0, 1), (108, .getfield 745, 3), (111, .if_icmp .ge 41, 3)]
theorem kX12_plans_4 : chkB cX12_plans LX12_plans_4 = true := by decide +kernel
theorem dX12_plans_89 : decode cX12_plans 89 = .ok (.istore 6, 2) := getB' kX12_plans_4 0 rfl
theorem dX12_plans_91 : decode cX12_plans 91 = .ok (.iload 6, 2) := getB' kX12_plans_4 1 rfl
theorem dX12_plans_93 : decode cX12_plans 93 = .ok (.iconst (-1), 1) := getB' kX12_plans_4 2 rfl
theorem dX12_plans_94 : decode cX12_plans 94 = .ok (.if_icmp .eq 58, 3) := getB' kX12_plans_4 3 rfl
theorem dX12_plans_97 : decode cX12_plans 97 = .ok (.aload_n 0, 1) := getB' kX12_plans_4 4 rfl
theorem dX12_plans_98 : decode cX12_plans 98 = .ok (.getfield 745, 3) := getB' kX12_plans_4 5 rfl
theorem dX12_plans_101 : decode cX12_plans 101 = .ok (.iconst (-1), 1) := getB' kX12_plans_4 6 rfl
theorem dX12_plans_102 : decode cX12_plans 102 = .ok (.if_icmp .eq 12, 3) := getB' kX12_plans_4 7 rfl
theorem dX12_plans_105 : decode cX12_plans 105 = .ok (.iload 6, 2) := getB' kX12_plans_4 8 rfl
theorem dX12_plans_107 : decode cX12_plans 107 = .ok (.aload_n 0, 1) := getB' kX12_plans_4 9 rfl
theorem dX12_plans_108 : decode cX12_plans 108 = .ok (.getfield 745, 3) := getB' kX12_plans_4 10 rfl
theorem dX12_plans_111 : decode cX12_plans 111 = .ok (.if_icmp .ge 41, 3) := getB' kX12_plans_4 11 rfl
def LX12_plans_5 : List (Nat × Instr × Nat) := [(114, .aload_n 0, 1), (115, .iload 6, 2), (117, .putfield 745, 3), (120, .iconst 0, 1), (121, .istore 7, 2), (123, .iload 7, 2), (125, .aload_n 0, 1), (126, .getfield 736, 3), (129, .if_icmp .ge 23, 3), (132, .aload_n 0, 1), (133, .getfield 343, 3), (136, .iload 7, 2)]
theorem kX12_plans_5 : chkB cX12_plans LX12_plans_5 = true := by decide +kernel
theorem dX12_plans_114 : decode cX12_plans 114 = .ok (.aload_n 0, 1) := getB' kX12_plans_5 0 rfl
theorem dX12_plans_115 : decode cX12_plans 115 = .ok (.iload 6, 2) := getB' kX12_plans_5 1 rfl
theorem dX12_plans_117 : decode cX12_plans 117 = .ok (.putfield 745, 3) := getB' kX12_plans_5 2 rfl
theorem dX12_plans_120 : decode cX12_plans 120 = .ok (.iconst 0, 1) := getB' kX12_plans_5 3 rfl
theorem dX12_plans_121 : decode cX12_plans 121 = .ok (.istore 7, 2) := getB' kX12_plans_5 4 rfl
theorem dX12_plans_123 : decode cX12_plans 123 = .ok (.iload 7, 2) := getB' kX12_plans_5 5 rfl
theorem dX12_plans_125 : decode cX12_plans 125 = .ok (.aload_n 0, 1) := getB' kX12_plans_5 6 rfl
theorem dX12_plans_126 : decode cX12_plans 126 = .ok (.getfield 736, 3) := getB' kX12_plans_5 7 rfl
theorem dX12_plans_129 : decode cX12_plans 129 = .ok (.if_icmp .ge 23, 3) := getB' kX12_plans_5 8 rfl
theorem dX12_plans_132 : decode cX12_plans 132 = .ok (.aload_n 0, 1) := getB' kX12_plans_5 9 rfl
theorem dX12_plans_133 : decode cX12_plans 133 = .ok (.getfield 343, 3) := getB' kX12_plans_5 10 rfl
theorem dX12_plans_136 : decode cX12_plans 136 = .ok (.iload 7, 2) := getB' kX12_plans_5 11 rfl
def LX12_plans_6 : List (Nat × Instr × Nat) := [(138, .aload_n 0, 1), (139, .getfield 340, 3), (142, .iload 7, 2), (144, .iaload, 1), (145, .iastore, 1), (146, .iinc 7 1, 3), (149, .goto (-26), 3), (152, .aload_n 0, 1), (153, .invokevirtual 751, 3), (156, .istore 5, 2), (158, .goto (-86), 3), (161, .return_, 1)]
theorem kX12_plans_6 : chkB cX12_plans LX12_plans_6 = true := by decide +kernel
theorem dX12_plans_138 : decode cX12_plans 138 = .ok (.aload_n 0, 1) := getB' kX12_plans_6 0 rfl
theorem dX12_plans_139 : decode cX12_plans 139 = .ok (.getfield 340, 3) := getB' kX12_plans_6 1 rfl
theorem dX12_plans_142 : decode cX12_plans 142 = .ok (.iload 7, 2) := getB' kX12_plans_6 2 rfl
theorem dX12_plans_144 : decode cX12_plans 144 = .ok (.iaload, 1) := getB' kX12_plans_6 3 rfl
theorem dX12_plans_145 : decode cX12_plans 145 = .ok (.iastore, 1) := getB' kX12_plans_6 4 rfl
theorem dX12_plans_146 : decode cX12_plans 146 = .ok (.iinc 7 1, 3) := getB' kX12_plans_6 5 rfl
theorem dX12_plans_149 : decode cX12_plans 149 = .ok (.goto (-26), 3) := getB' kX12_plans_6 6 rfl
theorem dX12_plans_152 : decode cX12_plans 152 = .ok (.aload_n 0, 1) := getB' kX12_plans_6 7 rfl
theorem dX12_plans_153 : decode cX12_plans 153 = .ok (.invokevirtual 751, 3) := getB' kX12_plans_6 8 rfl
theorem dX12_plans_156 : decode cX12_plans 156 = .ok (.istore 5, 2) := getB' kX12_plans_6 9 rfl
theorem dX12_plans_158 : decode cX12_plans 158 = .ok (.goto (-86), 3) := getB' kX12_plans_6 10 rfl
theorem dX12_plans_161 : decode cX12_plans 161 = .ok (.return_, 1) := getB' kX12_plans_6 11 rfl
def LX12_plan_0 : List (Nat × Instr × Nat) := [(0, .aload_n 0, 1), (1, .iload_n 1, 1), (2, .invokevirtual 618, 3), (5, .ifCond .eq 21, 3), (8, .iload_n 2, 1), (9, .invokestatic 615, 3), (12, .ifCond .eq 14, 3), (15, .iload_n 3, 1), (16, .iconst 0, 1), (17, .sipush 359, 3), (20, .invokestatic 371, 3), (23, .ifCond .ne 5, 3)]
theorem kX12_plan_0 : chkB cX12_plan LX12_plan_0 = true := by decide +kernel
theorem dX12_plan_0 : decode cX12_plan 0 = .ok (.aload_n 0, 1) := getB' kX12_plan_0 0 rfl
theorem dX12_plan_1 : decode cX12_plan 1 = .ok (.iload_n 1, 1) := getB' kX12_plan_0 1 rfl
theorem dX12_plan_2 : decode cX12_plan 2 = .ok (.invokevirtual 618, 3) := getB' kX12_plan_0 2 rfl
theorem dX12_plan_5 : decode cX12_plan 5 = .ok (.ifCond .eq 21, 3) := getB' kX12_plan_0 3 rfl
theorem dX12_plan_8 : decode cX12_plan 8 = .ok (.iload_n 2, 1) := getB' kX12_plan_0 4 rfl
theorem dX12_plan_9 : decode cX12_plan 9 = .ok (.invokestatic 615, 3) := getB' kX12_plan_0 5 rfl
theorem dX12_plan_12 : decode cX12_plan 12 = .ok (.ifCond .eq 14, 3) := getB' kX12_plan_0 6 rfl
theorem dX12_plan_15 : decode cX12_plan 15 = .ok (.iload_n 3, 1) := getB' kX12_plan_0 7 rfl
theorem dX12_plan_16 : decode cX12_plan 16 = .ok (.iconst 0, 1) := getB' kX12_plan_0 8 rfl
theorem dX12_plan_17 : decode cX12_plan 17 = .ok (.sipush 359, 3) := getB' kX12_plan_0 9 rfl
theorem dX12_plan_20 : decode cX12_plan 20 = .ok (.invokestatic 371, 3) := getB' kX12_plan_0 10 rfl
theorem dX12_plan_23 : decode cX12_plan 23 = .ok (.ifCond .ne 5, 3) := getB' kX12_plan_0 11 rfl
def LX12_plan_1 : List (Nat × Instr × Nat) := [(26, .iconst (-1), 1), (27, .ireturn, 1), (28, .aload_n 0, 1), (29, .iload_n 1, 1), (30, .iload_n 2, 1), (31, .iload_n 3, 1), (32, .invokevirtual 754, 3), (35, .aload_n 0, 1), (36, .getfield 745, 3), (39, .ireturn, 1)]
theorem kX12_plan_1 : chkB cX12_plan LX12_plan_1 = true := by decide +kernel
theorem dX12_plan_26 : decode cX12_plan 26 = .ok (.iconst (-1), 1) := getB' kX12_plan_1 0 rfl
theorem dX12_plan_27 : decode cX12_plan 27 = .ok (.ireturn, 1) := getB' kX12_plan_1 1 rfl
theorem dX12_plan_28 : decode cX12_plan 28 = .ok (.aload_n 0, 1) := getB' kX12_plan_1 2 rfl
theorem dX12_plan_29 : decode cX12_plan 29 = .ok (.iload_n 1, 1) := getB' kX12_plan_1 3 rfl
theorem dX12_plan_30 : decode cX12_plan 30 = .ok (.iload_n 2, 1) := getB' kX12_plan_1 4 rfl
theorem dX12_plan_31 : decode cX12_plan 31 = .ok (.iload_n 3, 1) := getB' kX12_plan_1 5 rfl
theorem dX12_plan_32 : decode cX12_plan 32 = .ok (.invokevirtual 754, 3) := getB' kX12_plan_1 6 rfl
theorem dX12_plan_35 : decode cX12_plan 35 = .ok (.aload_n 0, 1) := getB' kX12_plan_1 7 rfl
theorem dX12_plan_36 : decode cX12_plan 36 = .ok (.getfield 745, 3) := getB' kX12_plan_1 8 rfl
theorem dX12_plan_39 : decode cX12_plan 39 = .ok (.ireturn, 1) := getB' kX12_plan_1 9 rfl
def LX12_planned_0 : List (Nat × Instr × Nat) := [(0, .aload_n 0, 1), (1, .iload_n 1, 1), (2, .iload_n 2, 1), (3, .iload_n 3, 1), (4, .invokevirtual 758, 3), (7, .iconst (-1), 1), (8, .if_icmp .eq 17, 3), (11, .iload 4, 2), (13, .ifCond .lt 12, 3), (16, .iload 4, 2), (18, .aload_n 0, 1), (19, .getfield 736, 3)]
theorem kX12_planned_0 : chkB cX12_planned LX12_planned_0 = true := by decide +kernel
theorem dX12_planned_0 : decode cX12_planned 0 = .ok (.aload_n 0, 1) := getB' kX12_planned_0 0 rfl
theorem dX12_planned_1 : decode cX12_planned 1 = .ok (.iload_n 1, 1) := getB' kX12_planned_0 1 rfl
theorem dX12_planned_2 : decode cX12_planned 2 = .ok (.iload_n 2, 1) := getB' kX12_planned_0 2 rfl
theorem dX12_planned_3 : decode cX12_planned 3 = .ok (.iload_n 3, 1) := getB' kX12_planned_0 3 rfl
theorem dX12_planned_4 : decode cX12_planned 4 = .ok (.invokevirtual 758, 3) := getB' kX12_planned_0 4 rfl
theorem dX12_planned_7 : decode cX12_planned 7 = .ok (.iconst (-1), 1) := getB' kX12_planned_0 5 rfl
theorem dX12_planned_8 : decode cX12_planned 8 = .ok (.if_icmp .eq 17, 3) := getB' kX12_planned_0 6 rfl
theorem dX12_planned_11 : decode cX12_planned 11 = .ok (.iload 4, 2) := getB' kX12_planned_0 7 rfl
theorem dX12_planned_13 : decode cX12_planned 13 = .ok (.ifCond .lt 12, 3) := getB' kX12_planned_0 8 rfl
theorem dX12_planned_16 : decode cX12_planned 16 = .ok (.iload 4, 2) := getB' kX12_planned_0 9 rfl
theorem dX12_planned_18 : decode cX12_planned 18 = .ok (.aload_n 0, 1) := getB' kX12_planned_0 10 rfl
theorem dX12_planned_19 : decode cX12_planned 19 = .ok (.getfield 736, 3) := getB' kX12_planned_0 11 rfl
def LX12_planned_1 : List (Nat × Instr × Nat) := [(22, .if_icmp .lt 5, 3), (25, .iconst (-1), 1), (26, .ireturn, 1), (27, .aload_n 0, 1), (28, .getfield 343, 3), (31, .iload 4, 2), (33, .iaload, 1), (34, .ireturn, 1)]
theorem kX12_planned_1 : chkB cX12_planned LX12_planned_1 = true := by decide +kernel
theorem dX12_planned_22 : decode cX12_planned 22 = .ok (.if_icmp .lt 5, 3) := getB' kX12_planned_1 0 rfl
theorem dX12_planned_25 : decode cX12_planned 25 = .ok (.iconst (-1), 1) := getB' kX12_planned_1 1 rfl
theorem dX12_planned_26 : decode cX12_planned 26 = .ok (.ireturn, 1) := getB' kX12_planned_1 2 rfl
theorem dX12_planned_27 : decode cX12_planned 27 = .ok (.aload_n 0, 1) := getB' kX12_planned_1 3 rfl
theorem dX12_planned_28 : decode cX12_planned 28 = .ok (.getfield 343, 3) := getB' kX12_planned_1 4 rfl
theorem dX12_planned_31 : decode cX12_planned 31 = .ok (.iload 4, 2) := getB' kX12_planned_1 5 rfl
theorem dX12_planned_33 : decode cX12_planned 33 = .ok (.iaload, 1) := getB' kX12_planned_1 6 rfl
theorem dX12_planned_34 : decode cX12_planned 34 = .ok (.ireturn, 1) := getB' kX12_planned_1 7 rfl
def LX12_report_0 : List (Nat × Instr × Nat) := [(0, .aload_n 0, 1), (1, .iload_n 1, 1), (2, .invokevirtual 403, 3), (5, .ifCond .eq 38, 3), (8, .iload_n 2, 1), (9, .iconst 0, 1), (10, .aload_n 0, 1), (11, .getfield 396, 3), (14, .invokestatic 371, 3), (17, .ifCond .eq 26, 3), (20, .iload_n 3, 1), (21, .sipush (-1000), 3)]
theorem kX12_report_0 : chkB cX12_report LX12_report_0 = true := by decide +kernel
theorem dX12_report_0 : decode cX12_report 0 = .ok (.aload_n 0, 1) := getB' kX12_report_0 0 rfl
theorem dX12_report_1 : decode cX12_report 1 = .ok (.iload_n 1, 1) := getB' kX12_report_0 1 rfl
theorem dX12_report_2 : decode cX12_report 2 = .ok (.invokevirtual 403, 3) := getB' kX12_report_0 2 rfl
theorem dX12_report_5 : decode cX12_report 5 = .ok (.ifCond .eq 38, 3) := getB' kX12_report_0 3 rfl
theorem dX12_report_8 : decode cX12_report 8 = .ok (.iload_n 2, 1) := getB' kX12_report_0 4 rfl
theorem dX12_report_9 : decode cX12_report 9 = .ok (.iconst 0, 1) := getB' kX12_report_0 5 rfl
theorem dX12_report_10 : decode cX12_report 10 = .ok (.aload_n 0, 1) := getB' kX12_report_0 6 rfl
theorem dX12_report_11 : decode cX12_report 11 = .ok (.getfield 396, 3) := getB' kX12_report_0 7 rfl
theorem dX12_report_14 : decode cX12_report 14 = .ok (.invokestatic 371, 3) := getB' kX12_report_0 8 rfl
theorem dX12_report_17 : decode cX12_report 17 = .ok (.ifCond .eq 26, 3) := getB' kX12_report_0 9 rfl
theorem dX12_report_20 : decode cX12_report 20 = .ok (.iload_n 3, 1) := getB' kX12_report_0 10 rfl
theorem dX12_report_21 : decode cX12_report 21 = .ok (.sipush (-1000), 3) := getB' kX12_report_0 11 rfl
def LX12_report_1 : List (Nat × Instr × Nat) := [(24, .ldc_w 638, 3), (27, .invokestatic 371, 3), (30, .ifCond .eq 13, 3), (33, .aload_n 0, 1), (34, .getfield 761, 3), (37, .sipush 200, 3), (40, .if_icmp .ne 5, 3), (43, .iconst 0, 1), (44, .ireturn, 1), (45, .aload_n 0, 1), (46, .getfield 346, 3), (49, .aload_n 0, 1)]
theorem kX12_report_1 : chkB cX12_report LX12_report_1 = true := by decide +kernel
theorem dX12_report_24 : decode cX12_report 24 = .ok (.ldc_w 638, 3) := getB' kX12_report_1 0 rfl
theorem dX12_report_27 : decode cX12_report 27 = .ok (.invokestatic 371, 3) := getB' kX12_report_1 1 rfl
theorem dX12_report_30 : decode cX12_report 30 = .ok (.ifCond .eq 13, 3) := getB' kX12_report_1 2 rfl
theorem dX12_report_33 : decode cX12_report 33 = .ok (.aload_n 0, 1) := getB' kX12_report_1 3 rfl
theorem dX12_report_34 : decode cX12_report 34 = .ok (.getfield 761, 3) := getB' kX12_report_1 4 rfl
theorem dX12_report_37 : decode cX12_report 37 = .ok (.sipush 200, 3) := getB' kX12_report_1 5 rfl
theorem dX12_report_40 : decode cX12_report 40 = .ok (.if_icmp .ne 5, 3) := getB' kX12_report_1 6 rfl
theorem dX12_report_43 : decode cX12_report 43 = .ok (.iconst 0, 1) := getB' kX12_report_1 7 rfl
theorem dX12_report_44 : decode cX12_report 44 = .ok (.ireturn, 1) := getB' kX12_report_1 8 rfl
theorem dX12_report_45 : decode cX12_report 45 = .ok (.aload_n 0, 1) := getB' kX12_report_1 9 rfl
theorem dX12_report_46 : decode cX12_report 46 = .ok (.getfield 346, 3) := getB' kX12_report_1 10 rfl
theorem dX12_report_49 : decode cX12_report 49 = .ok (.aload_n 0, 1) := getB' kX12_report_1 11 rfl
def LX12_report_2 : List (Nat × Instr × Nat) := [(50, .getfield 761, 3), (53, .iload_n 1, 1), (54, .iastore, 1), (55, .aload_n 0, 1), (56, .getfield 349, 3), (59, .aload_n 0, 1), (60, .getfield 761, 3), (63, .iload_n 2, 1), (64, .iastore, 1), (65, .aload_n 0, 1), (66, .getfield 352, 3), (69, .aload_n 0, 1)]
theorem kX12_report_2 : chkB cX12_report LX12_report_2 = true := by decide +kernel
theorem dX12_report_50 : decode cX12_report 50 = .ok (.getfield 761, 3) := getB' kX12_report_2 0 rfl
theorem dX12_report_53 : decode cX12_report 53 = .ok (.iload_n 1, 1) := getB' kX12_report_2 1 rfl
theorem dX12_report_54 : decode cX12_report 54 = .ok (.iastore, 1) := getB' kX12_report_2 2 rfl
theorem dX12_report_55 : decode cX12_report 55 = .ok (.aload_n 0, 1) := getB' kX12_report_2 3 rfl
theorem dX12_report_56 : decode cX12_report 56 = .ok (.getfield 349, 3) := getB' kX12_report_2 4 rfl
theorem dX12_report_59 : decode cX12_report 59 = .ok (.aload_n 0, 1) := getB' kX12_report_2 5 rfl
theorem dX12_report_60 : decode cX12_report 60 = .ok (.getfield 761, 3) := getB' kX12_report_2 6 rfl
theorem dX12_report_63 : decode cX12_report 63 = .ok (.iload_n 2, 1) := getB' kX12_report_2 7 rfl
theorem dX12_report_64 : decode cX12_report 64 = .ok (.iastore, 1) := getB' kX12_report_2 8 rfl
theorem dX12_report_65 : decode cX12_report 65 = .ok (.aload_n 0, 1) := getB' kX12_report_2 9 rfl
theorem dX12_report_66 : decode cX12_report 66 = .ok (.getfield 352, 3) := getB' kX12_report_2 10 rfl
theorem dX12_report_69 : decode cX12_report 69 = .ok (.aload_n 0, 1) := getB' kX12_report_2 11 rfl
def LX12_report_3 : List (Nat × Instr × Nat) := [(70, .getfield 761, 3), (73, .iload_n 3, 1), (74, .iastore, 1), (75, .aload_n 0, 1), (76, .getfield 355, 3), (79, .aload_n 0, 1), (80, .getfield 761, 3), (83, .aload_n 0, 1), (84, .getfield 396, 3), (87, .iastore, 1), (88, .aload_n 0, 1), (89, .getfield 358, 3)]
theorem kX12_report_3 : chkB cX12_report LX12_report_3 = true := by decide +kernel
theorem dX12_report_70 : decode cX12_report 70 = .ok (.getfield 761, 3) := getB' kX12_report_3 0 rfl
theorem dX12_report_73 : decode cX12_report 73 = .ok (.iload_n 3, 1) := getB' kX12_report_3 1 rfl
theorem dX12_report_74 : decode cX12_report 74 = .ok (.iastore, 1) := getB' kX12_report_3 2 rfl
theorem dX12_report_75 : decode cX12_report 75 = .ok (.aload_n 0, 1) := getB' kX12_report_3 3 rfl
theorem dX12_report_76 : decode cX12_report 76 = .ok (.getfield 355, 3) := getB' kX12_report_3 4 rfl
theorem dX12_report_79 : decode cX12_report 79 = .ok (.aload_n 0, 1) := getB' kX12_report_3 5 rfl
theorem dX12_report_80 : decode cX12_report 80 = .ok (.getfield 761, 3) := getB' kX12_report_3 6 rfl
theorem dX12_report_83 : decode cX12_report 83 = .ok (.aload_n 0, 1) := getB' kX12_report_3 7 rfl
theorem dX12_report_84 : decode cX12_report 84 = .ok (.getfield 396, 3) := getB' kX12_report_3 8 rfl
theorem dX12_report_87 : decode cX12_report 87 = .ok (.iastore, 1) := getB' kX12_report_3 9 rfl
theorem dX12_report_88 : decode cX12_report 88 = .ok (.aload_n 0, 1) := getB' kX12_report_3 10 rfl
theorem dX12_report_89 : decode cX12_report 89 = .ok (.getfield 358, 3) := getB' kX12_report_3 11 rfl
def LX12_report_4 : List (Nat × Instr × Nat) := [(92, .aload_n 0, 1), (93, .getfield 761, 3), (96, .iload 4, 2), (98, .bastore, 1), (99, .aload_n 0, 1), (100, .aload_n 0, 1), (101, .getfield 761, 3), (104, .iconst 1, 1), (105, .iadd, 1), (106, .putfield 761, 3), (109, .iconst 1, 1), (110, .ireturn, 1)]
theorem kX12_report_4 : chkB cX12_report LX12_report_4 = true := by decide +kernel
theorem dX12_report_92 : decode cX12_report 92 = .ok (.aload_n 0, 1) := getB' kX12_report_4 0 rfl
theorem dX12_report_93 : decode cX12_report 93 = .ok (.getfield 761, 3) := getB' kX12_report_4 1 rfl
theorem dX12_report_96 : decode cX12_report 96 = .ok (.iload 4, 2) := getB' kX12_report_4 2 rfl
theorem dX12_report_98 : decode cX12_report 98 = .ok (.bastore, 1) := getB' kX12_report_4 3 rfl
theorem dX12_report_99 : decode cX12_report 99 = .ok (.aload_n 0, 1) := getB' kX12_report_4 4 rfl
theorem dX12_report_100 : decode cX12_report 100 = .ok (.aload_n 0, 1) := getB' kX12_report_4 5 rfl
theorem dX12_report_101 : decode cX12_report 101 = .ok (.getfield 761, 3) := getB' kX12_report_4 6 rfl
theorem dX12_report_104 : decode cX12_report 104 = .ok (.iconst 1, 1) := getB' kX12_report_4 7 rfl
theorem dX12_report_105 : decode cX12_report 105 = .ok (.iadd, 1) := getB' kX12_report_4 8 rfl
theorem dX12_report_106 : decode cX12_report 106 = .ok (.putfield 761, 3) := getB' kX12_report_4 9 rfl
theorem dX12_report_109 : decode cX12_report 109 = .ok (.iconst 1, 1) := getB' kX12_report_4 10 rfl
theorem dX12_report_110 : decode cX12_report 110 = .ok (.ireturn, 1) := getB' kX12_report_4 11 rfl
def LX12_known_0 : List (Nat × Instr × Nat) := [(0, .aload_n 0, 1), (1, .iload_n 1, 1), (2, .invokevirtual 403, 3), (5, .ifCond .eq 17, 3), (8, .iload_n 2, 1), (9, .invokestatic 409, 3), (12, .ifCond .eq 10, 3), (15, .iload_n 3, 1), (16, .invokestatic 409, 3), (19, .ifCond .ne 7, 3), (22, .ldc_w 764, 3), (25, .ireturn, 1)]
theorem kX12_known_0 : chkB cX12_known LX12_known_0 = true := by decide +kernel
theorem dX12_known_0 : decode cX12_known 0 = .ok (.aload_n 0, 1) := getB' kX12_known_0 0 rfl
theorem dX12_known_1 : decode cX12_known 1 = .ok (.iload_n 1, 1) := getB' kX12_known_0 1 rfl
theorem dX12_known_2 : decode cX12_known 2 = .ok (.invokevirtual 403, 3) := getB' kX12_known_0 2 rfl
theorem dX12_known_5 : decode cX12_known 5 = .ok (.ifCond .eq 17, 3) := getB' kX12_known_0 3 rfl
theorem dX12_known_8 : decode cX12_known 8 = .ok (.iload_n 2, 1) := getB' kX12_known_0 4 rfl
theorem dX12_known_9 : decode cX12_known 9 = .ok (.invokestatic 409, 3) := getB' kX12_known_0 5 rfl
theorem dX12_known_12 : decode cX12_known 12 = .ok (.ifCond .eq 10, 3) := getB' kX12_known_0 6 rfl
theorem dX12_known_15 : decode cX12_known 15 = .ok (.iload_n 3, 1) := getB' kX12_known_0 7 rfl
theorem dX12_known_16 : decode cX12_known 16 = .ok (.invokestatic 409, 3) := getB' kX12_known_0 8 rfl
theorem dX12_known_19 : decode cX12_known 19 = .ok (.ifCond .ne 7, 3) := getB' kX12_known_0 9 rfl
theorem dX12_known_22 : decode cX12_known 22 = .ok (.ldc_w 764, 3) := getB' kX12_known_0 10 rfl
theorem dX12_known_25 : decode cX12_known 25 = .ok (.ireturn, 1) := getB' kX12_known_0 11 rfl
def LX12_known_1 : List (Nat × Instr × Nat) := [(26, .iconst (-1), 1), (27, .istore 4, 2), (29, .iconst (-1), 1), (30, .istore 5, 2), (32, .iconst 0, 1), (33, .istore 6, 2), (35, .iload 6, 2), (37, .aload_n 0, 1), (38, .getfield 761, 3), (41, .if_icmp .ge 97, 3), (44, .aload_n 0, 1), (45, .getfield 346, 3)]
theorem kX12_known_1 : chkB cX12_known LX12_known_1 = true := by decide +kernel
theorem dX12_known_26 : decode cX12_known 26 = .ok (.iconst (-1), 1) := getB' kX12_known_1 0 rfl
theorem dX12_known_27 : decode cX12_known 27 = .ok (.istore 4, 2) := getB' kX12_known_1 1 rfl
theorem dX12_known_29 : decode cX12_known 29 = .ok (.iconst (-1), 1) := getB' kX12_known_1 2 rfl
theorem dX12_known_30 : decode cX12_known 30 = .ok (.istore 5, 2) := getB' kX12_known_1 3 rfl
theorem dX12_known_32 : decode cX12_known 32 = .ok (.iconst 0, 1) := getB' kX12_known_1 4 rfl
theorem dX12_known_33 : decode cX12_known 33 = .ok (.istore 6, 2) := getB' kX12_known_1 5 rfl
theorem dX12_known_35 : decode cX12_known 35 = .ok (.iload 6, 2) := getB' kX12_known_1 6 rfl
theorem dX12_known_37 : decode cX12_known 37 = .ok (.aload_n 0, 1) := getB' kX12_known_1 7 rfl
theorem dX12_known_38 : decode cX12_known 38 = .ok (.getfield 761, 3) := getB' kX12_known_1 8 rfl
theorem dX12_known_41 : decode cX12_known 41 = .ok (.if_icmp .ge 97, 3) := getB' kX12_known_1 9 rfl
theorem dX12_known_44 : decode cX12_known 44 = .ok (.aload_n 0, 1) := getB' kX12_known_1 10 rfl
theorem dX12_known_45 : decode cX12_known 45 = .ok (.getfield 346, 3) := getB' kX12_known_1 11 rfl
def LX12_known_2 : List (Nat × Instr × Nat) := [(48, .iload 6, 2), (50, .iaload, 1), (51, .iload_n 1, 1), (52, .if_icmp .ne 80, 3), (55, .aload_n 0, 1), (56, .getfield 355, 3), (59, .iload 6, 2), (61, .iaload, 1), (62, .iload_n 3, 1), (63, .if_icmp .le 6, 3), (66, .goto 66, 3), (69, .aload_n 0, 1)]
theorem kX12_known_2 : chkB cX12_known LX12_known_2 = true := by decide +kernel
theorem dX12_known_48 : decode cX12_known 48 = .ok (.iload 6, 2) := getB' kX12_known_2 0 rfl
theorem dX12_known_50 : decode cX12_known 50 = .ok (.iaload, 1) := getB' kX12_known_2 1 rfl
theorem dX12_known_51 : decode cX12_known 51 = .ok (.iload_n 1, 1) := getB' kX12_known_2 2 rfl
theorem dX12_known_52 : decode cX12_known 52 = .ok (.if_icmp .ne 80, 3) := getB' kX12_known_2 3 rfl
theorem dX12_known_55 : decode cX12_known 55 = .ok (.aload_n 0, 1) := getB' kX12_known_2 4 rfl
theorem dX12_known_56 : decode cX12_known 56 = .ok (.getfield 355, 3) := getB' kX12_known_2 5 rfl
theorem dX12_known_59 : decode cX12_known 59 = .ok (.iload 6, 2) := getB' kX12_known_2 6 rfl
theorem dX12_known_61 : decode cX12_known 61 = .ok (.iaload, 1) := getB' kX12_known_2 7 rfl
theorem dX12_known_62 : decode cX12_known 62 = .ok (.iload_n 3, 1) := getB' kX12_known_2 8 rfl
theorem dX12_known_63 : decode cX12_known 63 = .ok (.if_icmp .le 6, 3) := getB' kX12_known_2 9 rfl
theorem dX12_known_66 : decode cX12_known 66 = .ok (.goto 66, 3) := getB' kX12_known_2 10 rfl
theorem dX12_known_69 : decode cX12_known 69 = .ok (.aload_n 0, 1) := getB' kX12_known_2 11 rfl
def LX12_known_3 : List (Nat × Instr × Nat) := [(70, .getfield 349, 3), (73, .iload 6, 2), (75, .iaload, 1), (76, .iload_n 2, 1), (77, .if_icmp .ne 7, 3), (80, .iload 6, 2), (82, .istore 4, 2), (84, .aload_n 0, 1), (85, .getfield 349, 3), (88, .iload 6, 2), (90, .iaload, 1), (91, .iload_n 2, 1)]
theorem kX12_known_3 : chkB cX12_known LX12_known_3 = true := by decide +kernel
theorem dX12_known_70 : decode cX12_known 70 = .ok (.getfield 349, 3) := getB' kX12_known_3 0 rfl
theorem dX12_known_73 : decode cX12_known 73 = .ok (.iload 6, 2) := getB' kX12_known_3 1 rfl
theorem dX12_known_75 : decode cX12_known 75 = .ok (.iaload, 1) := getB' kX12_known_3 2 rfl
theorem dX12_known_76 : decode cX12_known 76 = .ok (.iload_n 2, 1) := getB' kX12_known_3 3 rfl
theorem dX12_known_77 : decode cX12_known 77 = .ok (.if_icmp .ne 7, 3) := getB' kX12_known_3 4 rfl
theorem dX12_known_80 : decode cX12_known 80 = .ok (.iload 6, 2) := getB' kX12_known_3 5 rfl
theorem dX12_known_82 : decode cX12_known 82 = .ok (.istore 4, 2) := getB' kX12_known_3 6 rfl
theorem dX12_known_84 : decode cX12_known 84 = .ok (.aload_n 0, 1) := getB' kX12_known_3 7 rfl
theorem dX12_known_85 : decode cX12_known 85 = .ok (.getfield 349, 3) := getB' kX12_known_3 8 rfl
theorem dX12_known_88 : decode cX12_known 88 = .ok (.iload 6, 2) := getB' kX12_known_3 9 rfl
theorem dX12_known_90 : decode cX12_known 90 = .ok (.iaload, 1) := getB' kX12_known_3 10 rfl
theorem dX12_known_91 : decode cX12_known 91 = .ok (.iload_n 2, 1) := getB' kX12_known_3 11 rfl
def LX12_known_4 : List (Nat × Instr × Nat) := [(92, .if_icmp .ge 40, 3), (95, .aload_n 0, 1), (96, .getfield 358, 3), (99, .iload 6, 2), (101, .baload, 1), (102, .ifCond .eq 30, 3), (105, .iload 5, 2), (107, .iconst (-1), 1), (108, .if_icmp .eq 20, 3), (111, .aload_n 0, 1), (112, .getfield 349, 3), (115, .iload 6, 2)]
theorem kX12_known_4 : chkB cX12_known LX12_known_4 = true := by decide +kernel
theorem dX12_known_92 : decode cX12_known 92 = .ok (.if_icmp .ge 40, 3) := getB' kX12_known_4 0 rfl
theorem dX12_known_95 : decode cX12_known 95 = .ok (.aload_n 0, 1) := getB' kX12_known_4 1 rfl
theorem dX12_known_96 : decode cX12_known 96 = .ok (.getfield 358, 3) := getB' kX12_known_4 2 rfl
theorem dX12_known_99 : decode cX12_known 99 = .ok (.iload 6, 2) := getB' kX12_known_4 3 rfl
theorem dX12_known_101 : decode cX12_known 101 = .ok (.baload, 1) := getB' kX12_known_4 4 rfl
theorem dX12_known_102 : decode cX12_known 102 = .ok (.ifCond .eq 30, 3) := getB' kX12_known_4 5 rfl
theorem dX12_known_105 : decode cX12_known 105 = .ok (.iload 5, 2) := getB' kX12_known_4 6 rfl
theorem dX12_known_107 : decode cX12_known 107 = .ok (.iconst (-1), 1) := getB' kX12_known_4 7 rfl
theorem dX12_known_108 : decode cX12_known 108 = .ok (.if_icmp .eq 20, 3) := getB' kX12_known_4 8 rfl
theorem dX12_known_111 : decode cX12_known 111 = .ok (.aload_n 0, 1) := getB' kX12_known_4 9 rfl
theorem dX12_known_112 : decode cX12_known 112 = .ok (.getfield 349, 3) := getB' kX12_known_4 10 rfl
theorem dX12_known_115 : decode cX12_known 115 = .ok (.iload 6, 2) := getB' kX12_known_4 11 rfl
def LX12_known_5 : List (Nat × Instr × Nat) := [(117, .iaload, 1), (118, .aload_n 0, 1), (119, .getfield 349, 3), (122, .iload 5, 2), (124, .iaload, 1), (125, .if_icmp .lt 7, 3), (128, .iload 6, 2), (130, .istore 5, 2), (132, .iinc 6 1, 3), (135, .goto (-100), 3), (138, .iload 4, 2), (140, .iconst (-1), 1)]
theorem kX12_known_5 : chkB cX12_known LX12_known_5 = true := by decide +kernel
theorem dX12_known_117 : decode cX12_known 117 = .ok (.iaload, 1) := getB' kX12_known_5 0 rfl
theorem dX12_known_118 : decode cX12_known 118 = .ok (.aload_n 0, 1) := getB' kX12_known_5 1 rfl
theorem dX12_known_119 : decode cX12_known 119 = .ok (.getfield 349, 3) := getB' kX12_known_5 2 rfl
theorem dX12_known_122 : decode cX12_known 122 = .ok (.iload 5, 2) := getB' kX12_known_5 3 rfl
theorem dX12_known_124 : decode cX12_known 124 = .ok (.iaload, 1) := getB' kX12_known_5 4 rfl
theorem dX12_known_125 : decode cX12_known 125 = .ok (.if_icmp .lt 7, 3) := getB' kX12_known_5 5 rfl
theorem dX12_known_128 : decode cX12_known 128 = .ok (.iload 6, 2) := getB' kX12_known_5 6 rfl
theorem dX12_known_130 : decode cX12_known 130 = .ok (.istore 5, 2) := getB' kX12_known_5 7 rfl
theorem dX12_known_132 : decode cX12_known 132 = .ok (.iinc 6 1, 3) := getB' kX12_known_5 8 rfl
theorem dX12_known_135 : decode cX12_known 135 = .ok (.goto (-100), 3) := getB' kX12_known_5 9 rfl
theorem dX12_known_138 : decode cX12_known 138 = .ok (.iload 4, 2) := getB' kX12_known_5 10 rfl
theorem dX12_known_140 : decode cX12_known 140 = .ok (.iconst (-1), 1) := getB' kX12_known_5 11 rfl
def LX12_known_6 : List (Nat × Instr × Nat) := [(141, .if_icmp .eq 21, 3), (144, .aload_n 0, 1), (145, .getfield 358, 3), (148, .iload 4, 2), (150, .baload, 1), (151, .ifCond .eq 11, 3), (154, .aload_n 0, 1), (155, .getfield 352, 3), (158, .iload 4, 2), (160, .iaload, 1), (161, .ireturn, 1), (162, .iload 5, 2)]
theorem kX12_known_6 : chkB cX12_known LX12_known_6 = true := by decide +kernel
theorem dX12_known_141 : decode cX12_known 141 = .ok (.if_icmp .eq 21, 3) := getB' kX12_known_6 0 rfl
theorem dX12_known_144 : decode cX12_known 144 = .ok (.aload_n 0, 1) := getB' kX12_known_6 1 rfl
theorem dX12_known_145 : decode cX12_known 145 = .ok (.getfield 358, 3) := getB' kX12_known_6 2 rfl
theorem dX12_known_148 : decode cX12_known 148 = .ok (.iload 4, 2) := getB' kX12_known_6 3 rfl
theorem dX12_known_150 : decode cX12_known 150 = .ok (.baload, 1) := getB' kX12_known_6 4 rfl
theorem dX12_known_151 : decode cX12_known 151 = .ok (.ifCond .eq 11, 3) := getB' kX12_known_6 5 rfl
theorem dX12_known_154 : decode cX12_known 154 = .ok (.aload_n 0, 1) := getB' kX12_known_6 6 rfl
theorem dX12_known_155 : decode cX12_known 155 = .ok (.getfield 352, 3) := getB' kX12_known_6 7 rfl
theorem dX12_known_158 : decode cX12_known 158 = .ok (.iload 4, 2) := getB' kX12_known_6 8 rfl
theorem dX12_known_160 : decode cX12_known 160 = .ok (.iaload, 1) := getB' kX12_known_6 9 rfl
theorem dX12_known_161 : decode cX12_known 161 = .ok (.ireturn, 1) := getB' kX12_known_6 10 rfl
theorem dX12_known_162 : decode cX12_known 162 = .ok (.iload 5, 2) := getB' kX12_known_6 11 rfl
def LX12_known_7 : List (Nat × Instr × Nat) := [(164, .iconst (-1), 1), (165, .if_icmp .ne 9, 3), (168, .ldc_w 764, 3), (171, .goto 10, 3), (174, .aload_n 0, 1), (175, .getfield 352, 3), (178, .iload 5, 2), (180, .iaload, 1), (181, .ireturn, 1)]
theorem kX12_known_7 : chkB cX12_known LX12_known_7 = true := by decide +kernel
theorem dX12_known_164 : decode cX12_known 164 = .ok (.iconst (-1), 1) := getB' kX12_known_7 0 rfl
theorem dX12_known_165 : decode cX12_known 165 = .ok (.if_icmp .ne 9, 3) := getB' kX12_known_7 1 rfl
theorem dX12_known_168 : decode cX12_known 168 = .ok (.ldc_w 764, 3) := getB' kX12_known_7 2 rfl
theorem dX12_known_171 : decode cX12_known 171 = .ok (.goto 10, 3) := getB' kX12_known_7 3 rfl
theorem dX12_known_174 : decode cX12_known 174 = .ok (.aload_n 0, 1) := getB' kX12_known_7 4 rfl
theorem dX12_known_175 : decode cX12_known 175 = .ok (.getfield 352, 3) := getB' kX12_known_7 5 rfl
theorem dX12_known_178 : decode cX12_known 178 = .ok (.iload 5, 2) := getB' kX12_known_7 6 rfl
theorem dX12_known_180 : decode cX12_known 180 = .ok (.iaload, 1) := getB' kX12_known_7 7 rfl
theorem dX12_known_181 : decode cX12_known 181 = .ok (.ireturn, 1) := getB' kX12_known_7 8 rfl
def LX12_tapeNumber_0 : List (Nat × Instr × Nat) := [(0, .iconst 0, 1), (1, .istore_n 2, 1), (2, .iconst 4, 1), (3, .iload_n 1, 1), (4, .imul, 1), (5, .istore_n 3, 1), (6, .iload_n 3, 1), (7, .iconst 4, 1), (8, .iload_n 1, 1), (9, .imul, 1), (10, .iconst 4, 1), (11, .iadd, 1)]
theorem kX12_tapeNumber_0 : chkB cX12_tapeNumber LX12_tapeNumber_0 = true := by decide +kernel
theorem dX12_tapeNumber_0 : decode cX12_tapeNumber 0 = .ok (.iconst 0, 1) := getB' kX12_tapeNumber_0 0 rfl
theorem dX12_tapeNumber_1 : decode cX12_tapeNumber 1 = .ok (.istore_n 2, 1) := getB' kX12_tapeNumber_0 1 rfl
theorem dX12_tapeNumber_2 : decode cX12_tapeNumber 2 = .ok (.iconst 4, 1) := getB' kX12_tapeNumber_0 2 rfl
theorem dX12_tapeNumber_3 : decode cX12_tapeNumber 3 = .ok (.iload_n 1, 1) := getB' kX12_tapeNumber_0 3 rfl
theorem dX12_tapeNumber_4 : decode cX12_tapeNumber 4 = .ok (.imul, 1) := getB' kX12_tapeNumber_0 4 rfl
theorem dX12_tapeNumber_5 : decode cX12_tapeNumber 5 = .ok (.istore_n 3, 1) := getB' kX12_tapeNumber_0 5 rfl
theorem dX12_tapeNumber_6 : decode cX12_tapeNumber 6 = .ok (.iload_n 3, 1) := getB' kX12_tapeNumber_0 6 rfl
theorem dX12_tapeNumber_7 : decode cX12_tapeNumber 7 = .ok (.iconst 4, 1) := getB' kX12_tapeNumber_0 7 rfl
theorem dX12_tapeNumber_8 : decode cX12_tapeNumber 8 = .ok (.iload_n 1, 1) := getB' kX12_tapeNumber_0 8 rfl
theorem dX12_tapeNumber_9 : decode cX12_tapeNumber 9 = .ok (.imul, 1) := getB' kX12_tapeNumber_0 9 rfl
theorem dX12_tapeNumber_10 : decode cX12_tapeNumber 10 = .ok (.iconst 4, 1) := getB' kX12_tapeNumber_0 10 rfl
theorem dX12_tapeNumber_11 : decode cX12_tapeNumber 11 = .ok (.iadd, 1) := getB' kX12_tapeNumber_0 11 rfl
def LX12_tapeNumber_1 : List (Nat × Instr × Nat) := [(12, .if_icmp .ge 25, 3), (15, .iload_n 2, 1), (16, .bipush 8, 2), (18, .ishl, 1), (19, .aload_n 0, 1), (20, .getfield 84, 3), (23, .iload_n 3, 1), (24, .baload, 1), (25, .sipush 255, 3), (28, .iand, 1), (29, .ior, 1), (30, .istore_n 2, 1)]
theorem kX12_tapeNumber_1 : chkB cX12_tapeNumber LX12_tapeNumber_1 = true := by decide +kernel
theorem dX12_tapeNumber_12 : decode cX12_tapeNumber 12 = .ok (.if_icmp .ge 25, 3) := getB' kX12_tapeNumber_1 0 rfl
theorem dX12_tapeNumber_15 : decode cX12_tapeNumber 15 = .ok (.iload_n 2, 1) := getB' kX12_tapeNumber_1 1 rfl
theorem dX12_tapeNumber_16 : decode cX12_tapeNumber 16 = .ok (.bipush 8, 2) := getB' kX12_tapeNumber_1 2 rfl
theorem dX12_tapeNumber_18 : decode cX12_tapeNumber 18 = .ok (.ishl, 1) := getB' kX12_tapeNumber_1 3 rfl
theorem dX12_tapeNumber_19 : decode cX12_tapeNumber 19 = .ok (.aload_n 0, 1) := getB' kX12_tapeNumber_1 4 rfl
theorem dX12_tapeNumber_20 : decode cX12_tapeNumber 20 = .ok (.getfield 84, 3) := getB' kX12_tapeNumber_1 5 rfl
theorem dX12_tapeNumber_23 : decode cX12_tapeNumber 23 = .ok (.iload_n 3, 1) := getB' kX12_tapeNumber_1 6 rfl
theorem dX12_tapeNumber_24 : decode cX12_tapeNumber 24 = .ok (.baload, 1) := getB' kX12_tapeNumber_1 7 rfl
theorem dX12_tapeNumber_25 : decode cX12_tapeNumber 25 = .ok (.sipush 255, 3) := getB' kX12_tapeNumber_1 8 rfl
theorem dX12_tapeNumber_28 : decode cX12_tapeNumber 28 = .ok (.iand, 1) := getB' kX12_tapeNumber_1 9 rfl
theorem dX12_tapeNumber_29 : decode cX12_tapeNumber 29 = .ok (.ior, 1) := getB' kX12_tapeNumber_1 10 rfl
theorem dX12_tapeNumber_30 : decode cX12_tapeNumber 30 = .ok (.istore_n 2, 1) := getB' kX12_tapeNumber_1 11 rfl
def LX12_tapeNumber_2 : List (Nat × Instr × Nat) := [(31, .iinc 3 1, 3), (34, .goto (-28), 3), (37, .iload_n 2, 1), (38, .ireturn, 1)]
theorem kX12_tapeNumber_2 : chkB cX12_tapeNumber LX12_tapeNumber_2 = true := by decide +kernel
theorem dX12_tapeNumber_31 : decode cX12_tapeNumber 31 = .ok (.iinc 3 1, 3) := getB' kX12_tapeNumber_2 0 rfl
theorem dX12_tapeNumber_34 : decode cX12_tapeNumber 34 = .ok (.goto (-28), 3) := getB' kX12_tapeNumber_2 1 rfl
theorem dX12_tapeNumber_37 : decode cX12_tapeNumber 37 = .ok (.iload_n 2, 1) := getB' kX12_tapeNumber_2 2 rfl
theorem dX12_tapeNumber_38 : decode cX12_tapeNumber 38 = .ok (.ireturn, 1) := getB' kX12_tapeNumber_2 3 rfl
def LX12_check_0 : List (Nat × Instr × Nat) := [(0, .iload_n 1, 1), (1, .ifCond .lt 14, 3), (4, .iload_n 1, 1), (5, .aload_n 0, 1), (6, .getfield 436, 3), (9, .bipush 8, 2), (11, .idiv, 1), (12, .if_icmp .le 6, 3), (15, .bipush (-2), 2), (17, .ireturn, 1), (18, .aload_n 0, 1), (19, .iconst 0, 1)]
theorem kX12_check_0 : chkB cX12_check LX12_check_0 = true := by decide +kernel
theorem dX12_check_0 : decode cX12_check 0 = .ok (.iload_n 1, 1) := getB' kX12_check_0 0 rfl
theorem dX12_check_1 : decode cX12_check 1 = .ok (.ifCond .lt 14, 3) := getB' kX12_check_0 1 rfl
theorem dX12_check_4 : decode cX12_check 4 = .ok (.iload_n 1, 1) := getB' kX12_check_0 2 rfl
theorem dX12_check_5 : decode cX12_check 5 = .ok (.aload_n 0, 1) := getB' kX12_check_0 3 rfl
theorem dX12_check_6 : decode cX12_check 6 = .ok (.getfield 436, 3) := getB' kX12_check_0 4 rfl
theorem dX12_check_9 : decode cX12_check 9 = .ok (.bipush 8, 2) := getB' kX12_check_0 5 rfl
theorem dX12_check_11 : decode cX12_check 11 = .ok (.idiv, 1) := getB' kX12_check_0 6 rfl
theorem dX12_check_12 : decode cX12_check 12 = .ok (.if_icmp .le 6, 3) := getB' kX12_check_0 7 rfl
theorem dX12_check_15 : decode cX12_check 15 = .ok (.bipush (-2), 2) := getB' kX12_check_0 8 rfl
theorem dX12_check_17 : decode cX12_check 17 = .ok (.ireturn, 1) := getB' kX12_check_0 9 rfl
theorem dX12_check_18 : decode cX12_check 18 = .ok (.aload_n 0, 1) := getB' kX12_check_0 10 rfl
theorem dX12_check_19 : decode cX12_check 19 = .ok (.iconst 0, 1) := getB' kX12_check_0 11 rfl
def LX12_check_1 : List (Nat × Instr × Nat) := [(20, .putfield 436, 3), (23, .iconst 0, 1), (24, .istore_n 2, 1), (25, .iconst 0, 1), (26, .istore_n 3, 1), (27, .iload_n 3, 1), (28, .aload_n 0, 1), (29, .getfield 375, 3), (32, .if_icmp .ge 69, 3), (35, .aload_n 0, 1), (36, .iload_n 3, 1), (37, .invokevirtual 433, 3)]
theorem kX12_check_1 : chkB cX12_check LX12_check_1 = true := by decide +kernel
theorem dX12_check_20 : decode cX12_check 20 = .ok (.putfield 436, 3) := getB' kX12_check_1 0 rfl
theorem dX12_check_23 : decode cX12_check 23 = .ok (.iconst 0, 1) := getB' kX12_check_1 1 rfl
theorem dX12_check_24 : decode cX12_check 24 = .ok (.istore_n 2, 1) := getB' kX12_check_1 2 rfl
theorem dX12_check_25 : decode cX12_check 25 = .ok (.iconst 0, 1) := getB' kX12_check_1 3 rfl
theorem dX12_check_26 : decode cX12_check 26 = .ok (.istore_n 3, 1) := getB' kX12_check_1 4 rfl
theorem dX12_check_27 : decode cX12_check 27 = .ok (.iload_n 3, 1) := getB' kX12_check_1 5 rfl
theorem dX12_check_28 : decode cX12_check 28 = .ok (.aload_n 0, 1) := getB' kX12_check_1 6 rfl
theorem dX12_check_29 : decode cX12_check 29 = .ok (.getfield 375, 3) := getB' kX12_check_1 7 rfl
theorem dX12_check_32 : decode cX12_check 32 = .ok (.if_icmp .ge 69, 3) := getB' kX12_check_1 8 rfl
theorem dX12_check_35 : decode cX12_check 35 = .ok (.aload_n 0, 1) := getB' kX12_check_1 9 rfl
theorem dX12_check_36 : decode cX12_check 36 = .ok (.iload_n 3, 1) := getB' kX12_check_1 10 rfl
theorem dX12_check_37 : decode cX12_check 37 = .ok (.invokevirtual 433, 3) := getB' kX12_check_1 11 rfl
def LX12_check_2 : List (Nat × Instr × Nat) := [(40, .ifCond .ne 6, 3), (43, .goto 52, 3), (46, .iload_n 2, 1), (47, .iconst 2, 1), (48, .iload_n 1, 1), (49, .imul, 1), (50, .if_icmp .eq 12, 3), (53, .aload_n 0, 1), (54, .iload_n 2, 1), (55, .invokevirtual 765, 3), (58, .iload_n 3, 1), (59, .if_icmp .eq 5, 3)]
theorem kX12_check_2 : chkB cX12_check LX12_check_2 = true := by decide +kernel
theorem dX12_check_40 : decode cX12_check 40 = .ok (.ifCond .ne 6, 3) := getB' kX12_check_2 0 rfl
theorem dX12_check_43 : decode cX12_check 43 = .ok (.goto 52, 3) := getB' kX12_check_2 1 rfl
theorem dX12_check_46 : decode cX12_check 46 = .ok (.iload_n 2, 1) := getB' kX12_check_2 2 rfl
theorem dX12_check_47 : decode cX12_check 47 = .ok (.iconst 2, 1) := getB' kX12_check_2 3 rfl
theorem dX12_check_48 : decode cX12_check 48 = .ok (.iload_n 1, 1) := getB' kX12_check_2 4 rfl
theorem dX12_check_49 : decode cX12_check 49 = .ok (.imul, 1) := getB' kX12_check_2 5 rfl
theorem dX12_check_50 : decode cX12_check 50 = .ok (.if_icmp .eq 12, 3) := getB' kX12_check_2 6 rfl
theorem dX12_check_53 : decode cX12_check 53 = .ok (.aload_n 0, 1) := getB' kX12_check_2 7 rfl
theorem dX12_check_54 : decode cX12_check 54 = .ok (.iload_n 2, 1) := getB' kX12_check_2 8 rfl
theorem dX12_check_55 : decode cX12_check 55 = .ok (.invokevirtual 765, 3) := getB' kX12_check_2 9 rfl
theorem dX12_check_58 : decode cX12_check 58 = .ok (.iload_n 3, 1) := getB' kX12_check_2 10 rfl
theorem dX12_check_59 : decode cX12_check 59 = .ok (.if_icmp .eq 5, 3) := getB' kX12_check_2 11 rfl
def LX12_check_3 : List (Nat × Instr × Nat) := [(62, .iload_n 2, 1), (63, .ireturn, 1), (64, .aload_n 0, 1), (65, .iload_n 2, 1), (66, .iconst 1, 1), (67, .iadd, 1), (68, .invokevirtual 765, 3), (71, .aload_n 0, 1), (72, .getfield 56, 3), (75, .iload_n 3, 1), (76, .iaload, 1), (77, .aload_n 0, 1)]
theorem kX12_check_3 : chkB cX12_check LX12_check_3 = true := by decide +kernel
theorem dX12_check_62 : decode cX12_check 62 = .ok (.iload_n 2, 1) := getB' kX12_check_3 0 rfl
theorem dX12_check_63 : decode cX12_check 63 = .ok (.ireturn, 1) := getB' kX12_check_3 1 rfl
theorem dX12_check_64 : decode cX12_check 64 = .ok (.aload_n 0, 1) := getB' kX12_check_3 2 rfl
theorem dX12_check_65 : decode cX12_check 65 = .ok (.iload_n 2, 1) := getB' kX12_check_3 3 rfl
theorem dX12_check_66 : decode cX12_check 66 = .ok (.iconst 1, 1) := getB' kX12_check_3 4 rfl
theorem dX12_check_67 : decode cX12_check 67 = .ok (.iadd, 1) := getB' kX12_check_3 5 rfl
theorem dX12_check_68 : decode cX12_check 68 = .ok (.invokevirtual 765, 3) := getB' kX12_check_3 6 rfl
theorem dX12_check_71 : decode cX12_check 71 = .ok (.aload_n 0, 1) := getB' kX12_check_3 7 rfl
theorem dX12_check_72 : decode cX12_check 72 = .ok (.getfield 56, 3) := getB' kX12_check_3 8 rfl
theorem dX12_check_75 : decode cX12_check 75 = .ok (.iload_n 3, 1) := getB' kX12_check_3 9 rfl
theorem dX12_check_76 : decode cX12_check 76 = .ok (.iaload, 1) := getB' kX12_check_3 10 rfl
theorem dX12_check_77 : decode cX12_check 77 = .ok (.aload_n 0, 1) := getB' kX12_check_3 11 rfl
def LX12_check_4 : List (Nat × Instr × Nat) := [(78, .getfield 59, 3), (81, .iload_n 3, 1), (82, .iaload, 1), (83, .iadd, 1), (84, .if_icmp .eq 7, 3), (87, .iload_n 2, 1), (88, .iconst 1, 1), (89, .iadd, 1), (90, .ireturn, 1), (91, .iload_n 2, 1), (92, .iconst 2, 1), (93, .iadd, 1)]
theorem kX12_check_4 : chkB cX12_check LX12_check_4 = true := by decide +kernel
theorem dX12_check_78 : decode cX12_check 78 = .ok (.getfield 59, 3) := getB' kX12_check_4 0 rfl
theorem dX12_check_81 : decode cX12_check 81 = .ok (.iload_n 3, 1) := getB' kX12_check_4 1 rfl
theorem dX12_check_82 : decode cX12_check 82 = .ok (.iaload, 1) := getB' kX12_check_4 2 rfl
theorem dX12_check_83 : decode cX12_check 83 = .ok (.iadd, 1) := getB' kX12_check_4 3 rfl
theorem dX12_check_84 : decode cX12_check 84 = .ok (.if_icmp .eq 7, 3) := getB' kX12_check_4 4 rfl
theorem dX12_check_87 : decode cX12_check 87 = .ok (.iload_n 2, 1) := getB' kX12_check_4 5 rfl
theorem dX12_check_88 : decode cX12_check 88 = .ok (.iconst 1, 1) := getB' kX12_check_4 6 rfl
theorem dX12_check_89 : decode cX12_check 89 = .ok (.iadd, 1) := getB' kX12_check_4 7 rfl
theorem dX12_check_90 : decode cX12_check 90 = .ok (.ireturn, 1) := getB' kX12_check_4 8 rfl
theorem dX12_check_91 : decode cX12_check 91 = .ok (.iload_n 2, 1) := getB' kX12_check_4 9 rfl
theorem dX12_check_92 : decode cX12_check 92 = .ok (.iconst 2, 1) := getB' kX12_check_4 10 rfl
theorem dX12_check_93 : decode cX12_check 93 = .ok (.iadd, 1) := getB' kX12_check_4 11 rfl
def LX12_check_5 : List (Nat × Instr × Nat) := [(94, .istore_n 2, 1), (95, .iinc 3 1, 3), (98, .goto (-71), 3), (101, .iload_n 2, 1), (102, .iconst 2, 1), (103, .iload_n 1, 1), (104, .imul, 1), (105, .if_icmp .ge 7, 3), (108, .iload_n 2, 1), (109, .goto 4, 3), (112, .iconst (-1), 1), (113, .ireturn, 1)]
theorem kX12_check_5 : chkB cX12_check LX12_check_5 = true := by decide +kernel
theorem dX12_check_94 : decode cX12_check 94 = .ok (.istore_n 2, 1) := getB' kX12_check_5 0 rfl
theorem dX12_check_95 : decode cX12_check 95 = .ok (.iinc 3 1, 3) := getB' kX12_check_5 1 rfl
theorem dX12_check_98 : decode cX12_check 98 = .ok (.goto (-71), 3) := getB' kX12_check_5 2 rfl
theorem dX12_check_101 : decode cX12_check 101 = .ok (.iload_n 2, 1) := getB' kX12_check_5 3 rfl
theorem dX12_check_102 : decode cX12_check 102 = .ok (.iconst 2, 1) := getB' kX12_check_5 4 rfl
theorem dX12_check_103 : decode cX12_check 103 = .ok (.iload_n 1, 1) := getB' kX12_check_5 5 rfl
theorem dX12_check_104 : decode cX12_check 104 = .ok (.imul, 1) := getB' kX12_check_5 6 rfl
theorem dX12_check_105 : decode cX12_check 105 = .ok (.if_icmp .ge 7, 3) := getB' kX12_check_5 7 rfl
theorem dX12_check_108 : decode cX12_check 108 = .ok (.iload_n 2, 1) := getB' kX12_check_5 8 rfl
theorem dX12_check_109 : decode cX12_check 109 = .ok (.goto 4, 3) := getB' kX12_check_5 9 rfl
theorem dX12_check_112 : decode cX12_check 112 = .ok (.iconst (-1), 1) := getB' kX12_check_5 10 rfl
theorem dX12_check_113 : decode cX12_check 113 = .ok (.ireturn, 1) := getB' kX12_check_5 11 rfl
def LX12_look_0 : List (Nat × Instr × Nat) := [(0, .iload_n 1, 1), (1, .ifCond .lt 11, 3), (4, .iload_n 1, 1), (5, .aload_n 0, 1), (6, .getfield 375, 3), (9, .if_icmp .lt 5, 3), (12, .iconst (-1), 1), (13, .ireturn, 1), (14, .iload_n 2, 1), (15, .tableswitch 120 0 5 #[37, 44, 51, 58, 65, 105], 37), (52, .aload_n 0, 1), (53, .getfield 35, 3)]
theorem kX12_look_0 : chkB cX12_look LX12_look_0 = true := by decide +kernel
theorem dX12_look_0 : decode cX12_look 0 = .ok (.iload_n 1, 1) := getB' kX12_look_0 0 rfl
theorem dX12_look_1 : decode cX12_look 1 = .ok (.ifCond .lt 11, 3) := getB' kX12_look_0 1 rfl
theorem dX12_look_4 : decode cX12_look 4 = .ok (.iload_n 1, 1) := getB' kX12_look_0 2 rfl
theorem dX12_look_5 : decode cX12_look 5 = .ok (.aload_n 0, 1) := getB' kX12_look_0 3 rfl
theorem dX12_look_6 : decode cX12_look 6 = .ok (.getfield 375, 3) := getB' kX12_look_0 4 rfl
theorem dX12_look_9 : decode cX12_look 9 = .ok (.if_icmp .lt 5, 3) := getB' kX12_look_0 5 rfl
theorem dX12_look_12 : decode cX12_look 12 = .ok (.iconst (-1), 1) := getB' kX12_look_0 6 rfl
theorem dX12_look_13 : decode cX12_look 13 = .ok (.ireturn, 1) := getB' kX12_look_0 7 rfl
theorem dX12_look_14 : decode cX12_look 14 = .ok (.iload_n 2, 1) := getB' kX12_look_0 8 rfl
theorem dX12_look_15 : decode cX12_look 15 = .ok (.tableswitch 120 0 5 #[37, 44, 51, 58, 65, 105], 37) := getB' kX12_look_0 9 rfl
theorem dX12_look_52 : decode cX12_look 52 = .ok (.aload_n 0, 1) := getB' kX12_look_0 10 rfl
theorem dX12_look_53 : decode cX12_look 53 = .ok (.getfield 35, 3) := getB' kX12_look_0 11 rfl
def LX12_look_1 : List (Nat × Instr × Nat) := [(56, .iload_n 1, 1), (57, .iaload, 1), (58, .ireturn, 1), (59, .aload_n 0, 1), (60, .getfield 38, 3), (63, .iload_n 1, 1), (64, .iaload, 1), (65, .ireturn, 1), (66, .aload_n 0, 1), (67, .getfield 41, 3), (70, .iload_n 1, 1), (71, .iaload, 1)]
theorem kX12_look_1 : chkB cX12_look LX12_look_1 = true := by decide +kernel
theorem dX12_look_56 : decode cX12_look 56 = .ok (.iload_n 1, 1) := getB' kX12_look_1 0 rfl
theorem dX12_look_57 : decode cX12_look 57 = .ok (.iaload, 1) := getB' kX12_look_1 1 rfl
theorem dX12_look_58 : decode cX12_look 58 = .ok (.ireturn, 1) := getB' kX12_look_1 2 rfl
theorem dX12_look_59 : decode cX12_look 59 = .ok (.aload_n 0, 1) := getB' kX12_look_1 3 rfl
theorem dX12_look_60 : decode cX12_look 60 = .ok (.getfield 38, 3) := getB' kX12_look_1 4 rfl
theorem dX12_look_63 : decode cX12_look 63 = .ok (.iload_n 1, 1) := getB' kX12_look_1 5 rfl
theorem dX12_look_64 : decode cX12_look 64 = .ok (.iaload, 1) := getB' kX12_look_1 6 rfl
theorem dX12_look_65 : decode cX12_look 65 = .ok (.ireturn, 1) := getB' kX12_look_1 7 rfl
theorem dX12_look_66 : decode cX12_look 66 = .ok (.aload_n 0, 1) := getB' kX12_look_1 8 rfl
theorem dX12_look_67 : decode cX12_look 67 = .ok (.getfield 41, 3) := getB' kX12_look_1 9 rfl
theorem dX12_look_70 : decode cX12_look 70 = .ok (.iload_n 1, 1) := getB' kX12_look_1 10 rfl
theorem dX12_look_71 : decode cX12_look 71 = .ok (.iaload, 1) := getB' kX12_look_1 11 rfl
def LX12_look_2 : List (Nat × Instr × Nat) := [(72, .ireturn, 1), (73, .aload_n 0, 1), (74, .getfield 44, 3), (77, .iload_n 1, 1), (78, .iaload, 1), (79, .ireturn, 1), (80, .aload_n 0, 1), (81, .getfield 35, 3), (84, .iload_n 1, 1), (85, .iaload, 1), (86, .ifCond .eq 23, 3), (89, .aload_n 0, 1)]
theorem kX12_look_2 : chkB cX12_look LX12_look_2 = true := by decide +kernel
theorem dX12_look_72 : decode cX12_look 72 = .ok (.ireturn, 1) := getB' kX12_look_2 0 rfl
theorem dX12_look_73 : decode cX12_look 73 = .ok (.aload_n 0, 1) := getB' kX12_look_2 1 rfl
theorem dX12_look_74 : decode cX12_look 74 = .ok (.getfield 44, 3) := getB' kX12_look_2 2 rfl
theorem dX12_look_77 : decode cX12_look 77 = .ok (.iload_n 1, 1) := getB' kX12_look_2 3 rfl
theorem dX12_look_78 : decode cX12_look 78 = .ok (.iaload, 1) := getB' kX12_look_2 4 rfl
theorem dX12_look_79 : decode cX12_look 79 = .ok (.ireturn, 1) := getB' kX12_look_2 5 rfl
theorem dX12_look_80 : decode cX12_look 80 = .ok (.aload_n 0, 1) := getB' kX12_look_2 6 rfl
theorem dX12_look_81 : decode cX12_look 81 = .ok (.getfield 35, 3) := getB' kX12_look_2 7 rfl
theorem dX12_look_84 : decode cX12_look 84 = .ok (.iload_n 1, 1) := getB' kX12_look_2 8 rfl
theorem dX12_look_85 : decode cX12_look 85 = .ok (.iaload, 1) := getB' kX12_look_2 9 rfl
theorem dX12_look_86 : decode cX12_look 86 = .ok (.ifCond .eq 23, 3) := getB' kX12_look_2 10 rfl
theorem dX12_look_89 : decode cX12_look 89 = .ok (.aload_n 0, 1) := getB' kX12_look_2 11 rfl
def LX12_look_3 : List (Nat × Instr × Nat) := [(90, .getfield 35, 3), (93, .iload_n 1, 1), (94, .iaload, 1), (95, .iconst 3, 1), (96, .if_icmp .eq 13, 3), (99, .aload_n 0, 1), (100, .getfield 35, 3), (103, .iload_n 1, 1), (104, .iaload, 1), (105, .iconst 2, 1), (106, .if_icmp .ne 12, 3), (109, .aload_n 0, 1)]
theorem kX12_look_3 : chkB cX12_look LX12_look_3 = true := by decide +kernel
theorem dX12_look_90 : decode cX12_look 90 = .ok (.getfield 35, 3) := getB' kX12_look_3 0 rfl
theorem dX12_look_93 : decode cX12_look 93 = .ok (.iload_n 1, 1) := getB' kX12_look_3 1 rfl
theorem dX12_look_94 : decode cX12_look 94 = .ok (.iaload, 1) := getB' kX12_look_3 2 rfl
theorem dX12_look_95 : decode cX12_look 95 = .ok (.iconst 3, 1) := getB' kX12_look_3 3 rfl
theorem dX12_look_96 : decode cX12_look 96 = .ok (.if_icmp .eq 13, 3) := getB' kX12_look_3 4 rfl
theorem dX12_look_99 : decode cX12_look 99 = .ok (.aload_n 0, 1) := getB' kX12_look_3 5 rfl
theorem dX12_look_100 : decode cX12_look 100 = .ok (.getfield 35, 3) := getB' kX12_look_3 6 rfl
theorem dX12_look_103 : decode cX12_look 103 = .ok (.iload_n 1, 1) := getB' kX12_look_3 7 rfl
theorem dX12_look_104 : decode cX12_look 104 = .ok (.iaload, 1) := getB' kX12_look_3 8 rfl
theorem dX12_look_105 : decode cX12_look 105 = .ok (.iconst 2, 1) := getB' kX12_look_3 9 rfl
theorem dX12_look_106 : decode cX12_look 106 = .ok (.if_icmp .ne 12, 3) := getB' kX12_look_3 10 rfl
theorem dX12_look_109 : decode cX12_look 109 = .ok (.aload_n 0, 1) := getB' kX12_look_3 11 rfl
def LX12_look_4 : List (Nat × Instr × Nat) := [(110, .getfield 47, 3), (113, .iload_n 1, 1), (114, .iaload, 1), (115, .goto 4, 3), (118, .iconst (-1), 1), (119, .ireturn, 1), (120, .aload_n 0, 1), (121, .getfield 80, 3), (124, .iload_n 1, 1), (125, .baload, 1), (126, .ifCond .eq 7, 3), (129, .iconst 1, 1)]
theorem kX12_look_4 : chkB cX12_look LX12_look_4 = true := by decide +kernel
theorem dX12_look_110 : decode cX12_look 110 = .ok (.getfield 47, 3) := getB' kX12_look_4 0 rfl
theorem dX12_look_113 : decode cX12_look 113 = .ok (.iload_n 1, 1) := getB' kX12_look_4 1 rfl
theorem dX12_look_114 : decode cX12_look 114 = .ok (.iaload, 1) := getB' kX12_look_4 2 rfl
theorem dX12_look_115 : decode cX12_look 115 = .ok (.goto 4, 3) := getB' kX12_look_4 3 rfl
theorem dX12_look_118 : decode cX12_look 118 = .ok (.iconst (-1), 1) := getB' kX12_look_4 4 rfl
theorem dX12_look_119 : decode cX12_look 119 = .ok (.ireturn, 1) := getB' kX12_look_4 5 rfl
theorem dX12_look_120 : decode cX12_look 120 = .ok (.aload_n 0, 1) := getB' kX12_look_4 6 rfl
theorem dX12_look_121 : decode cX12_look 121 = .ok (.getfield 80, 3) := getB' kX12_look_4 7 rfl
theorem dX12_look_124 : decode cX12_look 124 = .ok (.iload_n 1, 1) := getB' kX12_look_4 8 rfl
theorem dX12_look_125 : decode cX12_look 125 = .ok (.baload, 1) := getB' kX12_look_4 9 rfl
theorem dX12_look_126 : decode cX12_look 126 = .ok (.ifCond .eq 7, 3) := getB' kX12_look_4 10 rfl
theorem dX12_look_129 : decode cX12_look 129 = .ok (.iconst 1, 1) := getB' kX12_look_4 11 rfl
def LX12_look_5 : List (Nat × Instr × Nat) := [(130, .goto 4, 3), (133, .iconst 0, 1), (134, .ireturn, 1), (135, .aload_n 0, 1), (136, .getfield 35, 3), (139, .iload_n 1, 1), (140, .iaload, 1), (141, .iconst 1, 1), (142, .if_icmp .ne 12, 3), (145, .aload_n 0, 1), (146, .iload_n 1, 1), (147, .iload_n 2, 1)]
theorem kX12_look_5 : chkB cX12_look LX12_look_5 = true := by decide +kernel
theorem dX12_look_130 : decode cX12_look 130 = .ok (.goto 4, 3) := getB' kX12_look_5 0 rfl
theorem dX12_look_133 : decode cX12_look 133 = .ok (.iconst 0, 1) := getB' kX12_look_5 1 rfl
theorem dX12_look_134 : decode cX12_look 134 = .ok (.ireturn, 1) := getB' kX12_look_5 2 rfl
theorem dX12_look_135 : decode cX12_look 135 = .ok (.aload_n 0, 1) := getB' kX12_look_5 3 rfl
theorem dX12_look_136 : decode cX12_look 136 = .ok (.getfield 35, 3) := getB' kX12_look_5 4 rfl
theorem dX12_look_139 : decode cX12_look 139 = .ok (.iload_n 1, 1) := getB' kX12_look_5 5 rfl
theorem dX12_look_140 : decode cX12_look 140 = .ok (.iaload, 1) := getB' kX12_look_5 6 rfl
theorem dX12_look_141 : decode cX12_look 141 = .ok (.iconst 1, 1) := getB' kX12_look_5 7 rfl
theorem dX12_look_142 : decode cX12_look 142 = .ok (.if_icmp .ne 12, 3) := getB' kX12_look_5 8 rfl
theorem dX12_look_145 : decode cX12_look 145 = .ok (.aload_n 0, 1) := getB' kX12_look_5 9 rfl
theorem dX12_look_146 : decode cX12_look 146 = .ok (.iload_n 1, 1) := getB' kX12_look_5 10 rfl
theorem dX12_look_147 : decode cX12_look 147 = .ok (.iload_n 2, 1) := getB' kX12_look_5 11 rfl
def LX12_look_6 : List (Nat × Instr × Nat) := [(148, .invokevirtual 768, 3), (151, .goto 4, 3), (154, .iconst (-1), 1), (155, .ireturn, 1)]
theorem kX12_look_6 : chkB cX12_look LX12_look_6 = true := by decide +kernel
theorem dX12_look_148 : decode cX12_look 148 = .ok (.invokevirtual 768, 3) := getB' kX12_look_6 0 rfl
theorem dX12_look_151 : decode cX12_look 151 = .ok (.goto 4, 3) := getB' kX12_look_6 1 rfl
theorem dX12_look_154 : decode cX12_look 154 = .ok (.iconst (-1), 1) := getB' kX12_look_6 2 rfl
theorem dX12_look_155 : decode cX12_look 155 = .ok (.ireturn, 1) := getB' kX12_look_6 3 rfl
def LX12_lookAt_0 : List (Nat × Instr × Nat) := [(0, .iload_n 2, 1), (1, .tableswitch 89 6 13 #[47, 54, 61, 68, 75, 75, 75, 75], 47), (48, .aload_n 0, 1), (49, .getfield 53, 3), (52, .iload_n 1, 1), (53, .iaload, 1), (54, .ireturn, 1), (55, .aload_n 0, 1), (56, .getfield 56, 3), (59, .iload_n 1, 1), (60, .iaload, 1), (61, .ireturn, 1)]
theorem kX12_lookAt_0 : chkB cX12_lookAt LX12_lookAt_0 = true := by decide +kernel
theorem dX12_lookAt_0 : decode cX12_lookAt 0 = .ok (.iload_n 2, 1) := getB' kX12_lookAt_0 0 rfl
theorem dX12_lookAt_1 : decode cX12_lookAt 1 = .ok (.tableswitch 89 6 13 #[47, 54, 61, 68, 75, 75, 75, 75], 47) := getB' kX12_lookAt_0 1 rfl
theorem dX12_lookAt_48 : decode cX12_lookAt 48 = .ok (.aload_n 0, 1) := getB' kX12_lookAt_0 2 rfl
theorem dX12_lookAt_49 : decode cX12_lookAt 49 = .ok (.getfield 53, 3) := getB' kX12_lookAt_0 3 rfl
theorem dX12_lookAt_52 : decode cX12_lookAt 52 = .ok (.iload_n 1, 1) := getB' kX12_lookAt_0 4 rfl
theorem dX12_lookAt_53 : decode cX12_lookAt 53 = .ok (.iaload, 1) := getB' kX12_lookAt_0 5 rfl
theorem dX12_lookAt_54 : decode cX12_lookAt 54 = .ok (.ireturn, 1) := getB' kX12_lookAt_0 6 rfl
theorem dX12_lookAt_55 : decode cX12_lookAt 55 = .ok (.aload_n 0, 1) := getB' kX12_lookAt_0 7 rfl
theorem dX12_lookAt_56 : decode cX12_lookAt 56 = .ok (.getfield 56, 3) := getB' kX12_lookAt_0 8 rfl
theorem dX12_lookAt_59 : decode cX12_lookAt 59 = .ok (.iload_n 1, 1) := getB' kX12_lookAt_0 9 rfl
theorem dX12_lookAt_60 : decode cX12_lookAt 60 = .ok (.iaload, 1) := getB' kX12_lookAt_0 10 rfl
theorem dX12_lookAt_61 : decode cX12_lookAt 61 = .ok (.ireturn, 1) := getB' kX12_lookAt_0 11 rfl
def LX12_lookAt_1 : List (Nat × Instr × Nat) := [(62, .aload_n 0, 1), (63, .getfield 59, 3), (66, .iload_n 1, 1), (67, .iaload, 1), (68, .ireturn, 1), (69, .aload_n 0, 1), (70, .getfield 62, 3), (73, .iload_n 1, 1), (74, .iaload, 1), (75, .ireturn, 1), (76, .aload_n 0, 1), (77, .getfield 65, 3)]
theorem kX12_lookAt_1 : chkB cX12_lookAt LX12_lookAt_1 = true := by decide +kernel
theorem dX12_lookAt_62 : decode cX12_lookAt 62 = .ok (.aload_n 0, 1) := getB' kX12_lookAt_1 0 rfl
theorem dX12_lookAt_63 : decode cX12_lookAt 63 = .ok (.getfield 59, 3) := getB' kX12_lookAt_1 1 rfl
theorem dX12_lookAt_66 : decode cX12_lookAt 66 = .ok (.iload_n 1, 1) := getB' kX12_lookAt_1 2 rfl
theorem dX12_lookAt_67 : decode cX12_lookAt 67 = .ok (.iaload, 1) := getB' kX12_lookAt_1 3 rfl
theorem dX12_lookAt_68 : decode cX12_lookAt 68 = .ok (.ireturn, 1) := getB' kX12_lookAt_1 4 rfl
theorem dX12_lookAt_69 : decode cX12_lookAt 69 = .ok (.aload_n 0, 1) := getB' kX12_lookAt_1 5 rfl
theorem dX12_lookAt_70 : decode cX12_lookAt 70 = .ok (.getfield 62, 3) := getB' kX12_lookAt_1 6 rfl
theorem dX12_lookAt_73 : decode cX12_lookAt 73 = .ok (.iload_n 1, 1) := getB' kX12_lookAt_1 7 rfl
theorem dX12_lookAt_74 : decode cX12_lookAt 74 = .ok (.iaload, 1) := getB' kX12_lookAt_1 8 rfl
theorem dX12_lookAt_75 : decode cX12_lookAt 75 = .ok (.ireturn, 1) := getB' kX12_lookAt_1 9 rfl
theorem dX12_lookAt_76 : decode cX12_lookAt 76 = .ok (.aload_n 0, 1) := getB' kX12_lookAt_1 10 rfl
theorem dX12_lookAt_77 : decode cX12_lookAt 77 = .ok (.getfield 65, 3) := getB' kX12_lookAt_1 11 rfl
def LX12_lookAt_2 : List (Nat × Instr × Nat) := [(80, .iconst 4, 1), (81, .iload_n 1, 1), (82, .imul, 1), (83, .iload_n 2, 1), (84, .iadd, 1), (85, .bipush 10, 2), (87, .isub, 1), (88, .iaload, 1), (89, .ireturn, 1), (90, .iconst (-1), 1), (91, .ireturn, 1)]
theorem kX12_lookAt_2 : chkB cX12_lookAt LX12_lookAt_2 = true := by decide +kernel
theorem dX12_lookAt_80 : decode cX12_lookAt 80 = .ok (.iconst 4, 1) := getB' kX12_lookAt_2 0 rfl
theorem dX12_lookAt_81 : decode cX12_lookAt 81 = .ok (.iload_n 1, 1) := getB' kX12_lookAt_2 1 rfl
theorem dX12_lookAt_82 : decode cX12_lookAt 82 = .ok (.imul, 1) := getB' kX12_lookAt_2 2 rfl
theorem dX12_lookAt_83 : decode cX12_lookAt 83 = .ok (.iload_n 2, 1) := getB' kX12_lookAt_2 3 rfl
theorem dX12_lookAt_84 : decode cX12_lookAt 84 = .ok (.iadd, 1) := getB' kX12_lookAt_2 4 rfl
theorem dX12_lookAt_85 : decode cX12_lookAt 85 = .ok (.bipush 10, 2) := getB' kX12_lookAt_2 5 rfl
theorem dX12_lookAt_87 : decode cX12_lookAt 87 = .ok (.isub, 1) := getB' kX12_lookAt_2 6 rfl
theorem dX12_lookAt_88 : decode cX12_lookAt 88 = .ok (.iaload, 1) := getB' kX12_lookAt_2 7 rfl
theorem dX12_lookAt_89 : decode cX12_lookAt 89 = .ok (.ireturn, 1) := getB' kX12_lookAt_2 8 rfl
theorem dX12_lookAt_90 : decode cX12_lookAt 90 = .ok (.iconst (-1), 1) := getB' kX12_lookAt_2 9 rfl
theorem dX12_lookAt_91 : decode cX12_lookAt 91 = .ok (.ireturn, 1) := getB' kX12_lookAt_2 10 rfl
def LX12_at_0 : List (Nat × Instr × Nat) := [(0, .aload_n 0, 1), (1, .iload_n 1, 1), (2, .invokevirtual 618, 3), (5, .ifCond .ne 5, 3), (8, .iconst (-1), 1), (9, .ireturn, 1), (10, .iload_n 2, 1), (11, .tableswitch 68 0 4 #[33, 40, 47, 54, 61], 33), (44, .aload_n 0, 1), (45, .getfield 217, 3), (48, .iload_n 1, 1), (49, .iaload, 1)]
theorem kX12_at_0 : chkB cX12_at LX12_at_0 = true := by decide +kernel
theorem dX12_at_0 : decode cX12_at 0 = .ok (.aload_n 0, 1) := getB' kX12_at_0 0 rfl
theorem dX12_at_1 : decode cX12_at 1 = .ok (.iload_n 1, 1) := getB' kX12_at_0 1 rfl
theorem dX12_at_2 : decode cX12_at 2 = .ok (.invokevirtual 618, 3) := getB' kX12_at_0 2 rfl
theorem dX12_at_5 : decode cX12_at 5 = .ok (.ifCond .ne 5, 3) := getB' kX12_at_0 3 rfl
theorem dX12_at_8 : decode cX12_at 8 = .ok (.iconst (-1), 1) := getB' kX12_at_0 4 rfl
theorem dX12_at_9 : decode cX12_at 9 = .ok (.ireturn, 1) := getB' kX12_at_0 5 rfl
theorem dX12_at_10 : decode cX12_at 10 = .ok (.iload_n 2, 1) := getB' kX12_at_0 6 rfl
theorem dX12_at_11 : decode cX12_at 11 = .ok (.tableswitch 68 0 4 #[33, 40, 47, 54, 61], 33) := getB' kX12_at_0 7 rfl
theorem dX12_at_44 : decode cX12_at 44 = .ok (.aload_n 0, 1) := getB' kX12_at_0 8 rfl
theorem dX12_at_45 : decode cX12_at 45 = .ok (.getfield 217, 3) := getB' kX12_at_0 9 rfl
theorem dX12_at_48 : decode cX12_at 48 = .ok (.iload_n 1, 1) := getB' kX12_at_0 10 rfl
theorem dX12_at_49 : decode cX12_at 49 = .ok (.iaload, 1) := getB' kX12_at_0 11 rfl
def LX12_at_1 : List (Nat × Instr × Nat) := [(50, .ireturn, 1), (51, .aload_n 0, 1), (52, .getfield 220, 3), (55, .iload_n 1, 1), (56, .iaload, 1), (57, .ireturn, 1), (58, .aload_n 0, 1), (59, .getfield 223, 3), (62, .iload_n 1, 1), (63, .iaload, 1), (64, .ireturn, 1), (65, .aload_n 0, 1)]
theorem kX12_at_1 : chkB cX12_at LX12_at_1 = true := by decide +kernel
theorem dX12_at_50 : decode cX12_at 50 = .ok (.ireturn, 1) := getB' kX12_at_1 0 rfl
theorem dX12_at_51 : decode cX12_at 51 = .ok (.aload_n 0, 1) := getB' kX12_at_1 1 rfl
theorem dX12_at_52 : decode cX12_at 52 = .ok (.getfield 220, 3) := getB' kX12_at_1 2 rfl
theorem dX12_at_55 : decode cX12_at 55 = .ok (.iload_n 1, 1) := getB' kX12_at_1 3 rfl
theorem dX12_at_56 : decode cX12_at 56 = .ok (.iaload, 1) := getB' kX12_at_1 4 rfl
theorem dX12_at_57 : decode cX12_at 57 = .ok (.ireturn, 1) := getB' kX12_at_1 5 rfl
theorem dX12_at_58 : decode cX12_at 58 = .ok (.aload_n 0, 1) := getB' kX12_at_1 6 rfl
theorem dX12_at_59 : decode cX12_at 59 = .ok (.getfield 223, 3) := getB' kX12_at_1 7 rfl
theorem dX12_at_62 : decode cX12_at 62 = .ok (.iload_n 1, 1) := getB' kX12_at_1 8 rfl
theorem dX12_at_63 : decode cX12_at 63 = .ok (.iaload, 1) := getB' kX12_at_1 9 rfl
theorem dX12_at_64 : decode cX12_at 64 = .ok (.ireturn, 1) := getB' kX12_at_1 10 rfl
theorem dX12_at_65 : decode cX12_at 65 = .ok (.aload_n 0, 1) := getB' kX12_at_1 11 rfl
def LX12_at_2 : List (Nat × Instr × Nat) := [(66, .getfield 226, 3), (69, .iload_n 1, 1), (70, .iaload, 1), (71, .ireturn, 1), (72, .aload_n 0, 1), (73, .getfield 229, 3), (76, .iload_n 1, 1), (77, .iaload, 1), (78, .ireturn, 1), (79, .iconst (-1), 1), (80, .ireturn, 1)]
theorem kX12_at_2 : chkB cX12_at LX12_at_2 = true := by decide +kernel
theorem dX12_at_66 : decode cX12_at 66 = .ok (.getfield 226, 3) := getB' kX12_at_2 0 rfl
theorem dX12_at_69 : decode cX12_at 69 = .ok (.iload_n 1, 1) := getB' kX12_at_2 1 rfl
theorem dX12_at_70 : decode cX12_at 70 = .ok (.iaload, 1) := getB' kX12_at_2 2 rfl
theorem dX12_at_71 : decode cX12_at 71 = .ok (.ireturn, 1) := getB' kX12_at_2 3 rfl
theorem dX12_at_72 : decode cX12_at 72 = .ok (.aload_n 0, 1) := getB' kX12_at_2 4 rfl
theorem dX12_at_73 : decode cX12_at 73 = .ok (.getfield 229, 3) := getB' kX12_at_2 5 rfl
theorem dX12_at_76 : decode cX12_at 76 = .ok (.iload_n 1, 1) := getB' kX12_at_2 6 rfl
theorem dX12_at_77 : decode cX12_at 77 = .ok (.iaload, 1) := getB' kX12_at_2 7 rfl
theorem dX12_at_78 : decode cX12_at 78 = .ok (.ireturn, 1) := getB' kX12_at_2 8 rfl
theorem dX12_at_79 : decode cX12_at 79 = .ok (.iconst (-1), 1) := getB' kX12_at_2 9 rfl
theorem dX12_at_80 : decode cX12_at 80 = .ok (.ireturn, 1) := getB' kX12_at_2 10 rfl
def LX12_about_0 : List (Nat × Instr × Nat) := [(0, .aload_n 0, 1), (1, .iload_n 1, 1), (2, .invokevirtual 566, 3), (5, .ifCond .ne 5, 3), (8, .iconst (-1), 1), (9, .ireturn, 1), (10, .iload_n 2, 1), (11, .tableswitch 134 0 10 #[57, 64, 71, 78, 85, 92, 99, 106, 113, 120, 127], 57), (68, .aload_n 0, 1), (69, .getfield 163, 3), (72, .iload_n 1, 1), (73, .iaload, 1)]
theorem kX12_about_0 : chkB cX12_about LX12_about_0 = true := by decide +kernel
theorem dX12_about_0 : decode cX12_about 0 = .ok (.aload_n 0, 1) := getB' kX12_about_0 0 rfl
theorem dX12_about_1 : decode cX12_about 1 = .ok (.iload_n 1, 1) := getB' kX12_about_0 1 rfl
theorem dX12_about_2 : decode cX12_about 2 = .ok (.invokevirtual 566, 3) := getB' kX12_about_0 2 rfl
theorem dX12_about_5 : decode cX12_about 5 = .ok (.ifCond .ne 5, 3) := getB' kX12_about_0 3 rfl
theorem dX12_about_8 : decode cX12_about 8 = .ok (.iconst (-1), 1) := getB' kX12_about_0 4 rfl
theorem dX12_about_9 : decode cX12_about 9 = .ok (.ireturn, 1) := getB' kX12_about_0 5 rfl
theorem dX12_about_10 : decode cX12_about 10 = .ok (.iload_n 2, 1) := getB' kX12_about_0 6 rfl
theorem dX12_about_11 : decode cX12_about 11 = .ok (.tableswitch 134 0 10 #[57, 64, 71, 78, 85, 92, 99, 106, 113, 120, 127], 57) := getB' kX12_about_0 7 rfl
theorem dX12_about_68 : decode cX12_about 68 = .ok (.aload_n 0, 1) := getB' kX12_about_0 8 rfl
theorem dX12_about_69 : decode cX12_about 69 = .ok (.getfield 163, 3) := getB' kX12_about_0 9 rfl
theorem dX12_about_72 : decode cX12_about 72 = .ok (.iload_n 1, 1) := getB' kX12_about_0 10 rfl
theorem dX12_about_73 : decode cX12_about 73 = .ok (.iaload, 1) := getB' kX12_about_0 11 rfl
def LX12_about_1 : List (Nat × Instr × Nat) := [(74, .ireturn, 1), (75, .aload_n 0, 1), (76, .getfield 166, 3), (79, .iload_n 1, 1), (80, .iaload, 1), (81, .ireturn, 1), (82, .aload_n 0, 1), (83, .getfield 169, 3), (86, .iload_n 1, 1), (87, .iaload, 1), (88, .ireturn, 1), (89, .aload_n 0, 1)]
theorem kX12_about_1 : chkB cX12_about LX12_about_1 = true := by decide +kernel
theorem dX12_about_74 : decode cX12_about 74 = .ok (.ireturn, 1) := getB' kX12_about_1 0 rfl
theorem dX12_about_75 : decode cX12_about 75 = .ok (.aload_n 0, 1) := getB' kX12_about_1 1 rfl
theorem dX12_about_76 : decode cX12_about 76 = .ok (.getfield 166, 3) := getB' kX12_about_1 2 rfl
theorem dX12_about_79 : decode cX12_about 79 = .ok (.iload_n 1, 1) := getB' kX12_about_1 3 rfl
theorem dX12_about_80 : decode cX12_about 80 = .ok (.iaload, 1) := getB' kX12_about_1 4 rfl
theorem dX12_about_81 : decode cX12_about 81 = .ok (.ireturn, 1) := getB' kX12_about_1 5 rfl
theorem dX12_about_82 : decode cX12_about 82 = .ok (.aload_n 0, 1) := getB' kX12_about_1 6 rfl
theorem dX12_about_83 : decode cX12_about 83 = .ok (.getfield 169, 3) := getB' kX12_about_1 7 rfl
theorem dX12_about_86 : decode cX12_about 86 = .ok (.iload_n 1, 1) := getB' kX12_about_1 8 rfl
theorem dX12_about_87 : decode cX12_about 87 = .ok (.iaload, 1) := getB' kX12_about_1 9 rfl
theorem dX12_about_88 : decode cX12_about 88 = .ok (.ireturn, 1) := getB' kX12_about_1 10 rfl
theorem dX12_about_89 : decode cX12_about 89 = .ok (.aload_n 0, 1) := getB' kX12_about_1 11 rfl
def LX12_about_2 : List (Nat × Instr × Nat) := [(90, .getfield 172, 3), (93, .iload_n 1, 1), (94, .iaload, 1), (95, .ireturn, 1), (96, .aload_n 0, 1), (97, .getfield 175, 3), (100, .iload_n 1, 1), (101, .iaload, 1), (102, .ireturn, 1), (103, .aload_n 0, 1), (104, .getfield 184, 3), (107, .iload_n 1, 1)]
theorem kX12_about_2 : chkB cX12_about LX12_about_2 = true := by decide +kernel
theorem dX12_about_90 : decode cX12_about 90 = .ok (.getfield 172, 3) := getB' kX12_about_2 0 rfl
theorem dX12_about_93 : decode cX12_about 93 = .ok (.iload_n 1, 1) := getB' kX12_about_2 1 rfl
theorem dX12_about_94 : decode cX12_about 94 = .ok (.iaload, 1) := getB' kX12_about_2 2 rfl
theorem dX12_about_95 : decode cX12_about 95 = .ok (.ireturn, 1) := getB' kX12_about_2 3 rfl
theorem dX12_about_96 : decode cX12_about 96 = .ok (.aload_n 0, 1) := getB' kX12_about_2 4 rfl
theorem dX12_about_97 : decode cX12_about 97 = .ok (.getfield 175, 3) := getB' kX12_about_2 5 rfl
theorem dX12_about_100 : decode cX12_about 100 = .ok (.iload_n 1, 1) := getB' kX12_about_2 6 rfl
theorem dX12_about_101 : decode cX12_about 101 = .ok (.iaload, 1) := getB' kX12_about_2 7 rfl
theorem dX12_about_102 : decode cX12_about 102 = .ok (.ireturn, 1) := getB' kX12_about_2 8 rfl
theorem dX12_about_103 : decode cX12_about 103 = .ok (.aload_n 0, 1) := getB' kX12_about_2 9 rfl
theorem dX12_about_104 : decode cX12_about 104 = .ok (.getfield 184, 3) := getB' kX12_about_2 10 rfl
theorem dX12_about_107 : decode cX12_about 107 = .ok (.iload_n 1, 1) := getB' kX12_about_2 11 rfl
def LX12_about_3 : List (Nat × Instr × Nat) := [(108, .iaload, 1), (109, .ireturn, 1), (110, .aload_n 0, 1), (111, .getfield 187, 3), (114, .iload_n 1, 1), (115, .iaload, 1), (116, .ireturn, 1), (117, .aload_n 0, 1), (118, .getfield 190, 3), (121, .iload_n 1, 1), (122, .iaload, 1), (123, .ireturn, 1)]
theorem kX12_about_3 : chkB cX12_about LX12_about_3 = true := by decide +kernel
theorem dX12_about_108 : decode cX12_about 108 = .ok (.iaload, 1) := getB' kX12_about_3 0 rfl
theorem dX12_about_109 : decode cX12_about 109 = .ok (.ireturn, 1) := getB' kX12_about_3 1 rfl
theorem dX12_about_110 : decode cX12_about 110 = .ok (.aload_n 0, 1) := getB' kX12_about_3 2 rfl
theorem dX12_about_111 : decode cX12_about 111 = .ok (.getfield 187, 3) := getB' kX12_about_3 3 rfl
theorem dX12_about_114 : decode cX12_about 114 = .ok (.iload_n 1, 1) := getB' kX12_about_3 4 rfl
theorem dX12_about_115 : decode cX12_about 115 = .ok (.iaload, 1) := getB' kX12_about_3 5 rfl
theorem dX12_about_116 : decode cX12_about 116 = .ok (.ireturn, 1) := getB' kX12_about_3 6 rfl
theorem dX12_about_117 : decode cX12_about 117 = .ok (.aload_n 0, 1) := getB' kX12_about_3 7 rfl
theorem dX12_about_118 : decode cX12_about 118 = .ok (.getfield 190, 3) := getB' kX12_about_3 8 rfl
theorem dX12_about_121 : decode cX12_about 121 = .ok (.iload_n 1, 1) := getB' kX12_about_3 9 rfl
theorem dX12_about_122 : decode cX12_about 122 = .ok (.iaload, 1) := getB' kX12_about_3 10 rfl
theorem dX12_about_123 : decode cX12_about 123 = .ok (.ireturn, 1) := getB' kX12_about_3 11 rfl
def LX12_about_4 : List (Nat × Instr × Nat) := [(124, .aload_n 0, 1), (125, .getfield 193, 3), (128, .iload_n 1, 1), (129, .iaload, 1), (130, .ireturn, 1), (131, .aload_n 0, 1), (132, .getfield 196, 3), (135, .iload_n 1, 1), (136, .iaload, 1), (137, .ireturn, 1), (138, .aload_n 0, 1), (139, .getfield 199, 3)]
theorem kX12_about_4 : chkB cX12_about LX12_about_4 = true := by decide +kernel
theorem dX12_about_124 : decode cX12_about 124 = .ok (.aload_n 0, 1) := getB' kX12_about_4 0 rfl
theorem dX12_about_125 : decode cX12_about 125 = .ok (.getfield 193, 3) := getB' kX12_about_4 1 rfl
theorem dX12_about_128 : decode cX12_about 128 = .ok (.iload_n 1, 1) := getB' kX12_about_4 2 rfl
theorem dX12_about_129 : decode cX12_about 129 = .ok (.iaload, 1) := getB' kX12_about_4 3 rfl
theorem dX12_about_130 : decode cX12_about 130 = .ok (.ireturn, 1) := getB' kX12_about_4 4 rfl
theorem dX12_about_131 : decode cX12_about 131 = .ok (.aload_n 0, 1) := getB' kX12_about_4 5 rfl
theorem dX12_about_132 : decode cX12_about 132 = .ok (.getfield 196, 3) := getB' kX12_about_4 6 rfl
theorem dX12_about_135 : decode cX12_about 135 = .ok (.iload_n 1, 1) := getB' kX12_about_4 7 rfl
theorem dX12_about_136 : decode cX12_about 136 = .ok (.iaload, 1) := getB' kX12_about_4 8 rfl
theorem dX12_about_137 : decode cX12_about 137 = .ok (.ireturn, 1) := getB' kX12_about_4 9 rfl
theorem dX12_about_138 : decode cX12_about 138 = .ok (.aload_n 0, 1) := getB' kX12_about_4 10 rfl
theorem dX12_about_139 : decode cX12_about 139 = .ok (.getfield 199, 3) := getB' kX12_about_4 11 rfl
def LX12_about_5 : List (Nat × Instr × Nat) := [(142, .iload_n 1, 1), (143, .iaload, 1), (144, .ireturn, 1), (145, .iconst (-1), 1), (146, .ireturn, 1)]
theorem kX12_about_5 : chkB cX12_about LX12_about_5 = true := by decide +kernel
theorem dX12_about_142 : decode cX12_about 142 = .ok (.iload_n 1, 1) := getB' kX12_about_5 0 rfl
theorem dX12_about_143 : decode cX12_about 143 = .ok (.iaload, 1) := getB' kX12_about_5 1 rfl
theorem dX12_about_144 : decode cX12_about 144 = .ok (.ireturn, 1) := getB' kX12_about_5 2 rfl
theorem dX12_about_145 : decode cX12_about 145 = .ok (.iconst (-1), 1) := getB' kX12_about_5 3 rfl
theorem dX12_about_146 : decode cX12_about 146 = .ok (.ireturn, 1) := getB' kX12_about_5 4 rfl
def LX12_sum_0 : List (Nat × Instr × Nat) := [(0, .iload_n 1, 1), (1, .tableswitch 87 0 7 #[47, 52, 57, 62, 67, 72, 77, 82], 47), (48, .aload_n 0, 1), (49, .getfield 429, 3), (52, .lreturn, 1), (53, .aload_n 0, 1), (54, .getfield 654, 3), (57, .lreturn, 1), (58, .aload_n 0, 1), (59, .getfield 657, 3), (62, .lreturn, 1), (63, .aload_n 0, 1)]
theorem kX12_sum_0 : chkB cX12_sum LX12_sum_0 = true := by decide +kernel
theorem dX12_sum_0 : decode cX12_sum 0 = .ok (.iload_n 1, 1) := getB' kX12_sum_0 0 rfl
theorem dX12_sum_1 : decode cX12_sum 1 = .ok (.tableswitch 87 0 7 #[47, 52, 57, 62, 67, 72, 77, 82], 47) := getB' kX12_sum_0 1 rfl
theorem dX12_sum_48 : decode cX12_sum 48 = .ok (.aload_n 0, 1) := getB' kX12_sum_0 2 rfl
theorem dX12_sum_49 : decode cX12_sum 49 = .ok (.getfield 429, 3) := getB' kX12_sum_0 3 rfl
theorem dX12_sum_52 : decode cX12_sum 52 = .ok (.lreturn, 1) := getB' kX12_sum_0 4 rfl
theorem dX12_sum_53 : decode cX12_sum 53 = .ok (.aload_n 0, 1) := getB' kX12_sum_0 5 rfl
theorem dX12_sum_54 : decode cX12_sum 54 = .ok (.getfield 654, 3) := getB' kX12_sum_0 6 rfl
theorem dX12_sum_57 : decode cX12_sum 57 = .ok (.lreturn, 1) := getB' kX12_sum_0 7 rfl
theorem dX12_sum_58 : decode cX12_sum 58 = .ok (.aload_n 0, 1) := getB' kX12_sum_0 8 rfl
theorem dX12_sum_59 : decode cX12_sum 59 = .ok (.getfield 657, 3) := getB' kX12_sum_0 9 rfl
theorem dX12_sum_62 : decode cX12_sum 62 = .ok (.lreturn, 1) := getB' kX12_sum_0 10 rfl
theorem dX12_sum_63 : decode cX12_sum 63 = .ok (.aload_n 0, 1) := getB' kX12_sum_0 11 rfl
def LX12_sum_1 : List (Nat × Instr × Nat) := [(64, .getfield 632, 3), (67, .lreturn, 1), (68, .aload_n 0, 1), (69, .getfield 679, 3), (72, .lreturn, 1), (73, .aload_n 0, 1), (74, .getfield 682, 3), (77, .lreturn, 1), (78, .aload_n 0, 1), (79, .getfield 635, 3), (82, .lreturn, 1), (83, .aload_n 0, 1)]
theorem kX12_sum_1 : chkB cX12_sum LX12_sum_1 = true := by decide +kernel
theorem dX12_sum_64 : decode cX12_sum 64 = .ok (.getfield 632, 3) := getB' kX12_sum_1 0 rfl
theorem dX12_sum_67 : decode cX12_sum 67 = .ok (.lreturn, 1) := getB' kX12_sum_1 1 rfl
theorem dX12_sum_68 : decode cX12_sum 68 = .ok (.aload_n 0, 1) := getB' kX12_sum_1 2 rfl
theorem dX12_sum_69 : decode cX12_sum 69 = .ok (.getfield 679, 3) := getB' kX12_sum_1 3 rfl
theorem dX12_sum_72 : decode cX12_sum 72 = .ok (.lreturn, 1) := getB' kX12_sum_1 4 rfl
theorem dX12_sum_73 : decode cX12_sum 73 = .ok (.aload_n 0, 1) := getB' kX12_sum_1 5 rfl
theorem dX12_sum_74 : decode cX12_sum 74 = .ok (.getfield 682, 3) := getB' kX12_sum_1 6 rfl
theorem dX12_sum_77 : decode cX12_sum 77 = .ok (.lreturn, 1) := getB' kX12_sum_1 7 rfl
theorem dX12_sum_78 : decode cX12_sum 78 = .ok (.aload_n 0, 1) := getB' kX12_sum_1 8 rfl
theorem dX12_sum_79 : decode cX12_sum 79 = .ok (.getfield 635, 3) := getB' kX12_sum_1 9 rfl
theorem dX12_sum_82 : decode cX12_sum 82 = .ok (.lreturn, 1) := getB' kX12_sum_1 10 rfl
theorem dX12_sum_83 : decode cX12_sum 83 = .ok (.aload_n 0, 1) := getB' kX12_sum_1 11 rfl
def LX12_sum_2 : List (Nat × Instr × Nat) := [(84, .getfield 673, 3), (87, .lreturn, 1), (88, .iload_n 1, 1), (89, .bipush 10, 2), (91, .bipush 9, 2), (93, .aload_n 0, 1), (94, .getfield 393, 3), (97, .iadd, 1), (98, .invokestatic 371, 3), (101, .ifCond .eq 14, 3), (104, .aload_n 0, 1), (105, .getfield 32, 3)]
theorem kX12_sum_2 : chkB cX12_sum LX12_sum_2 = true := by decide +kernel
theorem dX12_sum_84 : decode cX12_sum 84 = .ok (.getfield 673, 3) := getB' kX12_sum_2 0 rfl
theorem dX12_sum_87 : decode cX12_sum 87 = .ok (.lreturn, 1) := getB' kX12_sum_2 1 rfl
theorem dX12_sum_88 : decode cX12_sum 88 = .ok (.iload_n 1, 1) := getB' kX12_sum_2 2 rfl
theorem dX12_sum_89 : decode cX12_sum 89 = .ok (.bipush 10, 2) := getB' kX12_sum_2 3 rfl
theorem dX12_sum_91 : decode cX12_sum 91 = .ok (.bipush 9, 2) := getB' kX12_sum_2 4 rfl
theorem dX12_sum_93 : decode cX12_sum 93 = .ok (.aload_n 0, 1) := getB' kX12_sum_2 5 rfl
theorem dX12_sum_94 : decode cX12_sum 94 = .ok (.getfield 393, 3) := getB' kX12_sum_2 6 rfl
theorem dX12_sum_97 : decode cX12_sum 97 = .ok (.iadd, 1) := getB' kX12_sum_2 7 rfl
theorem dX12_sum_98 : decode cX12_sum 98 = .ok (.invokestatic 371, 3) := getB' kX12_sum_2 8 rfl
theorem dX12_sum_101 : decode cX12_sum 101 = .ok (.ifCond .eq 14, 3) := getB' kX12_sum_2 9 rfl
theorem dX12_sum_104 : decode cX12_sum 104 = .ok (.aload_n 0, 1) := getB' kX12_sum_2 10 rfl
theorem dX12_sum_105 : decode cX12_sum 105 = .ok (.getfield 32, 3) := getB' kX12_sum_2 11 rfl
def LX12_sum_3 : List (Nat × Instr × Nat) := [(108, .iload_n 1, 1), (109, .bipush 10, 2), (111, .isub, 1), (112, .iaload, 1), (113, .i2l, 1), (114, .lreturn, 1), (115, .iload_n 1, 1), (116, .bipush 20, 2), (118, .bipush 19, 2), (120, .aload_n 0, 1), (121, .getfield 667, 3), (124, .iadd, 1)]
theorem kX12_sum_3 : chkB cX12_sum LX12_sum_3 = true := by decide +kernel
theorem dX12_sum_108 : decode cX12_sum 108 = .ok (.iload_n 1, 1) := getB' kX12_sum_3 0 rfl
theorem dX12_sum_109 : decode cX12_sum 109 = .ok (.bipush 10, 2) := getB' kX12_sum_3 1 rfl
theorem dX12_sum_111 : decode cX12_sum 111 = .ok (.isub, 1) := getB' kX12_sum_3 2 rfl
theorem dX12_sum_112 : decode cX12_sum 112 = .ok (.iaload, 1) := getB' kX12_sum_3 3 rfl
theorem dX12_sum_113 : decode cX12_sum 113 = .ok (.i2l, 1) := getB' kX12_sum_3 4 rfl
theorem dX12_sum_114 : decode cX12_sum 114 = .ok (.lreturn, 1) := getB' kX12_sum_3 5 rfl
theorem dX12_sum_115 : decode cX12_sum 115 = .ok (.iload_n 1, 1) := getB' kX12_sum_3 6 rfl
theorem dX12_sum_116 : decode cX12_sum 116 = .ok (.bipush 20, 2) := getB' kX12_sum_3 7 rfl
theorem dX12_sum_118 : decode cX12_sum 118 = .ok (.bipush 19, 2) := getB' kX12_sum_3 8 rfl
theorem dX12_sum_120 : decode cX12_sum 120 = .ok (.aload_n 0, 1) := getB' kX12_sum_3 9 rfl
theorem dX12_sum_121 : decode cX12_sum 121 = .ok (.getfield 667, 3) := getB' kX12_sum_3 10 rfl
theorem dX12_sum_124 : decode cX12_sum 124 = .ok (.iadd, 1) := getB' kX12_sum_3 11 rfl
def LX12_sum_4 : List (Nat × Instr × Nat) := [(125, .invokestatic 371, 3), (128, .ifCond .eq 16, 3), (131, .aload_n 0, 1), (132, .getfield 298, 3), (135, .iload_n 1, 1), (136, .bipush 20, 2), (138, .isub, 1), (139, .iaload, 1), (140, .i2l, 1), (141, .goto 6, 3), (144, .ldc2_w 771, 3), (147, .lreturn, 1)]
theorem kX12_sum_4 : chkB cX12_sum LX12_sum_4 = true := by decide +kernel
theorem dX12_sum_125 : decode cX12_sum 125 = .ok (.invokestatic 371, 3) := getB' kX12_sum_4 0 rfl
theorem dX12_sum_128 : decode cX12_sum 128 = .ok (.ifCond .eq 16, 3) := getB' kX12_sum_4 1 rfl
theorem dX12_sum_131 : decode cX12_sum 131 = .ok (.aload_n 0, 1) := getB' kX12_sum_4 2 rfl
theorem dX12_sum_132 : decode cX12_sum 132 = .ok (.getfield 298, 3) := getB' kX12_sum_4 3 rfl
theorem dX12_sum_135 : decode cX12_sum 135 = .ok (.iload_n 1, 1) := getB' kX12_sum_4 4 rfl
theorem dX12_sum_136 : decode cX12_sum 136 = .ok (.bipush 20, 2) := getB' kX12_sum_4 5 rfl
theorem dX12_sum_138 : decode cX12_sum 138 = .ok (.isub, 1) := getB' kX12_sum_4 6 rfl
theorem dX12_sum_139 : decode cX12_sum 139 = .ok (.iaload, 1) := getB' kX12_sum_4 7 rfl
theorem dX12_sum_140 : decode cX12_sum 140 = .ok (.i2l, 1) := getB' kX12_sum_4 8 rfl
theorem dX12_sum_141 : decode cX12_sum 141 = .ok (.goto 6, 3) := getB' kX12_sum_4 9 rfl
theorem dX12_sum_144 : decode cX12_sum 144 = .ok (.ldc2_w 771, 3) := getB' kX12_sum_4 10 rfl
theorem dX12_sum_147 : decode cX12_sum 147 = .ok (.lreturn, 1) := getB' kX12_sum_4 11 rfl
def LX12_count_0 : List (Nat × Instr × Nat) := [(0, .iconst 0, 1), (1, .istore_n 2, 1), (2, .iload_n 1, 1), (3, .tableswitch 196 0 16 #[81, 86, 91, 96, 101, 106, 111, 116, 121, 126, 161, 166, 171, 176, 181, 186, 191], 81), (84, .aload_n 0, 1), (85, .getfield 396, 3), (88, .ireturn, 1), (89, .aload_n 0, 1), (90, .getfield 365, 3), (93, .ireturn, 1), (94, .aload_n 0, 1), (95, .getfield 368, 3)]
theorem kX12_count_0 : chkB cX12_count LX12_count_0 = true := by decide +kernel
theorem dX12_count_0 : decode cX12_count 0 = .ok (.iconst 0, 1) := getB' kX12_count_0 0 rfl
theorem dX12_count_1 : decode cX12_count 1 = .ok (.istore_n 2, 1) := getB' kX12_count_0 1 rfl
theorem dX12_count_2 : decode cX12_count 2 = .ok (.iload_n 1, 1) := getB' kX12_count_0 2 rfl
theorem dX12_count_3 : decode cX12_count 3 = .ok (.tableswitch 196 0 16 #[81, 86, 91, 96, 101, 106, 111, 116, 121, 126, 161, 166, 171, 176, 181, 186, 191], 81) := getB' kX12_count_0 3 rfl
theorem dX12_count_84 : decode cX12_count 84 = .ok (.aload_n 0, 1) := getB' kX12_count_0 4 rfl
theorem dX12_count_85 : decode cX12_count 85 = .ok (.getfield 396, 3) := getB' kX12_count_0 5 rfl
theorem dX12_count_88 : decode cX12_count 88 = .ok (.ireturn, 1) := getB' kX12_count_0 6 rfl
theorem dX12_count_89 : decode cX12_count 89 = .ok (.aload_n 0, 1) := getB' kX12_count_0 7 rfl
theorem dX12_count_90 : decode cX12_count 90 = .ok (.getfield 365, 3) := getB' kX12_count_0 8 rfl
theorem dX12_count_93 : decode cX12_count 93 = .ok (.ireturn, 1) := getB' kX12_count_0 9 rfl
theorem dX12_count_94 : decode cX12_count 94 = .ok (.aload_n 0, 1) := getB' kX12_count_0 10 rfl
theorem dX12_count_95 : decode cX12_count 95 = .ok (.getfield 368, 3) := getB' kX12_count_0 11 rfl
def LX12_count_1 : List (Nat × Instr × Nat) := [(98, .ireturn, 1), (99, .aload_n 0, 1), (100, .getfield 393, 3), (103, .ireturn, 1), (104, .aload_n 0, 1), (105, .getfield 375, 3), (108, .ireturn, 1), (109, .aload_n 0, 1), (110, .getfield 535, 3), (113, .ireturn, 1), (114, .aload_n 0, 1), (115, .getfield 547, 3)]
theorem kX12_count_1 : chkB cX12_count LX12_count_1 = true := by decide +kernel
theorem dX12_count_98 : decode cX12_count 98 = .ok (.ireturn, 1) := getB' kX12_count_1 0 rfl
theorem dX12_count_99 : decode cX12_count 99 = .ok (.aload_n 0, 1) := getB' kX12_count_1 1 rfl
theorem dX12_count_100 : decode cX12_count 100 = .ok (.getfield 393, 3) := getB' kX12_count_1 2 rfl
theorem dX12_count_103 : decode cX12_count 103 = .ok (.ireturn, 1) := getB' kX12_count_1 3 rfl
theorem dX12_count_104 : decode cX12_count 104 = .ok (.aload_n 0, 1) := getB' kX12_count_1 4 rfl
theorem dX12_count_105 : decode cX12_count 105 = .ok (.getfield 375, 3) := getB' kX12_count_1 5 rfl
theorem dX12_count_108 : decode cX12_count 108 = .ok (.ireturn, 1) := getB' kX12_count_1 6 rfl
theorem dX12_count_109 : decode cX12_count 109 = .ok (.aload_n 0, 1) := getB' kX12_count_1 7 rfl
theorem dX12_count_110 : decode cX12_count 110 = .ok (.getfield 535, 3) := getB' kX12_count_1 8 rfl
theorem dX12_count_113 : decode cX12_count 113 = .ok (.ireturn, 1) := getB' kX12_count_1 9 rfl
theorem dX12_count_114 : decode cX12_count 114 = .ok (.aload_n 0, 1) := getB' kX12_count_1 10 rfl
theorem dX12_count_115 : decode cX12_count 115 = .ok (.getfield 547, 3) := getB' kX12_count_1 11 rfl
def LX12_count_2 : List (Nat × Instr × Nat) := [(118, .ireturn, 1), (119, .aload_n 0, 1), (120, .getfield 378, 3), (123, .ireturn, 1), (124, .aload_n 0, 1), (125, .getfield 612, 3), (128, .ireturn, 1), (129, .iconst 0, 1), (130, .istore_n 3, 1), (131, .iload_n 3, 1), (132, .aload_n 0, 1), (133, .getfield 648, 3)]
theorem kX12_count_2 : chkB cX12_count LX12_count_2 = true := by decide +kernel
theorem dX12_count_118 : decode cX12_count 118 = .ok (.ireturn, 1) := getB' kX12_count_2 0 rfl
theorem dX12_count_119 : decode cX12_count 119 = .ok (.aload_n 0, 1) := getB' kX12_count_2 1 rfl
theorem dX12_count_120 : decode cX12_count 120 = .ok (.getfield 378, 3) := getB' kX12_count_2 2 rfl
theorem dX12_count_123 : decode cX12_count 123 = .ok (.ireturn, 1) := getB' kX12_count_2 3 rfl
theorem dX12_count_124 : decode cX12_count 124 = .ok (.aload_n 0, 1) := getB' kX12_count_2 4 rfl
theorem dX12_count_125 : decode cX12_count 125 = .ok (.getfield 612, 3) := getB' kX12_count_2 5 rfl
theorem dX12_count_128 : decode cX12_count 128 = .ok (.ireturn, 1) := getB' kX12_count_2 6 rfl
theorem dX12_count_129 : decode cX12_count 129 = .ok (.iconst 0, 1) := getB' kX12_count_2 7 rfl
theorem dX12_count_130 : decode cX12_count 130 = .ok (.istore_n 3, 1) := getB' kX12_count_2 8 rfl
theorem dX12_count_131 : decode cX12_count 131 = .ok (.iload_n 3, 1) := getB' kX12_count_2 9 rfl
theorem dX12_count_132 : decode cX12_count 132 = .ok (.aload_n 0, 1) := getB' kX12_count_2 10 rfl
theorem dX12_count_133 : decode cX12_count 133 = .ok (.getfield 648, 3) := getB' kX12_count_2 11 rfl
def LX12_count_3 : List (Nat × Instr × Nat) := [(136, .if_icmp .ge 26, 3), (139, .iload_n 2, 1), (140, .aload_n 0, 1), (141, .getfield 259, 3), (144, .iload_n 3, 1), (145, .baload, 1), (146, .ifCond .eq 7, 3), (149, .iconst 1, 1), (150, .goto 4, 3), (153, .iconst 0, 1), (154, .iadd, 1), (155, .istore_n 2, 1)]
theorem kX12_count_3 : chkB cX12_count LX12_count_3 = true := by decide +kernel
theorem dX12_count_136 : decode cX12_count 136 = .ok (.if_icmp .ge 26, 3) := getB' kX12_count_3 0 rfl
theorem dX12_count_139 : decode cX12_count 139 = .ok (.iload_n 2, 1) := getB' kX12_count_3 1 rfl
theorem dX12_count_140 : decode cX12_count 140 = .ok (.aload_n 0, 1) := getB' kX12_count_3 2 rfl
theorem dX12_count_141 : decode cX12_count 141 = .ok (.getfield 259, 3) := getB' kX12_count_3 3 rfl
theorem dX12_count_144 : decode cX12_count 144 = .ok (.iload_n 3, 1) := getB' kX12_count_3 4 rfl
theorem dX12_count_145 : decode cX12_count 145 = .ok (.baload, 1) := getB' kX12_count_3 5 rfl
theorem dX12_count_146 : decode cX12_count 146 = .ok (.ifCond .eq 7, 3) := getB' kX12_count_3 6 rfl
theorem dX12_count_149 : decode cX12_count 149 = .ok (.iconst 1, 1) := getB' kX12_count_3 7 rfl
theorem dX12_count_150 : decode cX12_count 150 = .ok (.goto 4, 3) := getB' kX12_count_3 8 rfl
theorem dX12_count_153 : decode cX12_count 153 = .ok (.iconst 0, 1) := getB' kX12_count_3 9 rfl
theorem dX12_count_154 : decode cX12_count 154 = .ok (.iadd, 1) := getB' kX12_count_3 10 rfl
theorem dX12_count_155 : decode cX12_count 155 = .ok (.istore_n 2, 1) := getB' kX12_count_3 11 rfl
def LX12_count_4 : List (Nat × Instr × Nat) := [(156, .iinc 3 1, 3), (159, .goto (-28), 3), (162, .iload_n 2, 1), (163, .ireturn, 1), (164, .aload_n 0, 1), (165, .getfield 660, 3), (168, .ireturn, 1), (169, .aload_n 0, 1), (170, .getfield 667, 3), (173, .ireturn, 1), (174, .aload_n 0, 1), (175, .getfield 709, 3)]
theorem kX12_count_4 : chkB cX12_count LX12_count_4 = true := by decide +kernel
theorem dX12_count_156 : decode cX12_count 156 = .ok (.iinc 3 1, 3) := getB' kX12_count_4 0 rfl
theorem dX12_count_159 : decode cX12_count 159 = .ok (.goto (-28), 3) := getB' kX12_count_4 1 rfl
theorem dX12_count_162 : decode cX12_count 162 = .ok (.iload_n 2, 1) := getB' kX12_count_4 2 rfl
theorem dX12_count_163 : decode cX12_count 163 = .ok (.ireturn, 1) := getB' kX12_count_4 3 rfl
theorem dX12_count_164 : decode cX12_count 164 = .ok (.aload_n 0, 1) := getB' kX12_count_4 4 rfl
theorem dX12_count_165 : decode cX12_count 165 = .ok (.getfield 660, 3) := getB' kX12_count_4 5 rfl
theorem dX12_count_168 : decode cX12_count 168 = .ok (.ireturn, 1) := getB' kX12_count_4 6 rfl
theorem dX12_count_169 : decode cX12_count 169 = .ok (.aload_n 0, 1) := getB' kX12_count_4 7 rfl
theorem dX12_count_170 : decode cX12_count 170 = .ok (.getfield 667, 3) := getB' kX12_count_4 8 rfl
theorem dX12_count_173 : decode cX12_count 173 = .ok (.ireturn, 1) := getB' kX12_count_4 9 rfl
theorem dX12_count_174 : decode cX12_count 174 = .ok (.aload_n 0, 1) := getB' kX12_count_4 10 rfl
theorem dX12_count_175 : decode cX12_count 175 = .ok (.getfield 709, 3) := getB' kX12_count_4 11 rfl
def LX12_count_5 : List (Nat × Instr × Nat) := [(178, .ireturn, 1), (179, .aload_n 0, 1), (180, .getfield 718, 3), (183, .ireturn, 1), (184, .aload_n 0, 1), (185, .getfield 736, 3), (188, .ireturn, 1), (189, .aload_n 0, 1), (190, .getfield 761, 3), (193, .ireturn, 1), (194, .aload_n 0, 1), (195, .getfield 436, 3)]
theorem kX12_count_5 : chkB cX12_count LX12_count_5 = true := by decide +kernel
theorem dX12_count_178 : decode cX12_count 178 = .ok (.ireturn, 1) := getB' kX12_count_5 0 rfl
theorem dX12_count_179 : decode cX12_count 179 = .ok (.aload_n 0, 1) := getB' kX12_count_5 1 rfl
theorem dX12_count_180 : decode cX12_count 180 = .ok (.getfield 718, 3) := getB' kX12_count_5 2 rfl
theorem dX12_count_183 : decode cX12_count 183 = .ok (.ireturn, 1) := getB' kX12_count_5 3 rfl
theorem dX12_count_184 : decode cX12_count 184 = .ok (.aload_n 0, 1) := getB' kX12_count_5 4 rfl
theorem dX12_count_185 : decode cX12_count 185 = .ok (.getfield 736, 3) := getB' kX12_count_5 5 rfl
theorem dX12_count_188 : decode cX12_count 188 = .ok (.ireturn, 1) := getB' kX12_count_5 6 rfl
theorem dX12_count_189 : decode cX12_count 189 = .ok (.aload_n 0, 1) := getB' kX12_count_5 7 rfl
theorem dX12_count_190 : decode cX12_count 190 = .ok (.getfield 761, 3) := getB' kX12_count_5 8 rfl
theorem dX12_count_193 : decode cX12_count 193 = .ok (.ireturn, 1) := getB' kX12_count_5 9 rfl
theorem dX12_count_194 : decode cX12_count 194 = .ok (.aload_n 0, 1) := getB' kX12_count_5 10 rfl
theorem dX12_count_195 : decode cX12_count 195 = .ok (.getfield 436, 3) := getB' kX12_count_5 11 rfl
def LX12_count_6 : List (Nat × Instr × Nat) := [(198, .ireturn, 1), (199, .iload_n 1, 1), (200, .bipush 20, 2), (202, .bipush 19, 2), (204, .aload_n 0, 1), (205, .getfield 393, 3), (208, .iadd, 1), (209, .invokestatic 371, 3), (212, .ifCond .eq 15, 3), (215, .aload_n 0, 1), (216, .getfield 29, 3), (219, .iload_n 1, 1)]
theorem kX12_count_6 : chkB cX12_count LX12_count_6 = true := by decide +kernel
theorem dX12_count_198 : decode cX12_count 198 = .ok (.ireturn, 1) := getB' kX12_count_6 0 rfl
theorem dX12_count_199 : decode cX12_count 199 = .ok (.iload_n 1, 1) := getB' kX12_count_6 1 rfl
theorem dX12_count_200 : decode cX12_count 200 = .ok (.bipush 20, 2) := getB' kX12_count_6 2 rfl
theorem dX12_count_202 : decode cX12_count 202 = .ok (.bipush 19, 2) := getB' kX12_count_6 3 rfl
theorem dX12_count_204 : decode cX12_count 204 = .ok (.aload_n 0, 1) := getB' kX12_count_6 4 rfl
theorem dX12_count_205 : decode cX12_count 205 = .ok (.getfield 393, 3) := getB' kX12_count_6 5 rfl
theorem dX12_count_208 : decode cX12_count 208 = .ok (.iadd, 1) := getB' kX12_count_6 6 rfl
theorem dX12_count_209 : decode cX12_count 209 = .ok (.invokestatic 371, 3) := getB' kX12_count_6 7 rfl
theorem dX12_count_212 : decode cX12_count 212 = .ok (.ifCond .eq 15, 3) := getB' kX12_count_6 8 rfl
theorem dX12_count_215 : decode cX12_count 215 = .ok (.aload_n 0, 1) := getB' kX12_count_6 9 rfl
theorem dX12_count_216 : decode cX12_count 216 = .ok (.getfield 29, 3) := getB' kX12_count_6 10 rfl
theorem dX12_count_219 : decode cX12_count 219 = .ok (.iload_n 1, 1) := getB' kX12_count_6 11 rfl
def LX12_count_7 : List (Nat × Instr × Nat) := [(220, .bipush 20, 2), (222, .isub, 1), (223, .iaload, 1), (224, .goto 4, 3), (227, .iconst (-1), 1), (228, .ireturn, 1)]
theorem kX12_count_7 : chkB cX12_count LX12_count_7 = true := by decide +kernel
theorem dX12_count_220 : decode cX12_count 220 = .ok (.bipush 20, 2) := getB' kX12_count_7 0 rfl
theorem dX12_count_222 : decode cX12_count 222 = .ok (.isub, 1) := getB' kX12_count_7 1 rfl
theorem dX12_count_223 : decode cX12_count 223 = .ok (.iaload, 1) := getB' kX12_count_7 2 rfl
theorem dX12_count_224 : decode cX12_count 224 = .ok (.goto 4, 3) := getB' kX12_count_7 3 rfl
theorem dX12_count_227 : decode cX12_count 227 = .ok (.iconst (-1), 1) := getB' kX12_count_7 4 rfl
theorem dX12_count_228 : decode cX12_count 228 = .ok (.ireturn, 1) := getB' kX12_count_7 5 rfl
def LJ6_bitCount_0f7a4_0 : List (Nat × Instr × Nat) := [(0, .iload_n 0, 1), (1, .iload_n 0, 1), (2, .iconst 1, 1), (3, .iushr, 1), (4, .ldc_w 265, 3), (7, .iand, 1), (8, .isub, 1), (9, .istore_n 0, 1), (10, .iload_n 0, 1), (11, .ldc_w 266, 3), (14, .iand, 1), (15, .iload_n 0, 1)]
theorem kJ6_bitCount_0f7a4_0 : chkB cJ6_bitCount_0f7a4 LJ6_bitCount_0f7a4_0 = true := by decide +kernel
theorem dJ6_bitCount_0f7a4_0 : decode cJ6_bitCount_0f7a4 0 = .ok (.iload_n 0, 1) := getB' kJ6_bitCount_0f7a4_0 0 rfl
theorem dJ6_bitCount_0f7a4_1 : decode cJ6_bitCount_0f7a4 1 = .ok (.iload_n 0, 1) := getB' kJ6_bitCount_0f7a4_0 1 rfl
theorem dJ6_bitCount_0f7a4_2 : decode cJ6_bitCount_0f7a4 2 = .ok (.iconst 1, 1) := getB' kJ6_bitCount_0f7a4_0 2 rfl
theorem dJ6_bitCount_0f7a4_3 : decode cJ6_bitCount_0f7a4 3 = .ok (.iushr, 1) := getB' kJ6_bitCount_0f7a4_0 3 rfl
theorem dJ6_bitCount_0f7a4_4 : decode cJ6_bitCount_0f7a4 4 = .ok (.ldc_w 265, 3) := getB' kJ6_bitCount_0f7a4_0 4 rfl
theorem dJ6_bitCount_0f7a4_7 : decode cJ6_bitCount_0f7a4 7 = .ok (.iand, 1) := getB' kJ6_bitCount_0f7a4_0 5 rfl
theorem dJ6_bitCount_0f7a4_8 : decode cJ6_bitCount_0f7a4 8 = .ok (.isub, 1) := getB' kJ6_bitCount_0f7a4_0 6 rfl
theorem dJ6_bitCount_0f7a4_9 : decode cJ6_bitCount_0f7a4 9 = .ok (.istore_n 0, 1) := getB' kJ6_bitCount_0f7a4_0 7 rfl
theorem dJ6_bitCount_0f7a4_10 : decode cJ6_bitCount_0f7a4 10 = .ok (.iload_n 0, 1) := getB' kJ6_bitCount_0f7a4_0 8 rfl
theorem dJ6_bitCount_0f7a4_11 : decode cJ6_bitCount_0f7a4 11 = .ok (.ldc_w 266, 3) := getB' kJ6_bitCount_0f7a4_0 9 rfl
theorem dJ6_bitCount_0f7a4_14 : decode cJ6_bitCount_0f7a4 14 = .ok (.iand, 1) := getB' kJ6_bitCount_0f7a4_0 10 rfl
theorem dJ6_bitCount_0f7a4_15 : decode cJ6_bitCount_0f7a4 15 = .ok (.iload_n 0, 1) := getB' kJ6_bitCount_0f7a4_0 11 rfl
def LJ6_bitCount_0f7a4_1 : List (Nat × Instr × Nat) := [(16, .iconst 2, 1), (17, .iushr, 1), (18, .ldc_w 266, 3), (21, .iand, 1), (22, .iadd, 1), (23, .istore_n 0, 1), (24, .iload_n 0, 1), (25, .iload_n 0, 1), (26, .iconst 4, 1), (27, .iushr, 1), (28, .iadd, 1), (29, .ldc_w 267, 3)]
theorem kJ6_bitCount_0f7a4_1 : chkB cJ6_bitCount_0f7a4 LJ6_bitCount_0f7a4_1 = true := by decide +kernel
theorem dJ6_bitCount_0f7a4_16 : decode cJ6_bitCount_0f7a4 16 = .ok (.iconst 2, 1) := getB' kJ6_bitCount_0f7a4_1 0 rfl
theorem dJ6_bitCount_0f7a4_17 : decode cJ6_bitCount_0f7a4 17 = .ok (.iushr, 1) := getB' kJ6_bitCount_0f7a4_1 1 rfl
theorem dJ6_bitCount_0f7a4_18 : decode cJ6_bitCount_0f7a4 18 = .ok (.ldc_w 266, 3) := getB' kJ6_bitCount_0f7a4_1 2 rfl
theorem dJ6_bitCount_0f7a4_21 : decode cJ6_bitCount_0f7a4 21 = .ok (.iand, 1) := getB' kJ6_bitCount_0f7a4_1 3 rfl
theorem dJ6_bitCount_0f7a4_22 : decode cJ6_bitCount_0f7a4 22 = .ok (.iadd, 1) := getB' kJ6_bitCount_0f7a4_1 4 rfl
theorem dJ6_bitCount_0f7a4_23 : decode cJ6_bitCount_0f7a4 23 = .ok (.istore_n 0, 1) := getB' kJ6_bitCount_0f7a4_1 5 rfl
theorem dJ6_bitCount_0f7a4_24 : decode cJ6_bitCount_0f7a4 24 = .ok (.iload_n 0, 1) := getB' kJ6_bitCount_0f7a4_1 6 rfl
theorem dJ6_bitCount_0f7a4_25 : decode cJ6_bitCount_0f7a4 25 = .ok (.iload_n 0, 1) := getB' kJ6_bitCount_0f7a4_1 7 rfl
theorem dJ6_bitCount_0f7a4_26 : decode cJ6_bitCount_0f7a4 26 = .ok (.iconst 4, 1) := getB' kJ6_bitCount_0f7a4_1 8 rfl
theorem dJ6_bitCount_0f7a4_27 : decode cJ6_bitCount_0f7a4 27 = .ok (.iushr, 1) := getB' kJ6_bitCount_0f7a4_1 9 rfl
theorem dJ6_bitCount_0f7a4_28 : decode cJ6_bitCount_0f7a4 28 = .ok (.iadd, 1) := getB' kJ6_bitCount_0f7a4_1 10 rfl
theorem dJ6_bitCount_0f7a4_29 : decode cJ6_bitCount_0f7a4 29 = .ok (.ldc_w 267, 3) := getB' kJ6_bitCount_0f7a4_1 11 rfl
def LJ6_bitCount_0f7a4_2 : List (Nat × Instr × Nat) := [(32, .iand, 1), (33, .istore_n 0, 1), (34, .iload_n 0, 1), (35, .iload_n 0, 1), (36, .bipush 8, 2), (38, .iushr, 1), (39, .iadd, 1), (40, .istore_n 0, 1), (41, .iload_n 0, 1), (42, .iload_n 0, 1), (43, .bipush 16, 2), (45, .iushr, 1)]
theorem kJ6_bitCount_0f7a4_2 : chkB cJ6_bitCount_0f7a4 LJ6_bitCount_0f7a4_2 = true := by decide +kernel
theorem dJ6_bitCount_0f7a4_32 : decode cJ6_bitCount_0f7a4 32 = .ok (.iand, 1) := getB' kJ6_bitCount_0f7a4_2 0 rfl
theorem dJ6_bitCount_0f7a4_33 : decode cJ6_bitCount_0f7a4 33 = .ok (.istore_n 0, 1) := getB' kJ6_bitCount_0f7a4_2 1 rfl
theorem dJ6_bitCount_0f7a4_34 : decode cJ6_bitCount_0f7a4 34 = .ok (.iload_n 0, 1) := getB' kJ6_bitCount_0f7a4_2 2 rfl
theorem dJ6_bitCount_0f7a4_35 : decode cJ6_bitCount_0f7a4 35 = .ok (.iload_n 0, 1) := getB' kJ6_bitCount_0f7a4_2 3 rfl
theorem dJ6_bitCount_0f7a4_36 : decode cJ6_bitCount_0f7a4 36 = .ok (.bipush 8, 2) := getB' kJ6_bitCount_0f7a4_2 4 rfl
theorem dJ6_bitCount_0f7a4_38 : decode cJ6_bitCount_0f7a4 38 = .ok (.iushr, 1) := getB' kJ6_bitCount_0f7a4_2 5 rfl
theorem dJ6_bitCount_0f7a4_39 : decode cJ6_bitCount_0f7a4 39 = .ok (.iadd, 1) := getB' kJ6_bitCount_0f7a4_2 6 rfl
theorem dJ6_bitCount_0f7a4_40 : decode cJ6_bitCount_0f7a4 40 = .ok (.istore_n 0, 1) := getB' kJ6_bitCount_0f7a4_2 7 rfl
theorem dJ6_bitCount_0f7a4_41 : decode cJ6_bitCount_0f7a4 41 = .ok (.iload_n 0, 1) := getB' kJ6_bitCount_0f7a4_2 8 rfl
theorem dJ6_bitCount_0f7a4_42 : decode cJ6_bitCount_0f7a4 42 = .ok (.iload_n 0, 1) := getB' kJ6_bitCount_0f7a4_2 9 rfl
theorem dJ6_bitCount_0f7a4_43 : decode cJ6_bitCount_0f7a4 43 = .ok (.bipush 16, 2) := getB' kJ6_bitCount_0f7a4_2 10 rfl
theorem dJ6_bitCount_0f7a4_45 : decode cJ6_bitCount_0f7a4 45 = .ok (.iushr, 1) := getB' kJ6_bitCount_0f7a4_2 11 rfl
def LJ6_bitCount_0f7a4_3 : List (Nat × Instr × Nat) := [(46, .iadd, 1), (47, .istore_n 0, 1), (48, .iload_n 0, 1), (49, .bipush 63, 2), (51, .iand, 1), (52, .ireturn, 1)]
theorem kJ6_bitCount_0f7a4_3 : chkB cJ6_bitCount_0f7a4 LJ6_bitCount_0f7a4_3 = true := by decide +kernel
theorem dJ6_bitCount_0f7a4_46 : decode cJ6_bitCount_0f7a4 46 = .ok (.iadd, 1) := getB' kJ6_bitCount_0f7a4_3 0 rfl
theorem dJ6_bitCount_0f7a4_47 : decode cJ6_bitCount_0f7a4 47 = .ok (.istore_n 0, 1) := getB' kJ6_bitCount_0f7a4_3 1 rfl
theorem dJ6_bitCount_0f7a4_48 : decode cJ6_bitCount_0f7a4 48 = .ok (.iload_n 0, 1) := getB' kJ6_bitCount_0f7a4_3 2 rfl
theorem dJ6_bitCount_0f7a4_49 : decode cJ6_bitCount_0f7a4 49 = .ok (.bipush 63, 2) := getB' kJ6_bitCount_0f7a4_3 3 rfl
theorem dJ6_bitCount_0f7a4_51 : decode cJ6_bitCount_0f7a4 51 = .ok (.iand, 1) := getB' kJ6_bitCount_0f7a4_3 4 rfl
theorem dJ6_bitCount_0f7a4_52 : decode cJ6_bitCount_0f7a4 52 = .ok (.ireturn, 1) := getB' kJ6_bitCount_0f7a4_3 5 rfl
def LJ9_abs_0f7a4 : List (Nat × Instr × Nat) := [(0, .iload_n 0, 1), (1, .ifCond .ge 8, 3), (4, .iload_n 0, 1), (5, .ineg, 1), (6, .goto 4, 3), (9, .iload_n 0, 1), (10, .ireturn, 1)]
theorem kJ9_abs_0f7a4 : chkB cJ9_abs_0f7a4 LJ9_abs_0f7a4 = true := by decide +kernel
theorem dJ9_abs_0f7a4_0 : decode cJ9_abs_0f7a4 0 = .ok (.iload_n 0, 1) := getB' kJ9_abs_0f7a4 0 rfl
theorem dJ9_abs_0f7a4_1 : decode cJ9_abs_0f7a4 1 = .ok (.ifCond .ge 8, 3) := getB' kJ9_abs_0f7a4 1 rfl
theorem dJ9_abs_0f7a4_4 : decode cJ9_abs_0f7a4 4 = .ok (.iload_n 0, 1) := getB' kJ9_abs_0f7a4 2 rfl
theorem dJ9_abs_0f7a4_5 : decode cJ9_abs_0f7a4 5 = .ok (.ineg, 1) := getB' kJ9_abs_0f7a4 3 rfl
theorem dJ9_abs_0f7a4_6 : decode cJ9_abs_0f7a4 6 = .ok (.goto 4, 3) := getB' kJ9_abs_0f7a4 4 rfl
theorem dJ9_abs_0f7a4_9 : decode cJ9_abs_0f7a4 9 = .ok (.iload_n 0, 1) := getB' kJ9_abs_0f7a4 5 rfl
theorem dJ9_abs_0f7a4_10 : decode cJ9_abs_0f7a4 10 = .ok (.ireturn, 1) := getB' kJ9_abs_0f7a4 6 rfl
def LJ9_max_7cf53 : List (Nat × Instr × Nat) := [(0, .iload_n 0, 1), (1, .iload_n 1, 1), (2, .if_icmp .lt 7, 3), (5, .iload_n 0, 1), (6, .goto 4, 3), (9, .iload_n 1, 1), (10, .ireturn, 1)]
theorem kJ9_max_7cf53 : chkB cJ9_max_7cf53 LJ9_max_7cf53 = true := by decide +kernel
theorem dJ9_max_7cf53_0 : decode cJ9_max_7cf53 0 = .ok (.iload_n 0, 1) := getB' kJ9_max_7cf53 0 rfl
theorem dJ9_max_7cf53_1 : decode cJ9_max_7cf53 1 = .ok (.iload_n 1, 1) := getB' kJ9_max_7cf53 1 rfl
theorem dJ9_max_7cf53_2 : decode cJ9_max_7cf53 2 = .ok (.if_icmp .lt 7, 3) := getB' kJ9_max_7cf53 2 rfl
theorem dJ9_max_7cf53_5 : decode cJ9_max_7cf53 5 = .ok (.iload_n 0, 1) := getB' kJ9_max_7cf53 3 rfl
theorem dJ9_max_7cf53_6 : decode cJ9_max_7cf53 6 = .ok (.goto 4, 3) := getB' kJ9_max_7cf53 4 rfl
theorem dJ9_max_7cf53_9 : decode cJ9_max_7cf53 9 = .ok (.iload_n 1, 1) := getB' kJ9_max_7cf53 5 rfl
theorem dJ9_max_7cf53_10 : decode cJ9_max_7cf53 10 = .ok (.ireturn, 1) := getB' kJ9_max_7cf53 6 rfl
def LJ9_min_7cf53 : List (Nat × Instr × Nat) := [(0, .iload_n 0, 1), (1, .iload_n 1, 1), (2, .if_icmp .gt 7, 3), (5, .iload_n 0, 1), (6, .goto 4, 3), (9, .iload_n 1, 1), (10, .ireturn, 1)]
theorem kJ9_min_7cf53 : chkB cJ9_min_7cf53 LJ9_min_7cf53 = true := by decide +kernel
theorem dJ9_min_7cf53_0 : decode cJ9_min_7cf53 0 = .ok (.iload_n 0, 1) := getB' kJ9_min_7cf53 0 rfl
theorem dJ9_min_7cf53_1 : decode cJ9_min_7cf53 1 = .ok (.iload_n 1, 1) := getB' kJ9_min_7cf53 1 rfl
theorem dJ9_min_7cf53_2 : decode cJ9_min_7cf53 2 = .ok (.if_icmp .gt 7, 3) := getB' kJ9_min_7cf53 2 rfl
theorem dJ9_min_7cf53_5 : decode cJ9_min_7cf53 5 = .ok (.iload_n 0, 1) := getB' kJ9_min_7cf53 3 rfl
theorem dJ9_min_7cf53_6 : decode cJ9_min_7cf53 6 = .ok (.goto 4, 3) := getB' kJ9_min_7cf53 4 rfl
theorem dJ9_min_7cf53_9 : decode cJ9_min_7cf53 9 = .ok (.iload_n 1, 1) := getB' kJ9_min_7cf53 5 rfl
theorem dJ9_min_7cf53_10 : decode cJ9_min_7cf53 10 = .ok (.ireturn, 1) := getB' kJ9_min_7cf53 6 rfl
