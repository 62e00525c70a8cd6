def LX12_columnStep : List (Nat × Instr × Nat) := [(0, .iload_n 0, 1), (1, .iconst 1, 1), (2, .iconst 3, 1), (3, .invokestatic 371, 3), (6, .ifCond .eq 7, 3), (9, .iconst 1, 1), (10, .goto 13, 3), (13, .iload_n 0, 1), (14, .iconst 5, 1), (15, .if_icmp .lt 7, 3), (18, .iconst (-1), 1), (19, .goto 4, 3), (22, .iconst 0, 1), (23, .ireturn, 1)]
theorem kX12_columnStep : chkB cX12_columnStep LX12_columnStep = true := by decide +kernel
theorem dX12_columnStep_0 : decode cX12_columnStep 0 = .ok (.iload_n 0, 1) := getB' kX12_columnStep 0 rfl
theorem dX12_columnStep_1 : decode cX12_columnStep 1 = .ok (.iconst 1, 1) := getB' kX12_columnStep 1 rfl
theorem dX12_columnStep_2 : decode cX12_columnStep 2 = .ok (.iconst 3, 1) := getB' kX12_columnStep 2 rfl
theorem dX12_columnStep_3 : decode cX12_columnStep 3 = .ok (.invokestatic 371, 3) := getB' kX12_columnStep 3 rfl
theorem dX12_columnStep_6 : decode cX12_columnStep 6 = .ok (.ifCond .eq 7, 3) := getB' kX12_columnStep 4 rfl
theorem dX12_columnStep_9 : decode cX12_columnStep 9 = .ok (.iconst 1, 1) := getB' kX12_columnStep 5 rfl
theorem dX12_columnStep_10 : decode cX12_columnStep 10 = .ok (.goto 13, 3) := getB' kX12_columnStep 6 rfl
theorem dX12_columnStep_13 : decode cX12_columnStep 13 = .ok (.iload_n 0, 1) := getB' kX12_columnStep 7 rfl
theorem dX12_columnStep_14 : decode cX12_columnStep 14 = .ok (.iconst 5, 1) := getB' kX12_columnStep 8 rfl
theorem dX12_columnStep_15 : decode cX12_columnStep 15 = .ok (.if_icmp .lt 7, 3) := getB' kX12_columnStep 9 rfl
theorem dX12_columnStep_18 : decode cX12_columnStep 18 = .ok (.iconst (-1), 1) := getB' kX12_columnStep 10 rfl
theorem dX12_columnStep_19 : decode cX12_columnStep 19 = .ok (.goto 4, 3) := getB' kX12_columnStep 11 rfl
theorem dX12_columnStep_22 : decode cX12_columnStep 22 = .ok (.iconst 0, 1) := getB' kX12_columnStep 12 rfl
theorem dX12_columnStep_23 : decode cX12_columnStep 23 = .ok (.ireturn, 1) := getB' kX12_columnStep 13 rfl
def LX12_rowStep : List (Nat × Instr × Nat) := [(0, .iload_n 0, 1), (1, .ifCond .eq 14, 3), (4, .iload_n 0, 1), (5, .iconst 1, 1), (6, .if_icmp .eq 9, 3), (9, .iload_n 0, 1), (10, .bipush 7, 2), (12, .if_icmp .ne 7, 3), (15, .iconst (-1), 1), (16, .goto 17, 3), (19, .iload_n 0, 1), (20, .iconst 3, 1), (21, .iconst 5, 1), (22, .invokestatic 371, 3), (25, .ifCond .eq 7, 3), (28, .iconst 1, 1), (29, .goto 4, 3), (32, .iconst 0, 1), (33, .ireturn, 1)]
theorem kX12_rowStep : chkB cX12_rowStep LX12_rowStep = true := by decide +kernel
theorem dX12_rowStep_0 : decode cX12_rowStep 0 = .ok (.iload_n 0, 1) := getB' kX12_rowStep 0 rfl
theorem dX12_rowStep_1 : decode cX12_rowStep 1 = .ok (.ifCond .eq 14, 3) := getB' kX12_rowStep 1 rfl
theorem dX12_rowStep_4 : decode cX12_rowStep 4 = .ok (.iload_n 0, 1) := getB' kX12_rowStep 2 rfl
theorem dX12_rowStep_5 : decode cX12_rowStep 5 = .ok (.iconst 1, 1) := getB' kX12_rowStep 3 rfl
theorem dX12_rowStep_6 : decode cX12_rowStep 6 = .ok (.if_icmp .eq 9, 3) := getB' kX12_rowStep 4 rfl
theorem dX12_rowStep_9 : decode cX12_rowStep 9 = .ok (.iload_n 0, 1) := getB' kX12_rowStep 5 rfl
theorem dX12_rowStep_10 : decode cX12_rowStep 10 = .ok (.bipush 7, 2) := getB' kX12_rowStep 6 rfl
theorem dX12_rowStep_12 : decode cX12_rowStep 12 = .ok (.if_icmp .ne 7, 3) := getB' kX12_rowStep 7 rfl
theorem dX12_rowStep_15 : decode cX12_rowStep 15 = .ok (.iconst (-1), 1) := getB' kX12_rowStep 8 rfl
theorem dX12_rowStep_16 : decode cX12_rowStep 16 = .ok (.goto 17, 3) := getB' kX12_rowStep 9 rfl
theorem dX12_rowStep_19 : decode cX12_rowStep 19 = .ok (.iload_n 0, 1) := getB' kX12_rowStep 10 rfl
theorem dX12_rowStep_20 : decode cX12_rowStep 20 = .ok (.iconst 3, 1) := getB' kX12_rowStep 11 rfl
theorem dX12_rowStep_21 : decode cX12_rowStep 21 = .ok (.iconst 5, 1) := getB' kX12_rowStep 12 rfl
theorem dX12_rowStep_22 : decode cX12_rowStep 22 = .ok (.invokestatic 371, 3) := getB' kX12_rowStep 13 rfl
theorem dX12_rowStep_25 : decode cX12_rowStep 25 = .ok (.ifCond .eq 7, 3) := getB' kX12_rowStep 14 rfl
theorem dX12_rowStep_28 : decode cX12_rowStep 28 = .ok (.iconst 1, 1) := getB' kX12_rowStep 15 rfl
theorem dX12_rowStep_29 : decode cX12_rowStep 29 = .ok (.goto 4, 3) := getB' kX12_rowStep 16 rfl
theorem dX12_rowStep_32 : decode cX12_rowStep 32 = .ok (.iconst 0, 1) := getB' kX12_rowStep 17 rfl
theorem dX12_rowStep_33 : decode cX12_rowStep 33 = .ok (.ireturn, 1) := getB' kX12_rowStep 18 rfl
def LX12_moved : List (Nat × Instr × Nat) := [(0, .iload_n 1, 1), (1, .aload_n 0, 1), (2, .getfield 365, 3), (5, .irem, 1), (6, .iload_n 2, 1), (7, .iadd, 1), (8, .istore 4, 2), (10, .iload_n 1, 1), (11, .aload_n 0, 1), (12, .getfield 365, 3), (15, .idiv, 1), (16, .iload_n 3, 1), (17, .iadd, 1), (18, .istore 5, 2), (20, .iload 4, 2), (22, .iconst 0, 1), (23, .aload_n 0, 1), (24, .getfield 365, 3), (27, .iconst 1, 1), (28, .isub, 1), (29, .invokestatic 371, 3), (32, .ifCond .eq 31, 3), (35, .iload 5, 2), (37, .iconst 0, 1), (38, .aload_n 0, 1), (39, .getfield 368, 3), (42, .iconst 1, 1), (43, .isub, 1), (44, .invokestatic 371, 3), (47, .ifCond .eq 16, 3), (50, .aload_n 0, 1), (51, .getfield 365, 3), (54, .iload 5, 2), (56, .imul, 1), (57, .iload 4, 2), (59, .iadd, 1), (60, .goto 4, 3), (63, .iconst (-1), 1), (64, .ireturn, 1)]
theorem kX12_moved : chkB cX12_moved LX12_moved = true := by decide +kernel
theorem dX12_moved_0 : decode cX12_moved 0 = .ok (.iload_n 1, 1) := getB' kX12_moved 0 rfl
theorem dX12_moved_1 : decode cX12_moved 1 = .ok (.aload_n 0, 1) := getB' kX12_moved 1 rfl
theorem dX12_moved_2 : decode cX12_moved 2 = .ok (.getfield 365, 3) := getB' kX12_moved 2 rfl
theorem dX12_moved_5 : decode cX12_moved 5 = .ok (.irem, 1) := getB' kX12_moved 3 rfl
theorem dX12_moved_6 : decode cX12_moved 6 = .ok (.iload_n 2, 1) := getB' kX12_moved 4 rfl
theorem dX12_moved_7 : decode cX12_moved 7 = .ok (.iadd, 1) := getB' kX12_moved 5 rfl
theorem dX12_moved_8 : decode cX12_moved 8 = .ok (.istore 4, 2) := getB' kX12_moved 6 rfl
theorem dX12_moved_10 : decode cX12_moved 10 = .ok (.iload_n 1, 1) := getB' kX12_moved 7 rfl
theorem dX12_moved_11 : decode cX12_moved 11 = .ok (.aload_n 0, 1) := getB' kX12_moved 8 rfl
theorem dX12_moved_12 : decode cX12_moved 12 = .ok (.getfield 365, 3) := getB' kX12_moved 9 rfl
theorem dX12_moved_15 : decode cX12_moved 15 = .ok (.idiv, 1) := getB' kX12_moved 10 rfl
theorem dX12_moved_16 : decode cX12_moved 16 = .ok (.iload_n 3, 1) := getB' kX12_moved 11 rfl
theorem dX12_moved_17 : decode cX12_moved 17 = .ok (.iadd, 1) := getB' kX12_moved 12 rfl
theorem dX12_moved_18 : decode cX12_moved 18 = .ok (.istore 5, 2) := getB' kX12_moved 13 rfl
theorem dX12_moved_20 : decode cX12_moved 20 = .ok (.iload 4, 2) := getB' kX12_moved 14 rfl
theorem dX12_moved_22 : decode cX12_moved 22 = .ok (.iconst 0, 1) := getB' kX12_moved 15 rfl
theorem dX12_moved_23 : decode cX12_moved 23 = .ok (.aload_n 0, 1) := getB' kX12_moved 16 rfl
theorem dX12_moved_24 : decode cX12_moved 24 = .ok (.getfield 365, 3) := getB' kX12_moved 17 rfl
theorem dX12_moved_27 : decode cX12_moved 27 = .ok (.iconst 1, 1) := getB' kX12_moved 18 rfl
theorem dX12_moved_28 : decode cX12_moved 28 = .ok (.isub, 1) := getB' kX12_moved 19 rfl
theorem dX12_moved_29 : decode cX12_moved 29 = .ok (.invokestatic 371, 3) := getB' kX12_moved 20 rfl
theorem dX12_moved_32 : decode cX12_moved 32 = .ok (.ifCond .eq 31, 3) := getB' kX12_moved 21 rfl
theorem dX12_moved_35 : decode cX12_moved 35 = .ok (.iload 5, 2) := getB' kX12_moved 22 rfl
theorem dX12_moved_37 : decode cX12_moved 37 = .ok (.iconst 0, 1) := getB' kX12_moved 23 rfl
theorem dX12_moved_38 : decode cX12_moved 38 = .ok (.aload_n 0, 1) := getB' kX12_moved 24 rfl
theorem dX12_moved_39 : decode cX12_moved 39 = .ok (.getfield 368, 3) := getB' kX12_moved 25 rfl
theorem dX12_moved_42 : decode cX12_moved 42 = .ok (.iconst 1, 1) := getB' kX12_moved 26 rfl
theorem dX12_moved_43 : decode cX12_moved 43 = .ok (.isub, 1) := getB' kX12_moved 27 rfl
theorem dX12_moved_44 : decode cX12_moved 44 = .ok (.invokestatic 371, 3) := getB' kX12_moved 28 rfl
theorem dX12_moved_47 : decode cX12_moved 47 = .ok (.ifCond .eq 16, 3) := getB' kX12_moved 29 rfl
theorem dX12_moved_50 : decode cX12_moved 50 = .ok (.aload_n 0, 1) := getB' kX12_moved 30 rfl
theorem dX12_moved_51 : decode cX12_moved 51 = .ok (.getfield 365, 3) := getB' kX12_moved 31 rfl
theorem dX12_moved_54 : decode cX12_moved 54 = .ok (.iload 5, 2) := getB' kX12_moved 32 rfl
theorem dX12_moved_56 : decode cX12_moved 56 = .ok (.imul, 1) := getB' kX12_moved 33 rfl
theorem dX12_moved_57 : decode cX12_moved 57 = .ok (.iload 4, 2) := getB' kX12_moved 34 rfl
theorem dX12_moved_59 : decode cX12_moved 59 = .ok (.iadd, 1) := getB' kX12_moved 35 rfl
theorem dX12_moved_60 : decode cX12_moved 60 = .ok (.goto 4, 3) := getB' kX12_moved 36 rfl
theorem dX12_moved_63 : decode cX12_moved 63 = .ok (.iconst (-1), 1) := getB' kX12_moved 37 rfl
theorem dX12_moved_64 : decode cX12_moved 64 = .ok (.ireturn, 1) := getB' kX12_moved 38 rfl
def LX12_isLand : List (Nat × Instr × Nat) := [(0, .aload_n 0, 1), (1, .getfield 20, 3), (4, .iload_n 1, 1), (5, .iaload, 1), (6, .iconst 2, 1), (7, .if_icmp .ge 7, 3), (10, .iconst 1, 1), (11, .goto 4, 3), (14, .iconst 0, 1), (15, .ireturn, 1)]
theorem kX12_isLand : chkB cX12_isLand LX12_isLand = true := by decide +kernel
theorem dX12_isLand_0 : decode cX12_isLand 0 = .ok (.aload_n 0, 1) := getB' kX12_isLand 0 rfl
theorem dX12_isLand_1 : decode cX12_isLand 1 = .ok (.getfield 20, 3) := getB' kX12_isLand 1 rfl
theorem dX12_isLand_4 : decode cX12_isLand 4 = .ok (.iload_n 1, 1) := getB' kX12_isLand 2 rfl
theorem dX12_isLand_5 : decode cX12_isLand 5 = .ok (.iaload, 1) := getB' kX12_isLand 3 rfl
theorem dX12_isLand_6 : decode cX12_isLand 6 = .ok (.iconst 2, 1) := getB' kX12_isLand 4 rfl
theorem dX12_isLand_7 : decode cX12_isLand 7 = .ok (.if_icmp .ge 7, 3) := getB' kX12_isLand 5 rfl
theorem dX12_isLand_10 : decode cX12_isLand 10 = .ok (.iconst 1, 1) := getB' kX12_isLand 6 rfl
theorem dX12_isLand_11 : decode cX12_isLand 11 = .ok (.goto 4, 3) := getB' kX12_isLand 7 rfl
theorem dX12_isLand_14 : decode cX12_isLand 14 = .ok (.iconst 0, 1) := getB' kX12_isLand 8 rfl
theorem dX12_isLand_15 : decode cX12_isLand 15 = .ok (.ireturn, 1) := getB' kX12_isLand 9 rfl
def LX12_isNearSea : List (Nat × Instr × Nat) := [(0, .iconst 0, 1), (1, .istore_n 2, 1), (2, .iload_n 2, 1), (3, .aload_n 0, 1), (4, .getfield 365, 3), (7, .aload_n 0, 1), (8, .getfield 368, 3), (11, .imul, 1), (12, .if_icmp .ge 31, 3), (15, .aload_n 0, 1), (16, .getfield 20, 3), (19, .iload_n 2, 1), (20, .iaload, 1), (21, .iconst 2, 1), (22, .if_icmp .ne 15, 3), (25, .aload_n 0, 1), (26, .iload_n 2, 1), (27, .iload_n 1, 1), (28, .invokevirtual 389, 3), (31, .iconst 1, 1), (32, .if_icmp .gt 5, 3), (35, .iconst 1, 1), (36, .ireturn, 1), (37, .iinc 2 1, 3), (40, .goto (-38), 3), (43, .iconst 0, 1), (44, .ireturn, 1)]
theorem kX12_isNearSea : chkB cX12_isNearSea LX12_isNearSea = true := by decide +kernel
theorem dX12_isNearSea_0 : decode cX12_isNearSea 0 = .ok (.iconst 0, 1) := getB' kX12_isNearSea 0 rfl
theorem dX12_isNearSea_1 : decode cX12_isNearSea 1 = .ok (.istore_n 2, 1) := getB' kX12_isNearSea 1 rfl
theorem dX12_isNearSea_2 : decode cX12_isNearSea 2 = .ok (.iload_n 2, 1) := getB' kX12_isNearSea 2 rfl
theorem dX12_isNearSea_3 : decode cX12_isNearSea 3 = .ok (.aload_n 0, 1) := getB' kX12_isNearSea 3 rfl
theorem dX12_isNearSea_4 : decode cX12_isNearSea 4 = .ok (.getfield 365, 3) := getB' kX12_isNearSea 4 rfl
theorem dX12_isNearSea_7 : decode cX12_isNearSea 7 = .ok (.aload_n 0, 1) := getB' kX12_isNearSea 5 rfl
theorem dX12_isNearSea_8 : decode cX12_isNearSea 8 = .ok (.getfield 368, 3) := getB' kX12_isNearSea 6 rfl
theorem dX12_isNearSea_11 : decode cX12_isNearSea 11 = .ok (.imul, 1) := getB' kX12_isNearSea 7 rfl
theorem dX12_isNearSea_12 : decode cX12_isNearSea 12 = .ok (.if_icmp .ge 31, 3) := getB' kX12_isNearSea 8 rfl
theorem dX12_isNearSea_15 : decode cX12_isNearSea 15 = .ok (.aload_n 0, 1) := getB' kX12_isNearSea 9 rfl
theorem dX12_isNearSea_16 : decode cX12_isNearSea 16 = .ok (.getfield 20, 3) := getB' kX12_isNearSea 10 rfl
theorem dX12_isNearSea_19 : decode cX12_isNearSea 19 = .ok (.iload_n 2, 1) := getB' kX12_isNearSea 11 rfl
theorem dX12_isNearSea_20 : decode cX12_isNearSea 20 = .ok (.iaload, 1) := getB' kX12_isNearSea 12 rfl
theorem dX12_isNearSea_21 : decode cX12_isNearSea 21 = .ok (.iconst 2, 1) := getB' kX12_isNearSea 13 rfl
theorem dX12_isNearSea_22 : decode cX12_isNearSea 22 = .ok (.if_icmp .ne 15, 3) := getB' kX12_isNearSea 14 rfl
theorem dX12_isNearSea_25 : decode cX12_isNearSea 25 = .ok (.aload_n 0, 1) := getB' kX12_isNearSea 15 rfl
theorem dX12_isNearSea_26 : decode cX12_isNearSea 26 = .ok (.iload_n 2, 1) := getB' kX12_isNearSea 16 rfl
theorem dX12_isNearSea_27 : decode cX12_isNearSea 27 = .ok (.iload_n 1, 1) := getB' kX12_isNearSea 17 rfl
theorem dX12_isNearSea_28 : decode cX12_isNearSea 28 = .ok (.invokevirtual 389, 3) := getB' kX12_isNearSea 18 rfl
theorem dX12_isNearSea_31 : decode cX12_isNearSea 31 = .ok (.iconst 1, 1) := getB' kX12_isNearSea 19 rfl
theorem dX12_isNearSea_32 : decode cX12_isNearSea 32 = .ok (.if_icmp .gt 5, 3) := getB' kX12_isNearSea 20 rfl
theorem dX12_isNearSea_35 : decode cX12_isNearSea 35 = .ok (.iconst 1, 1) := getB' kX12_isNearSea 21 rfl
theorem dX12_isNearSea_36 : decode cX12_isNearSea 36 = .ok (.ireturn, 1) := getB' kX12_isNearSea 22 rfl
theorem dX12_isNearSea_37 : decode cX12_isNearSea 37 = .ok (.iinc 2 1, 3) := getB' kX12_isNearSea 23 rfl
theorem dX12_isNearSea_40 : decode cX12_isNearSea 40 = .ok (.goto (-38), 3) := getB' kX12_isNearSea 24 rfl
theorem dX12_isNearSea_43 : decode cX12_isNearSea 43 = .ok (.iconst 0, 1) := getB' kX12_isNearSea 25 rfl
theorem dX12_isNearSea_44 : decode cX12_isNearSea 44 = .ok (.ireturn, 1) := getB' kX12_isNearSea 26 rfl
def LX12_party : List (Nat × Instr × Nat) := [(0, .aload_n 0, 1), (1, .getfield 393, 3), (4, .bipush 9, 2), (6, .if_icmp .ne 5, 3), (9, .iconst (-1), 1), (10, .ireturn, 1), (11, .aload_n 0, 1), (12, .getfield 29, 3), (15, .aload_n 0, 1), (16, .getfield 393, 3), (19, .iload_n 1, 1), (20, .ifCond .eq 10, 3), (23, .aload_n 0, 1), (24, .getfield 396, 3), (27, .goto 4, 3), (30, .iconst (-1), 1), (31, .iastore, 1), (32, .aload_n 0, 1), (33, .aload_n 0, 1), (34, .getfield 393, 3), (37, .iconst 1, 1), (38, .iadd, 1), (39, .putfield 393, 3), (42, .aload_n 0, 1), (43, .getfield 393, 3), (46, .iconst 1, 1), (47, .isub, 1), (48, .ireturn, 1)]
theorem kX12_party : chkB cX12_party LX12_party = true := by decide +kernel
theorem dX12_party_0 : decode cX12_party 0 = .ok (.aload_n 0, 1) := getB' kX12_party 0 rfl
theorem dX12_party_1 : decode cX12_party 1 = .ok (.getfield 393, 3) := getB' kX12_party 1 rfl
theorem dX12_party_4 : decode cX12_party 4 = .ok (.bipush 9, 2) := getB' kX12_party 2 rfl
theorem dX12_party_6 : decode cX12_party 6 = .ok (.if_icmp .ne 5, 3) := getB' kX12_party 3 rfl
theorem dX12_party_9 : decode cX12_party 9 = .ok (.iconst (-1), 1) := getB' kX12_party 4 rfl
theorem dX12_party_10 : decode cX12_party 10 = .ok (.ireturn, 1) := getB' kX12_party 5 rfl
theorem dX12_party_11 : decode cX12_party 11 = .ok (.aload_n 0, 1) := getB' kX12_party 6 rfl
theorem dX12_party_12 : decode cX12_party 12 = .ok (.getfield 29, 3) := getB' kX12_party 7 rfl
theorem dX12_party_15 : decode cX12_party 15 = .ok (.aload_n 0, 1) := getB' kX12_party 8 rfl
theorem dX12_party_16 : decode cX12_party 16 = .ok (.getfield 393, 3) := getB' kX12_party 9 rfl
theorem dX12_party_19 : decode cX12_party 19 = .ok (.iload_n 1, 1) := getB' kX12_party 10 rfl
theorem dX12_party_20 : decode cX12_party 20 = .ok (.ifCond .eq 10, 3) := getB' kX12_party 11 rfl
theorem dX12_party_23 : decode cX12_party 23 = .ok (.aload_n 0, 1) := getB' kX12_party 12 rfl
theorem dX12_party_24 : decode cX12_party 24 = .ok (.getfield 396, 3) := getB' kX12_party 13 rfl
theorem dX12_party_27 : decode cX12_party 27 = .ok (.goto 4, 3) := getB' kX12_party 14 rfl
theorem dX12_party_30 : decode cX12_party 30 = .ok (.iconst (-1), 1) := getB' kX12_party 15 rfl
theorem dX12_party_31 : decode cX12_party 31 = .ok (.iastore, 1) := getB' kX12_party 16 rfl
theorem dX12_party_32 : decode cX12_party 32 = .ok (.aload_n 0, 1) := getB' kX12_party 17 rfl
theorem dX12_party_33 : decode cX12_party 33 = .ok (.aload_n 0, 1) := getB' kX12_party 18 rfl
theorem dX12_party_34 : decode cX12_party 34 = .ok (.getfield 393, 3) := getB' kX12_party 19 rfl
theorem dX12_party_37 : decode cX12_party 37 = .ok (.iconst 1, 1) := getB' kX12_party 20 rfl
theorem dX12_party_38 : decode cX12_party 38 = .ok (.iadd, 1) := getB' kX12_party 21 rfl
theorem dX12_party_39 : decode cX12_party 39 = .ok (.putfield 393, 3) := getB' kX12_party 22 rfl
theorem dX12_party_42 : decode cX12_party 42 = .ok (.aload_n 0, 1) := getB' kX12_party 23 rfl
theorem dX12_party_43 : decode cX12_party 43 = .ok (.getfield 393, 3) := getB' kX12_party 24 rfl
theorem dX12_party_46 : decode cX12_party 46 = .ok (.iconst 1, 1) := getB' kX12_party 25 rfl
theorem dX12_party_47 : decode cX12_party 47 = .ok (.isub, 1) := getB' kX12_party 26 rfl
theorem dX12_party_48 : decode cX12_party 48 = .ok (.ireturn, 1) := getB' kX12_party 27 rfl
def LX12_isParty : List (Nat × Instr × Nat) := [(0, .iload_n 1, 1), (1, .ifCond .lt 15, 3), (4, .iload_n 1, 1), (5, .aload_n 0, 1), (6, .getfield 393, 3), (9, .if_icmp .ge 7, 3), (12, .iconst 1, 1), (13, .goto 4, 3), (16, .iconst 0, 1), (17, .ireturn, 1)]
theorem kX12_isParty : chkB cX12_isParty LX12_isParty = true := by decide +kernel
theorem dX12_isParty_0 : decode cX12_isParty 0 = .ok (.iload_n 1, 1) := getB' kX12_isParty 0 rfl
theorem dX12_isParty_1 : decode cX12_isParty 1 = .ok (.ifCond .lt 15, 3) := getB' kX12_isParty 1 rfl
theorem dX12_isParty_4 : decode cX12_isParty 4 = .ok (.iload_n 1, 1) := getB' kX12_isParty 2 rfl
theorem dX12_isParty_5 : decode cX12_isParty 5 = .ok (.aload_n 0, 1) := getB' kX12_isParty 3 rfl
theorem dX12_isParty_6 : decode cX12_isParty 6 = .ok (.getfield 393, 3) := getB' kX12_isParty 4 rfl
theorem dX12_isParty_9 : decode cX12_isParty 9 = .ok (.if_icmp .ge 7, 3) := getB' kX12_isParty 5 rfl
theorem dX12_isParty_12 : decode cX12_isParty 12 = .ok (.iconst 1, 1) := getB' kX12_isParty 6 rfl
theorem dX12_isParty_13 : decode cX12_isParty 13 = .ok (.goto 4, 3) := getB' kX12_isParty 7 rfl
theorem dX12_isParty_16 : decode cX12_isParty 16 = .ok (.iconst 0, 1) := getB' kX12_isParty 8 rfl
theorem dX12_isParty_17 : decode cX12_isParty 17 = .ok (.ireturn, 1) := getB' kX12_isParty 9 rfl
def LX12_isPlace : List (Nat × Instr × Nat) := [(0, .iload_n 1, 1), (1, .ifCond .lt 25, 3), (4, .iload_n 1, 1), (5, .aload_n 0, 1), (6, .getfield 375, 3), (9, .if_icmp .ge 17, 3), (12, .aload_n 0, 1), (13, .getfield 35, 3), (16, .iload_n 1, 1), (17, .iaload, 1), (18, .iload_n 2, 1), (19, .if_icmp .ne 7, 3), (22, .iconst 1, 1), (23, .goto 4, 3), (26, .iconst 0, 1), (27, .ireturn, 1)]
theorem kX12_isPlace : chkB cX12_isPlace LX12_isPlace = true := by decide +kernel
theorem dX12_isPlace_0 : decode cX12_isPlace 0 = .ok (.iload_n 1, 1) := getB' kX12_isPlace 0 rfl
theorem dX12_isPlace_1 : decode cX12_isPlace 1 = .ok (.ifCond .lt 25, 3) := getB' kX12_isPlace 1 rfl
theorem dX12_isPlace_4 : decode cX12_isPlace 4 = .ok (.iload_n 1, 1) := getB' kX12_isPlace 2 rfl
theorem dX12_isPlace_5 : decode cX12_isPlace 5 = .ok (.aload_n 0, 1) := getB' kX12_isPlace 3 rfl
theorem dX12_isPlace_6 : decode cX12_isPlace 6 = .ok (.getfield 375, 3) := getB' kX12_isPlace 4 rfl
theorem dX12_isPlace_9 : decode cX12_isPlace 9 = .ok (.if_icmp .ge 17, 3) := getB' kX12_isPlace 5 rfl
theorem dX12_isPlace_12 : decode cX12_isPlace 12 = .ok (.aload_n 0, 1) := getB' kX12_isPlace 6 rfl
theorem dX12_isPlace_13 : decode cX12_isPlace 13 = .ok (.getfield 35, 3) := getB' kX12_isPlace 7 rfl
theorem dX12_isPlace_16 : decode cX12_isPlace 16 = .ok (.iload_n 1, 1) := getB' kX12_isPlace 8 rfl
theorem dX12_isPlace_17 : decode cX12_isPlace 17 = .ok (.iaload, 1) := getB' kX12_isPlace 9 rfl
theorem dX12_isPlace_18 : decode cX12_isPlace 18 = .ok (.iload_n 2, 1) := getB' kX12_isPlace 10 rfl
theorem dX12_isPlace_19 : decode cX12_isPlace 19 = .ok (.if_icmp .ne 7, 3) := getB' kX12_isPlace 11 rfl
theorem dX12_isPlace_22 : decode cX12_isPlace 22 = .ok (.iconst 1, 1) := getB' kX12_isPlace 12 rfl
theorem dX12_isPlace_23 : decode cX12_isPlace 23 = .ok (.goto 4, 3) := getB' kX12_isPlace 13 rfl
theorem dX12_isPlace_26 : decode cX12_isPlace 26 = .ok (.iconst 0, 1) := getB' kX12_isPlace 14 rfl
theorem dX12_isPlace_27 : decode cX12_isPlace 27 = .ok (.ireturn, 1) := getB' kX12_isPlace 15 rfl
def LX12_isStation : List (Nat × Instr × Nat) := [(0, .aload_n 0, 1), (1, .iload_n 1, 1), (2, .iconst 1, 1), (3, .invokevirtual 399, 3), (6, .ireturn, 1)]
theorem kX12_isStation : chkB cX12_isStation LX12_isStation = true := by decide +kernel
theorem dX12_isStation_0 : decode cX12_isStation 0 = .ok (.aload_n 0, 1) := getB' kX12_isStation 0 rfl
theorem dX12_isStation_1 : decode cX12_isStation 1 = .ok (.iload_n 1, 1) := getB' kX12_isStation 1 rfl
theorem dX12_isStation_2 : decode cX12_isStation 2 = .ok (.iconst 1, 1) := getB' kX12_isStation 2 rfl
theorem dX12_isStation_3 : decode cX12_isStation 3 = .ok (.invokevirtual 399, 3) := getB' kX12_isStation 3 rfl
theorem dX12_isStation_6 : decode cX12_isStation 6 = .ok (.ireturn, 1) := getB' kX12_isStation 4 rfl
def LX12_stands : List (Nat × Instr × Nat) := [(0, .aload_n 0, 1), (1, .iload_n 1, 1), (2, .invokevirtual 403, 3), (5, .ifCond .eq 16, 3), (8, .aload_n 0, 1), (9, .getfield 80, 3), (12, .iload_n 1, 1), (13, .baload, 1), (14, .ifCond .ne 7, 3), (17, .iconst 1, 1), (18, .goto 4, 3), (21, .iconst 0, 1), (22, .ireturn, 1)]
theorem kX12_stands : chkB cX12_stands LX12_stands = true := by decide +kernel
theorem dX12_stands_0 : decode cX12_stands 0 = .ok (.aload_n 0, 1) := getB' kX12_stands 0 rfl
theorem dX12_stands_1 : decode cX12_stands 1 = .ok (.iload_n 1, 1) := getB' kX12_stands 1 rfl
theorem dX12_stands_2 : decode cX12_stands 2 = .ok (.invokevirtual 403, 3) := getB' kX12_stands 2 rfl
theorem dX12_stands_5 : decode cX12_stands 5 = .ok (.ifCond .eq 16, 3) := getB' kX12_stands 3 rfl
theorem dX12_stands_8 : decode cX12_stands 8 = .ok (.aload_n 0, 1) := getB' kX12_stands 4 rfl
theorem dX12_stands_9 : decode cX12_stands 9 = .ok (.getfield 80, 3) := getB' kX12_stands 5 rfl
theorem dX12_stands_12 : decode cX12_stands 12 = .ok (.iload_n 1, 1) := getB' kX12_stands 6 rfl
theorem dX12_stands_13 : decode cX12_stands 13 = .ok (.baload, 1) := getB' kX12_stands 7 rfl
theorem dX12_stands_14 : decode cX12_stands 14 = .ok (.ifCond .ne 7, 3) := getB' kX12_stands 8 rfl
theorem dX12_stands_17 : decode cX12_stands 17 = .ok (.iconst 1, 1) := getB' kX12_stands 9 rfl
theorem dX12_stands_18 : decode cX12_stands 18 = .ok (.goto 4, 3) := getB' kX12_stands 10 rfl
theorem dX12_stands_21 : decode cX12_stands 21 = .ok (.iconst 0, 1) := getB' kX12_stands 11 rfl
theorem dX12_stands_22 : decode cX12_stands 22 = .ok (.ireturn, 1) := getB' kX12_stands 12 rfl
def LX12_decidesOn : List (Nat × Instr × Nat) := [(0, .aload_n 0, 1), (1, .getfield 29, 3), (4, .iload_n 1, 1), (5, .iaload, 1), (6, .iconst (-1), 1), (7, .if_icmp .eq 17, 3), (10, .aload_n 0, 1), (11, .getfield 29, 3), (14, .iload_n 1, 1), (15, .iaload, 1), (16, .iload_n 2, 1), (17, .if_icmp .gt 7, 3), (20, .iconst 1, 1), (21, .goto 4, 3), (24, .iconst 0, 1), (25, .ireturn, 1)]
theorem kX12_decidesOn : chkB cX12_decidesOn LX12_decidesOn = true := by decide +kernel
theorem dX12_decidesOn_0 : decode cX12_decidesOn 0 = .ok (.aload_n 0, 1) := getB' kX12_decidesOn 0 rfl
theorem dX12_decidesOn_1 : decode cX12_decidesOn 1 = .ok (.getfield 29, 3) := getB' kX12_decidesOn 1 rfl
theorem dX12_decidesOn_4 : decode cX12_decidesOn 4 = .ok (.iload_n 1, 1) := getB' kX12_decidesOn 2 rfl
theorem dX12_decidesOn_5 : decode cX12_decidesOn 5 = .ok (.iaload, 1) := getB' kX12_decidesOn 3 rfl
theorem dX12_decidesOn_6 : decode cX12_decidesOn 6 = .ok (.iconst (-1), 1) := getB' kX12_decidesOn 4 rfl
theorem dX12_decidesOn_7 : decode cX12_decidesOn 7 = .ok (.if_icmp .eq 17, 3) := getB' kX12_decidesOn 5 rfl
theorem dX12_decidesOn_10 : decode cX12_decidesOn 10 = .ok (.aload_n 0, 1) := getB' kX12_decidesOn 6 rfl
theorem dX12_decidesOn_11 : decode cX12_decidesOn 11 = .ok (.getfield 29, 3) := getB' kX12_decidesOn 7 rfl
theorem dX12_decidesOn_14 : decode cX12_decidesOn 14 = .ok (.iload_n 1, 1) := getB' kX12_decidesOn 8 rfl
theorem dX12_decidesOn_15 : decode cX12_decidesOn 15 = .ok (.iaload, 1) := getB' kX12_decidesOn 9 rfl
theorem dX12_decidesOn_16 : decode cX12_decidesOn 16 = .ok (.iload_n 2, 1) := getB' kX12_decidesOn 10 rfl
theorem dX12_decidesOn_17 : decode cX12_decidesOn 17 = .ok (.if_icmp .gt 7, 3) := getB' kX12_decidesOn 11 rfl
theorem dX12_decidesOn_20 : decode cX12_decidesOn 20 = .ok (.iconst 1, 1) := getB' kX12_decidesOn 12 rfl
theorem dX12_decidesOn_21 : decode cX12_decidesOn 21 = .ok (.goto 4, 3) := getB' kX12_decidesOn 13 rfl
theorem dX12_decidesOn_24 : decode cX12_decidesOn 24 = .ok (.iconst 0, 1) := getB' kX12_decidesOn 14 rfl
theorem dX12_decidesOn_25 : decode cX12_decidesOn 25 = .ok (.ireturn, 1) := getB' kX12_decidesOn 15 rfl
def LX12_decides : List (Nat × Instr × Nat) := [(0, .aload_n 0, 1), (1, .iload_n 1, 1), (2, .invokevirtual 406, 3), (5, .ifCond .eq 10, 3), (8, .iload_n 2, 1), (9, .invokestatic 409, 3), (12, .ifCond .ne 5, 3), (15, .iconst (-1), 1), (16, .ireturn, 1), (17, .aload_n 0, 1), (18, .iload_n 1, 1), (19, .iload_n 2, 1), (20, .invokevirtual 412, 3), (23, .ifCond .eq 7, 3), (26, .iconst 1, 1), (27, .goto 4, 3), (30, .iconst 0, 1), (31, .ireturn, 1)]
theorem kX12_decides : chkB cX12_decides LX12_decides = true := by decide +kernel
theorem dX12_decides_0 : decode cX12_decides 0 = .ok (.aload_n 0, 1) := getB' kX12_decides 0 rfl
theorem dX12_decides_1 : decode cX12_decides 1 = .ok (.iload_n 1, 1) := getB' kX12_decides 1 rfl
theorem dX12_decides_2 : decode cX12_decides 2 = .ok (.invokevirtual 406, 3) := getB' kX12_decides 2 rfl
theorem dX12_decides_5 : decode cX12_decides 5 = .ok (.ifCond .eq 10, 3) := getB' kX12_decides 3 rfl
theorem dX12_decides_8 : decode cX12_decides 8 = .ok (.iload_n 2, 1) := getB' kX12_decides 4 rfl
theorem dX12_decides_9 : decode cX12_decides 9 = .ok (.invokestatic 409, 3) := getB' kX12_decides 5 rfl
theorem dX12_decides_12 : decode cX12_decides 12 = .ok (.ifCond .ne 5, 3) := getB' kX12_decides 6 rfl
theorem dX12_decides_15 : decode cX12_decides 15 = .ok (.iconst (-1), 1) := getB' kX12_decides 7 rfl
theorem dX12_decides_16 : decode cX12_decides 16 = .ok (.ireturn, 1) := getB' kX12_decides 8 rfl
theorem dX12_decides_17 : decode cX12_decides 17 = .ok (.aload_n 0, 1) := getB' kX12_decides 9 rfl
theorem dX12_decides_18 : decode cX12_decides 18 = .ok (.iload_n 1, 1) := getB' kX12_decides 10 rfl
theorem dX12_decides_19 : decode cX12_decides 19 = .ok (.iload_n 2, 1) := getB' kX12_decides 11 rfl
theorem dX12_decides_20 : decode cX12_decides 20 = .ok (.invokevirtual 412, 3) := getB' kX12_decides 12 rfl
theorem dX12_decides_23 : decode cX12_decides 23 = .ok (.ifCond .eq 7, 3) := getB' kX12_decides 13 rfl
theorem dX12_decides_26 : decode cX12_decides 26 = .ok (.iconst 1, 1) := getB' kX12_decides 14 rfl
theorem dX12_decides_27 : decode cX12_decides 27 = .ok (.goto 4, 3) := getB' kX12_decides 15 rfl
theorem dX12_decides_30 : decode cX12_decides 30 = .ok (.iconst 0, 1) := getB' kX12_decides 16 rfl
theorem dX12_decides_31 : decode cX12_decides 31 = .ok (.ireturn, 1) := getB' kX12_decides 17 rfl
def LX12_place : List (Nat × Instr × Nat) := [(0, .aload_n 0, 1), (1, .getfield 35, 3), (4, .aload_n 0, 1), (5, .getfield 375, 3), (8, .iload_n 1, 1), (9, .iastore, 1), (10, .aload_n 0, 1), (11, .getfield 38, 3), (14, .aload_n 0, 1), (15, .getfield 375, 3), (18, .iload_n 2, 1), (19, .iastore, 1), (20, .aload_n 0, 1), (21, .getfield 41, 3), (24, .aload_n 0, 1), (25, .getfield 375, 3), (28, .iload_n 3, 1), (29, .iastore, 1), (30, .aload_n 0, 1), (31, .getfield 44, 3), (34, .aload_n 0, 1), (35, .getfield 375, 3), (38, .iload 4, 2), (40, .iastore, 1), (41, .aload_n 0, 1), (42, .getfield 47, 3), (45, .aload_n 0, 1), (46, .getfield 375, 3), (49, .iload 5, 2), (51, .iastore, 1), (52, .aload_n 0, 1), (53, .getfield 50, 3), (56, .aload_n 0, 1), (57, .getfield 375, 3), (60, .aload_n 0, 1), (61, .getfield 396, 3), (64, .iastore, 1), (65, .aload_n 0, 1), (66, .aload_n 0, 1), (67, .getfield 375, 3), (70, .iconst 1, 1), (71, .iadd, 1), (72, .putfield 375, 3), (75, .aload_n 0, 1), (76, .getfield 375, 3), (79, .iconst 1, 1), (80, .isub, 1), (81, .ireturn, 1)]
theorem kX12_place : chkB cX12_place LX12_place = true := by decide +kernel
theorem dX12_place_0 : decode cX12_place 0 = .ok (.aload_n 0, 1) := getB' kX12_place 0 rfl
theorem dX12_place_1 : decode cX12_place 1 = .ok (.getfield 35, 3) := getB' kX12_place 1 rfl
theorem dX12_place_4 : decode cX12_place 4 = .ok (.aload_n 0, 1) := getB' kX12_place 2 rfl
theorem dX12_place_5 : decode cX12_place 5 = .ok (.getfield 375, 3) := getB' kX12_place 3 rfl
theorem dX12_place_8 : decode cX12_place 8 = .ok (.iload_n 1, 1) := getB' kX12_place 4 rfl
theorem dX12_place_9 : decode cX12_place 9 = .ok (.iastore, 1) := getB' kX12_place 5 rfl
theorem dX12_place_10 : decode cX12_place 10 = .ok (.aload_n 0, 1) := getB' kX12_place 6 rfl
theorem dX12_place_11 : decode cX12_place 11 = .ok (.getfield 38, 3) := getB' kX12_place 7 rfl
theorem dX12_place_14 : decode cX12_place 14 = .ok (.aload_n 0, 1) := getB' kX12_place 8 rfl
theorem dX12_place_15 : decode cX12_place 15 = .ok (.getfield 375, 3) := getB' kX12_place 9 rfl
theorem dX12_place_18 : decode cX12_place 18 = .ok (.iload_n 2, 1) := getB' kX12_place 10 rfl
theorem dX12_place_19 : decode cX12_place 19 = .ok (.iastore, 1) := getB' kX12_place 11 rfl
theorem dX12_place_20 : decode cX12_place 20 = .ok (.aload_n 0, 1) := getB' kX12_place 12 rfl
theorem dX12_place_21 : decode cX12_place 21 = .ok (.getfield 41, 3) := getB' kX12_place 13 rfl
theorem dX12_place_24 : decode cX12_place 24 = .ok (.aload_n 0, 1) := getB' kX12_place 14 rfl
theorem dX12_place_25 : decode cX12_place 25 = .ok (.getfield 375, 3) := getB' kX12_place 15 rfl
theorem dX12_place_28 : decode cX12_place 28 = .ok (.iload_n 3, 1) := getB' kX12_place 16 rfl
theorem dX12_place_29 : decode cX12_place 29 = .ok (.iastore, 1) := getB' kX12_place 17 rfl
theorem dX12_place_30 : decode cX12_place 30 = .ok (.aload_n 0, 1) := getB' kX12_place 18 rfl
theorem dX12_place_31 : decode cX12_place 31 = .ok (.getfield 44, 3) := getB' kX12_place 19 rfl
theorem dX12_place_34 : decode cX12_place 34 = .ok (.aload_n 0, 1) := getB' kX12_place 20 rfl
theorem dX12_place_35 : decode cX12_place 35 = .ok (.getfield 375, 3) := getB' kX12_place 21 rfl
theorem dX12_place_38 : decode cX12_place 38 = .ok (.iload 4, 2) := getB' kX12_place 22 rfl
theorem dX12_place_40 : decode cX12_place 40 = .ok (.iastore, 1) := getB' kX12_place 23 rfl
theorem dX12_place_41 : decode cX12_place 41 = .ok (.aload_n 0, 1) := getB' kX12_place 24 rfl
theorem dX12_place_42 : decode cX12_place 42 = .ok (.getfield 47, 3) := getB' kX12_place 25 rfl
theorem dX12_place_45 : decode cX12_place 45 = .ok (.aload_n 0, 1) := getB' kX12_place 26 rfl
theorem dX12_place_46 : decode cX12_place 46 = .ok (.getfield 375, 3) := getB' kX12_place 27 rfl
theorem dX12_place_49 : decode cX12_place 49 = .ok (.iload 5, 2) := getB' kX12_place 28 rfl
theorem dX12_place_51 : decode cX12_place 51 = .ok (.iastore, 1) := getB' kX12_place 29 rfl
theorem dX12_place_52 : decode cX12_place 52 = .ok (.aload_n 0, 1) := getB' kX12_place 30 rfl
theorem dX12_place_53 : decode cX12_place 53 = .ok (.getfield 50, 3) := getB' kX12_place 31 rfl
theorem dX12_place_56 : decode cX12_place 56 = .ok (.aload_n 0, 1) := getB' kX12_place 32 rfl
theorem dX12_place_57 : decode cX12_place 57 = .ok (.getfield 375, 3) := getB' kX12_place 33 rfl
theorem dX12_place_60 : decode cX12_place 60 = .ok (.aload_n 0, 1) := getB' kX12_place 34 rfl
theorem dX12_place_61 : decode cX12_place 61 = .ok (.getfield 396, 3) := getB' kX12_place 35 rfl
theorem dX12_place_64 : decode cX12_place 64 = .ok (.iastore, 1) := getB' kX12_place 36 rfl
theorem dX12_place_65 : decode cX12_place 65 = .ok (.aload_n 0, 1) := getB' kX12_place 37 rfl
theorem dX12_place_66 : decode cX12_place 66 = .ok (.aload_n 0, 1) := getB' kX12_place 38 rfl
theorem dX12_place_67 : decode cX12_place 67 = .ok (.getfield 375, 3) := getB' kX12_place 39 rfl
theorem dX12_place_70 : decode cX12_place 70 = .ok (.iconst 1, 1) := getB' kX12_place 40 rfl
theorem dX12_place_71 : decode cX12_place 71 = .ok (.iadd, 1) := getB' kX12_place 41 rfl
theorem dX12_place_72 : decode cX12_place 72 = .ok (.putfield 375, 3) := getB' kX12_place 42 rfl
theorem dX12_place_75 : decode cX12_place 75 = .ok (.aload_n 0, 1) := getB' kX12_place 43 rfl
theorem dX12_place_76 : decode cX12_place 76 = .ok (.getfield 375, 3) := getB' kX12_place 44 rfl
theorem dX12_place_79 : decode cX12_place 79 = .ok (.iconst 1, 1) := getB' kX12_place 45 rfl
theorem dX12_place_80 : decode cX12_place 80 = .ok (.isub, 1) := getB' kX12_place 46 rfl
theorem dX12_place_81 : decode cX12_place 81 = .ok (.ireturn, 1) := getB' kX12_place 47 rfl
def LX12_isRectangle : List (Nat × Instr × Nat) := [(0, .aload_n 0, 1), (1, .iload_n 1, 1), (2, .invokevirtual 381, 3), (5, .ifCond .eq 45, 3), (8, .aload_n 0, 1), (9, .iload_n 2, 1), (10, .invokevirtual 381, 3), (13, .ifCond .eq 37, 3), (16, .iload_n 1, 1), (17, .aload_n 0, 1), (18, .getfield 365, 3), (21, .irem, 1), (22, .iload_n 2, 1), (23, .aload_n 0, 1), (24, .getfield 365, 3), (27, .irem, 1), (28, .if_icmp .gt 22, 3), (31, .iload_n 1, 1), (32, .aload_n 0, 1), (33, .getfield 365, 3), (36, .idiv, 1), (37, .iload_n 2, 1), (38, .aload_n 0, 1), (39, .getfield 365, 3), (42, .idiv, 1), (43, .if_icmp .gt 7, 3), (46, .iconst 1, 1), (47, .goto 4, 3), (50, .iconst 0, 1), (51, .ireturn, 1)]
theorem kX12_isRectangle : chkB cX12_isRectangle LX12_isRectangle = true := by decide +kernel
theorem dX12_isRectangle_0 : decode cX12_isRectangle 0 = .ok (.aload_n 0, 1) := getB' kX12_isRectangle 0 rfl
theorem dX12_isRectangle_1 : decode cX12_isRectangle 1 = .ok (.iload_n 1, 1) := getB' kX12_isRectangle 1 rfl
theorem dX12_isRectangle_2 : decode cX12_isRectangle 2 = .ok (.invokevirtual 381, 3) := getB' kX12_isRectangle 2 rfl
theorem dX12_isRectangle_5 : decode cX12_isRectangle 5 = .ok (.ifCond .eq 45, 3) := getB' kX12_isRectangle 3 rfl
theorem dX12_isRectangle_8 : decode cX12_isRectangle 8 = .ok (.aload_n 0, 1) := getB' kX12_isRectangle 4 rfl
theorem dX12_isRectangle_9 : decode cX12_isRectangle 9 = .ok (.iload_n 2, 1) := getB' kX12_isRectangle 5 rfl
theorem dX12_isRectangle_10 : decode cX12_isRectangle 10 = .ok (.invokevirtual 381, 3) := getB' kX12_isRectangle 6 rfl
theorem dX12_isRectangle_13 : decode cX12_isRectangle 13 = .ok (.ifCond .eq 37, 3) := getB' kX12_isRectangle 7 rfl
theorem dX12_isRectangle_16 : decode cX12_isRectangle 16 = .ok (.iload_n 1, 1) := getB' kX12_isRectangle 8 rfl
theorem dX12_isRectangle_17 : decode cX12_isRectangle 17 = .ok (.aload_n 0, 1) := getB' kX12_isRectangle 9 rfl
theorem dX12_isRectangle_18 : decode cX12_isRectangle 18 = .ok (.getfield 365, 3) := getB' kX12_isRectangle 10 rfl
theorem dX12_isRectangle_21 : decode cX12_isRectangle 21 = .ok (.irem, 1) := getB' kX12_isRectangle 11 rfl
theorem dX12_isRectangle_22 : decode cX12_isRectangle 22 = .ok (.iload_n 2, 1) := getB' kX12_isRectangle 12 rfl
theorem dX12_isRectangle_23 : decode cX12_isRectangle 23 = .ok (.aload_n 0, 1) := getB' kX12_isRectangle 13 rfl
theorem dX12_isRectangle_24 : decode cX12_isRectangle 24 = .ok (.getfield 365, 3) := getB' kX12_isRectangle 14 rfl
theorem dX12_isRectangle_27 : decode cX12_isRectangle 27 = .ok (.irem, 1) := getB' kX12_isRectangle 15 rfl
theorem dX12_isRectangle_28 : decode cX12_isRectangle 28 = .ok (.if_icmp .gt 22, 3) := getB' kX12_isRectangle 16 rfl
theorem dX12_isRectangle_31 : decode cX12_isRectangle 31 = .ok (.iload_n 1, 1) := getB' kX12_isRectangle 17 rfl
theorem dX12_isRectangle_32 : decode cX12_isRectangle 32 = .ok (.aload_n 0, 1) := getB' kX12_isRectangle 18 rfl
theorem dX12_isRectangle_33 : decode cX12_isRectangle 33 = .ok (.getfield 365, 3) := getB' kX12_isRectangle 19 rfl
theorem dX12_isRectangle_36 : decode cX12_isRectangle 36 = .ok (.idiv, 1) := getB' kX12_isRectangle 20 rfl
theorem dX12_isRectangle_37 : decode cX12_isRectangle 37 = .ok (.iload_n 2, 1) := getB' kX12_isRectangle 21 rfl
theorem dX12_isRectangle_38 : decode cX12_isRectangle 38 = .ok (.aload_n 0, 1) := getB' kX12_isRectangle 22 rfl
theorem dX12_isRectangle_39 : decode cX12_isRectangle 39 = .ok (.getfield 365, 3) := getB' kX12_isRectangle 23 rfl
theorem dX12_isRectangle_42 : decode cX12_isRectangle 42 = .ok (.idiv, 1) := getB' kX12_isRectangle 24 rfl
theorem dX12_isRectangle_43 : decode cX12_isRectangle 43 = .ok (.if_icmp .gt 7, 3) := getB' kX12_isRectangle 25 rfl
theorem dX12_isRectangle_46 : decode cX12_isRectangle 46 = .ok (.iconst 1, 1) := getB' kX12_isRectangle 26 rfl
theorem dX12_isRectangle_47 : decode cX12_isRectangle 47 = .ok (.goto 4, 3) := getB' kX12_isRectangle 27 rfl
theorem dX12_isRectangle_50 : decode cX12_isRectangle 50 = .ok (.iconst 0, 1) := getB' kX12_isRectangle 28 rfl
theorem dX12_isRectangle_51 : decode cX12_isRectangle 51 = .ok (.ireturn, 1) := getB' kX12_isRectangle 29 rfl
def LX12_isIn : List (Nat × Instr × Nat) := [(0, .iload_n 1, 1), (1, .aload_n 0, 1), (2, .getfield 365, 3), (5, .irem, 1), (6, .aload_n 0, 1), (7, .getfield 41, 3), (10, .iload_n 2, 1), (11, .iaload, 1), (12, .aload_n 0, 1), (13, .getfield 365, 3), (16, .irem, 1), (17, .aload_n 0, 1), (18, .getfield 44, 3), (21, .iload_n 2, 1), (22, .iaload, 1), (23, .aload_n 0, 1), (24, .getfield 365, 3), (27, .irem, 1), (28, .invokestatic 371, 3), (31, .ifCond .eq 41, 3), (34, .iload_n 1, 1), (35, .aload_n 0, 1), (36, .getfield 365, 3), (39, .idiv, 1), (40, .aload_n 0, 1), (41, .getfield 41, 3), (44, .iload_n 2, 1), (45, .iaload, 1), (46, .aload_n 0, 1), (47, .getfield 365, 3), (50, .idiv, 1), (51, .aload_n 0, 1), (52, .getfield 44, 3), (55, .iload_n 2, 1), (56, .iaload, 1), (57, .aload_n 0, 1), (58, .getfield 365, 3), (61, .idiv, 1), (62, .invokestatic 371, 3), (65, .ifCond .eq 7, 3), (68, .iconst 1, 1), (69, .goto 4, 3), (72, .iconst 0, 1), (73, .ireturn, 1)]
theorem kX12_isIn : chkB cX12_isIn LX12_isIn = true := by decide +kernel
theorem dX12_isIn_0 : decode cX12_isIn 0 = .ok (.iload_n 1, 1) := getB' kX12_isIn 0 rfl
theorem dX12_isIn_1 : decode cX12_isIn 1 = .ok (.aload_n 0, 1) := getB' kX12_isIn 1 rfl
theorem dX12_isIn_2 : decode cX12_isIn 2 = .ok (.getfield 365, 3) := getB' kX12_isIn 2 rfl
theorem dX12_isIn_5 : decode cX12_isIn 5 = .ok (.irem, 1) := getB' kX12_isIn 3 rfl
theorem dX12_isIn_6 : decode cX12_isIn 6 = .ok (.aload_n 0, 1) := getB' kX12_isIn 4 rfl
theorem dX12_isIn_7 : decode cX12_isIn 7 = .ok (.getfield 41, 3) := getB' kX12_isIn 5 rfl
theorem dX12_isIn_10 : decode cX12_isIn 10 = .ok (.iload_n 2, 1) := getB' kX12_isIn 6 rfl
theorem dX12_isIn_11 : decode cX12_isIn 11 = .ok (.iaload, 1) := getB' kX12_isIn 7 rfl
theorem dX12_isIn_12 : decode cX12_isIn 12 = .ok (.aload_n 0, 1) := getB' kX12_isIn 8 rfl
theorem dX12_isIn_13 : decode cX12_isIn 13 = .ok (.getfield 365, 3) := getB' kX12_isIn 9 rfl
theorem dX12_isIn_16 : decode cX12_isIn 16 = .ok (.irem, 1) := getB' kX12_isIn 10 rfl
theorem dX12_isIn_17 : decode cX12_isIn 17 = .ok (.aload_n 0, 1) := getB' kX12_isIn 11 rfl
theorem dX12_isIn_18 : decode cX12_isIn 18 = .ok (.getfield 44, 3) := getB' kX12_isIn 12 rfl
theorem dX12_isIn_21 : decode cX12_isIn 21 = .ok (.iload_n 2, 1) := getB' kX12_isIn 13 rfl
theorem dX12_isIn_22 : decode cX12_isIn 22 = .ok (.iaload, 1) := getB' kX12_isIn 14 rfl
theorem dX12_isIn_23 : decode cX12_isIn 23 = .ok (.aload_n 0, 1) := getB' kX12_isIn 15 rfl
theorem dX12_isIn_24 : decode cX12_isIn 24 = .ok (.getfield 365, 3) := getB' kX12_isIn 16 rfl
theorem dX12_isIn_27 : decode cX12_isIn 27 = .ok (.irem, 1) := getB' kX12_isIn 17 rfl
theorem dX12_isIn_28 : decode cX12_isIn 28 = .ok (.invokestatic 371, 3) := getB' kX12_isIn 18 rfl
theorem dX12_isIn_31 : decode cX12_isIn 31 = .ok (.ifCond .eq 41, 3) := getB' kX12_isIn 19 rfl
theorem dX12_isIn_34 : decode cX12_isIn 34 = .ok (.iload_n 1, 1) := getB' kX12_isIn 20 rfl
theorem dX12_isIn_35 : decode cX12_isIn 35 = .ok (.aload_n 0, 1) := getB' kX12_isIn 21 rfl
theorem dX12_isIn_36 : decode cX12_isIn 36 = .ok (.getfield 365, 3) := getB' kX12_isIn 22 rfl
theorem dX12_isIn_39 : decode cX12_isIn 39 = .ok (.idiv, 1) := getB' kX12_isIn 23 rfl
theorem dX12_isIn_40 : decode cX12_isIn 40 = .ok (.aload_n 0, 1) := getB' kX12_isIn 24 rfl
theorem dX12_isIn_41 : decode cX12_isIn 41 = .ok (.getfield 41, 3) := getB' kX12_isIn 25 rfl
theorem dX12_isIn_44 : decode cX12_isIn 44 = .ok (.iload_n 2, 1) := getB' kX12_isIn 26 rfl
theorem dX12_isIn_45 : decode cX12_isIn 45 = .ok (.iaload, 1) := getB' kX12_isIn 27 rfl
theorem dX12_isIn_46 : decode cX12_isIn 46 = .ok (.aload_n 0, 1) := getB' kX12_isIn 28 rfl
theorem dX12_isIn_47 : decode cX12_isIn 47 = .ok (.getfield 365, 3) := getB' kX12_isIn 29 rfl
theorem dX12_isIn_50 : decode cX12_isIn 50 = .ok (.idiv, 1) := getB' kX12_isIn 30 rfl
theorem dX12_isIn_51 : decode cX12_isIn 51 = .ok (.aload_n 0, 1) := getB' kX12_isIn 31 rfl
theorem dX12_isIn_52 : decode cX12_isIn 52 = .ok (.getfield 44, 3) := getB' kX12_isIn 32 rfl
theorem dX12_isIn_55 : decode cX12_isIn 55 = .ok (.iload_n 2, 1) := getB' kX12_isIn 33 rfl
theorem dX12_isIn_56 : decode cX12_isIn 56 = .ok (.iaload, 1) := getB' kX12_isIn 34 rfl
theorem dX12_isIn_57 : decode cX12_isIn 57 = .ok (.aload_n 0, 1) := getB' kX12_isIn 35 rfl
theorem dX12_isIn_58 : decode cX12_isIn 58 = .ok (.getfield 365, 3) := getB' kX12_isIn 36 rfl
theorem dX12_isIn_61 : decode cX12_isIn 61 = .ok (.idiv, 1) := getB' kX12_isIn 37 rfl
theorem dX12_isIn_62 : decode cX12_isIn 62 = .ok (.invokestatic 371, 3) := getB' kX12_isIn 38 rfl
theorem dX12_isIn_65 : decode cX12_isIn 65 = .ok (.ifCond .eq 7, 3) := getB' kX12_isIn 39 rfl
theorem dX12_isIn_68 : decode cX12_isIn 68 = .ok (.iconst 1, 1) := getB' kX12_isIn 40 rfl
theorem dX12_isIn_69 : decode cX12_isIn 69 = .ok (.goto 4, 3) := getB' kX12_isIn 41 rfl
theorem dX12_isIn_72 : decode cX12_isIn 72 = .ok (.iconst 0, 1) := getB' kX12_isIn 42 rfl
theorem dX12_isIn_73 : decode cX12_isIn 73 = .ok (.ireturn, 1) := getB' kX12_isIn 43 rfl
def LX12_claim : List (Nat × Instr × Nat) := [(0, .aload_n 0, 1), (1, .iload_n 1, 1), (2, .invokevirtual 406, 3), (5, .ifCond .eq 45, 3), (8, .aload_n 0, 1), (9, .iload_n 2, 1), (10, .iload_n 3, 1), (11, .invokevirtual 415, 3), (14, .ifCond .eq 36, 3), (17, .iload 4, 2), (19, .iconst 0, 1), (20, .sipush 999, 3), (23, .invokestatic 371, 3), (26, .ifCond .eq 24, 3), (29, .aload_n 0, 1), (30, .getfield 375, 3), (33, .bipush 60, 2), (35, .if_icmp .eq 15, 3), (38, .aload_n 0, 1), (39, .iload_n 1, 1), (40, .aload_n 0, 1), (41, .getfield 396, 3), (44, .invokevirtual 418, 3), (47, .ifCond .eq 5, 3), (50, .iconst (-1), 1), (51, .ireturn, 1), (52, .aload_n 0, 1), (53, .iconst 0, 1), (54, .iload_n 1, 1), (55, .iload_n 2, 1), (56, .iload_n 3, 1), (57, .iload 4, 2), (59, .invokevirtual 421, 3), (62, .ireturn, 1)]
theorem kX12_claim : chkB cX12_claim LX12_claim = true := by decide +kernel
theorem dX12_claim_0 : decode cX12_claim 0 = .ok (.aload_n 0, 1) := getB' kX12_claim 0 rfl
theorem dX12_claim_1 : decode cX12_claim 1 = .ok (.iload_n 1, 1) := getB' kX12_claim 1 rfl
theorem dX12_claim_2 : decode cX12_claim 2 = .ok (.invokevirtual 406, 3) := getB' kX12_claim 2 rfl
theorem dX12_claim_5 : decode cX12_claim 5 = .ok (.ifCond .eq 45, 3) := getB' kX12_claim 3 rfl
theorem dX12_claim_8 : decode cX12_claim 8 = .ok (.aload_n 0, 1) := getB' kX12_claim 4 rfl
theorem dX12_claim_9 : decode cX12_claim 9 = .ok (.iload_n 2, 1) := getB' kX12_claim 5 rfl
theorem dX12_claim_10 : decode cX12_claim 10 = .ok (.iload_n 3, 1) := getB' kX12_claim 6 rfl
theorem dX12_claim_11 : decode cX12_claim 11 = .ok (.invokevirtual 415, 3) := getB' kX12_claim 7 rfl
theorem dX12_claim_14 : decode cX12_claim 14 = .ok (.ifCond .eq 36, 3) := getB' kX12_claim 8 rfl
theorem dX12_claim_17 : decode cX12_claim 17 = .ok (.iload 4, 2) := getB' kX12_claim 9 rfl
theorem dX12_claim_19 : decode cX12_claim 19 = .ok (.iconst 0, 1) := getB' kX12_claim 10 rfl
theorem dX12_claim_20 : decode cX12_claim 20 = .ok (.sipush 999, 3) := getB' kX12_claim 11 rfl
theorem dX12_claim_23 : decode cX12_claim 23 = .ok (.invokestatic 371, 3) := getB' kX12_claim 12 rfl
theorem dX12_claim_26 : decode cX12_claim 26 = .ok (.ifCond .eq 24, 3) := getB' kX12_claim 13 rfl
theorem dX12_claim_29 : decode cX12_claim 29 = .ok (.aload_n 0, 1) := getB' kX12_claim 14 rfl
theorem dX12_claim_30 : decode cX12_claim 30 = .ok (.getfield 375, 3) := getB' kX12_claim 15 rfl
theorem dX12_claim_33 : decode cX12_claim 33 = .ok (.bipush 60, 2) := getB' kX12_claim 16 rfl
theorem dX12_claim_35 : decode cX12_claim 35 = .ok (.if_icmp .eq 15, 3) := getB' kX12_claim 17 rfl
theorem dX12_claim_38 : decode cX12_claim 38 = .ok (.aload_n 0, 1) := getB' kX12_claim 18 rfl
theorem dX12_claim_39 : decode cX12_claim 39 = .ok (.iload_n 1, 1) := getB' kX12_claim 19 rfl
theorem dX12_claim_40 : decode cX12_claim 40 = .ok (.aload_n 0, 1) := getB' kX12_claim 20 rfl
theorem dX12_claim_41 : decode cX12_claim 41 = .ok (.getfield 396, 3) := getB' kX12_claim 21 rfl
theorem dX12_claim_44 : decode cX12_claim 44 = .ok (.invokevirtual 418, 3) := getB' kX12_claim 22 rfl
theorem dX12_claim_47 : decode cX12_claim 47 = .ok (.ifCond .eq 5, 3) := getB' kX12_claim 23 rfl
theorem dX12_claim_50 : decode cX12_claim 50 = .ok (.iconst (-1), 1) := getB' kX12_claim 24 rfl
theorem dX12_claim_51 : decode cX12_claim 51 = .ok (.ireturn, 1) := getB' kX12_claim 25 rfl
theorem dX12_claim_52 : decode cX12_claim 52 = .ok (.aload_n 0, 1) := getB' kX12_claim 26 rfl
theorem dX12_claim_53 : decode cX12_claim 53 = .ok (.iconst 0, 1) := getB' kX12_claim 27 rfl
theorem dX12_claim_54 : decode cX12_claim 54 = .ok (.iload_n 1, 1) := getB' kX12_claim 28 rfl
theorem dX12_claim_55 : decode cX12_claim 55 = .ok (.iload_n 2, 1) := getB' kX12_claim 29 rfl
theorem dX12_claim_56 : decode cX12_claim 56 = .ok (.iload_n 3, 1) := getB' kX12_claim 30 rfl
theorem dX12_claim_57 : decode cX12_claim 57 = .ok (.iload 4, 2) := getB' kX12_claim 31 rfl
theorem dX12_claim_59 : decode cX12_claim 59 = .ok (.invokevirtual 421, 3) := getB' kX12_claim 32 rfl
theorem dX12_claim_62 : decode cX12_claim 62 = .ok (.ireturn, 1) := getB' kX12_claim 33 rfl
def LX12_title : List (Nat × Instr × Nat) := [(0, .aload_n 0, 1), (1, .iload_n 1, 1), (2, .iconst 0, 1), (3, .invokevirtual 399, 3), (6, .ifCond .eq 41, 3), (9, .iload_n 2, 1), (10, .iconst 0, 1), (11, .sipush 999, 3), (14, .invokestatic 371, 3), (17, .ifCond .eq 30, 3), (20, .iload_n 2, 1), (21, .aload_n 0, 1), (22, .getfield 47, 3), (25, .iload_n 1, 1), (26, .iaload, 1), (27, .if_icmp .le 22, 3), (30, .aload_n 0, 1), (31, .aload_n 0, 1), (32, .getfield 38, 3), (35, .iload_n 1, 1), (36, .iaload, 1), (37, .aload_n 0, 1), (38, .getfield 396, 3), (41, .invokevirtual 418, 3), (44, .ifCond .eq 5, 3), (47, .iconst 0, 1), (48, .ireturn, 1), (49, .aload_n 0, 1), (50, .getfield 47, 3), (53, .iload_n 1, 1), (54, .iload_n 2, 1), (55, .iastore, 1), (56, .iconst 1, 1), (57, .ireturn, 1)]
theorem kX12_title : chkB cX12_title LX12_title = true := by decide +kernel
theorem dX12_title_0 : decode cX12_title 0 = .ok (.aload_n 0, 1) := getB' kX12_title 0 rfl
theorem dX12_title_1 : decode cX12_title 1 = .ok (.iload_n 1, 1) := getB' kX12_title 1 rfl
theorem dX12_title_2 : decode cX12_title 2 = .ok (.iconst 0, 1) := getB' kX12_title 2 rfl
theorem dX12_title_3 : decode cX12_title 3 = .ok (.invokevirtual 399, 3) := getB' kX12_title 3 rfl
theorem dX12_title_6 : decode cX12_title 6 = .ok (.ifCond .eq 41, 3) := getB' kX12_title 4 rfl
theorem dX12_title_9 : decode cX12_title 9 = .ok (.iload_n 2, 1) := getB' kX12_title 5 rfl
theorem dX12_title_10 : decode cX12_title 10 = .ok (.iconst 0, 1) := getB' kX12_title 6 rfl
theorem dX12_title_11 : decode cX12_title 11 = .ok (.sipush 999, 3) := getB' kX12_title 7 rfl
theorem dX12_title_14 : decode cX12_title 14 = .ok (.invokestatic 371, 3) := getB' kX12_title 8 rfl
theorem dX12_title_17 : decode cX12_title 17 = .ok (.ifCond .eq 30, 3) := getB' kX12_title 9 rfl
theorem dX12_title_20 : decode cX12_title 20 = .ok (.iload_n 2, 1) := getB' kX12_title 10 rfl
theorem dX12_title_21 : decode cX12_title 21 = .ok (.aload_n 0, 1) := getB' kX12_title 11 rfl
theorem dX12_title_22 : decode cX12_title 22 = .ok (.getfield 47, 3) := getB' kX12_title 12 rfl
theorem dX12_title_25 : decode cX12_title 25 = .ok (.iload_n 1, 1) := getB' kX12_title 13 rfl
theorem dX12_title_26 : decode cX12_title 26 = .ok (.iaload, 1) := getB' kX12_title 14 rfl
theorem dX12_title_27 : decode cX12_title 27 = .ok (.if_icmp .le 22, 3) := getB' kX12_title 15 rfl
theorem dX12_title_30 : decode cX12_title 30 = .ok (.aload_n 0, 1) := getB' kX12_title 16 rfl
theorem dX12_title_31 : decode cX12_title 31 = .ok (.aload_n 0, 1) := getB' kX12_title 17 rfl
theorem dX12_title_32 : decode cX12_title 32 = .ok (.getfield 38, 3) := getB' kX12_title 18 rfl
theorem dX12_title_35 : decode cX12_title 35 = .ok (.iload_n 1, 1) := getB' kX12_title 19 rfl
theorem dX12_title_36 : decode cX12_title 36 = .ok (.iaload, 1) := getB' kX12_title 20 rfl
theorem dX12_title_37 : decode cX12_title 37 = .ok (.aload_n 0, 1) := getB' kX12_title 21 rfl
theorem dX12_title_38 : decode cX12_title 38 = .ok (.getfield 396, 3) := getB' kX12_title 22 rfl
theorem dX12_title_41 : decode cX12_title 41 = .ok (.invokevirtual 418, 3) := getB' kX12_title 23 rfl
theorem dX12_title_44 : decode cX12_title 44 = .ok (.ifCond .eq 5, 3) := getB' kX12_title 24 rfl
theorem dX12_title_47 : decode cX12_title 47 = .ok (.iconst 0, 1) := getB' kX12_title 25 rfl
theorem dX12_title_48 : decode cX12_title 48 = .ok (.ireturn, 1) := getB' kX12_title 26 rfl
theorem dX12_title_49 : decode cX12_title 49 = .ok (.aload_n 0, 1) := getB' kX12_title 27 rfl
theorem dX12_title_50 : decode cX12_title 50 = .ok (.getfield 47, 3) := getB' kX12_title 28 rfl
theorem dX12_title_53 : decode cX12_title 53 = .ok (.iload_n 1, 1) := getB' kX12_title 29 rfl
theorem dX12_title_54 : decode cX12_title 54 = .ok (.iload_n 2, 1) := getB' kX12_title 30 rfl
theorem dX12_title_55 : decode cX12_title 55 = .ok (.iastore, 1) := getB' kX12_title 31 rfl
theorem dX12_title_56 : decode cX12_title 56 = .ok (.iconst 1, 1) := getB' kX12_title 32 rfl
theorem dX12_title_57 : decode cX12_title 57 = .ok (.ireturn, 1) := getB' kX12_title 33 rfl
def LX12_station : List (Nat × Instr × Nat) := [(0, .aload_n 0, 1), (1, .iload_n 1, 1), (2, .invokevirtual 406, 3), (5, .ifCond .eq 51, 3), (8, .aload_n 0, 1), (9, .iload_n 2, 1), (10, .invokevirtual 381, 3), (13, .ifCond .eq 43, 3), (16, .aload_n 0, 1), (17, .iload_n 2, 1), (18, .invokevirtual 425, 3), (21, .ifCond .eq 35, 3), (24, .iload_n 3, 1), (25, .iconst 0, 1), (26, .sipush 500, 3), (29, .invokestatic 371, 3), (32, .ifCond .eq 24, 3), (35, .iload 4, 2), (37, .iconst 0, 1), (38, .ldc_w 428, 3), (41, .invokestatic 371, 3), (44, .ifCond .eq 12, 3), (47, .aload_n 0, 1), (48, .getfield 375, 3), (51, .bipush 60, 2), (53, .if_icmp .ne 5, 3), (56, .iconst (-1), 1), (57, .ireturn, 1), (58, .aload_n 0, 1), (59, .getfield 53, 3), (62, .aload_n 0, 1), (63, .getfield 375, 3), (66, .iload_n 3, 1), (67, .iastore, 1), (68, .aload_n 0, 1), (69, .getfield 56, 3), (72, .aload_n 0, 1), (73, .getfield 375, 3), (76, .iload 4, 2), (78, .iastore, 1), (79, .aload_n 0, 1), (80, .aload_n 0, 1), (81, .getfield 429, 3), (84, .iload 4, 2), (86, .i2l, 1), (87, .ladd, 1), (88, .putfield 429, 3), (91, .aload_n 0, 1), (92, .iconst 1, 1), (93, .iload_n 1, 1), (94, .iload_n 2, 1), (95, .iconst (-1), 1), (96, .iconst 0, 1), (97, .invokevirtual 421, 3), (100, .ireturn, 1)]
theorem kX12_station : chkB cX12_station LX12_station = true := by decide +kernel
theorem dX12_station_0 : decode cX12_station 0 = .ok (.aload_n 0, 1) := getB' kX12_station 0 rfl
theorem dX12_station_1 : decode cX12_station 1 = .ok (.iload_n 1, 1) := getB' kX12_station 1 rfl
theorem dX12_station_2 : decode cX12_station 2 = .ok (.invokevirtual 406, 3) := getB' kX12_station 2 rfl
theorem dX12_station_5 : decode cX12_station 5 = .ok (.ifCond .eq 51, 3) := getB' kX12_station 3 rfl
theorem dX12_station_8 : decode cX12_station 8 = .ok (.aload_n 0, 1) := getB' kX12_station 4 rfl
theorem dX12_station_9 : decode cX12_station 9 = .ok (.iload_n 2, 1) := getB' kX12_station 5 rfl
theorem dX12_station_10 : decode cX12_station 10 = .ok (.invokevirtual 381, 3) := getB' kX12_station 6 rfl
theorem dX12_station_13 : decode cX12_station 13 = .ok (.ifCond .eq 43, 3) := getB' kX12_station 7 rfl
theorem dX12_station_16 : decode cX12_station 16 = .ok (.aload_n 0, 1) := getB' kX12_station 8 rfl
theorem dX12_station_17 : decode cX12_station 17 = .ok (.iload_n 2, 1) := getB' kX12_station 9 rfl
theorem dX12_station_18 : decode cX12_station 18 = .ok (.invokevirtual 425, 3) := getB' kX12_station 10 rfl
theorem dX12_station_21 : decode cX12_station 21 = .ok (.ifCond .eq 35, 3) := getB' kX12_station 11 rfl
theorem dX12_station_24 : decode cX12_station 24 = .ok (.iload_n 3, 1) := getB' kX12_station 12 rfl
theorem dX12_station_25 : decode cX12_station 25 = .ok (.iconst 0, 1) := getB' kX12_station 13 rfl
theorem dX12_station_26 : decode cX12_station 26 = .ok (.sipush 500, 3) := getB' kX12_station 14 rfl
theorem dX12_station_29 : decode cX12_station 29 = .ok (.invokestatic 371, 3) := getB' kX12_station 15 rfl
theorem dX12_station_32 : decode cX12_station 32 = .ok (.ifCond .eq 24, 3) := getB' kX12_station 16 rfl
theorem dX12_station_35 : decode cX12_station 35 = .ok (.iload 4, 2) := getB' kX12_station 17 rfl
theorem dX12_station_37 : decode cX12_station 37 = .ok (.iconst 0, 1) := getB' kX12_station 18 rfl
theorem dX12_station_38 : decode cX12_station 38 = .ok (.ldc_w 428, 3) := getB' kX12_station 19 rfl
theorem dX12_station_41 : decode cX12_station 41 = .ok (.invokestatic 371, 3) := getB' kX12_station 20 rfl
theorem dX12_station_44 : decode cX12_station 44 = .ok (.ifCond .eq 12, 3) := getB' kX12_station 21 rfl
theorem dX12_station_47 : decode cX12_station 47 = .ok (.aload_n 0, 1) := getB' kX12_station 22 rfl
theorem dX12_station_48 : decode cX12_station 48 = .ok (.getfield 375, 3) := getB' kX12_station 23 rfl
theorem dX12_station_51 : decode cX12_station 51 = .ok (.bipush 60, 2) := getB' kX12_station 24 rfl
theorem dX12_station_53 : decode cX12_station 53 = .ok (.if_icmp .ne 5, 3) := getB' kX12_station 25 rfl
theorem dX12_station_56 : decode cX12_station 56 = .ok (.iconst (-1), 1) := getB' kX12_station 26 rfl
theorem dX12_station_57 : decode cX12_station 57 = .ok (.ireturn, 1) := getB' kX12_station 27 rfl
theorem dX12_station_58 : decode cX12_station 58 = .ok (.aload_n 0, 1) := getB' kX12_station 28 rfl
theorem dX12_station_59 : decode cX12_station 59 = .ok (.getfield 53, 3) := getB' kX12_station 29 rfl
theorem dX12_station_62 : decode cX12_station 62 = .ok (.aload_n 0, 1) := getB' kX12_station 30 rfl
theorem dX12_station_63 : decode cX12_station 63 = .ok (.getfield 375, 3) := getB' kX12_station 31 rfl
theorem dX12_station_66 : decode cX12_station 66 = .ok (.iload_n 3, 1) := getB' kX12_station 32 rfl
theorem dX12_station_67 : decode cX12_station 67 = .ok (.iastore, 1) := getB' kX12_station 33 rfl
theorem dX12_station_68 : decode cX12_station 68 = .ok (.aload_n 0, 1) := getB' kX12_station 34 rfl
theorem dX12_station_69 : decode cX12_station 69 = .ok (.getfield 56, 3) := getB' kX12_station 35 rfl
theorem dX12_station_72 : decode cX12_station 72 = .ok (.aload_n 0, 1) := getB' kX12_station 36 rfl
theorem dX12_station_73 : decode cX12_station 73 = .ok (.getfield 375, 3) := getB' kX12_station 37 rfl
theorem dX12_station_76 : decode cX12_station 76 = .ok (.iload 4, 2) := getB' kX12_station 38 rfl
theorem dX12_station_78 : decode cX12_station 78 = .ok (.iastore, 1) := getB' kX12_station 39 rfl
theorem dX12_station_79 : decode cX12_station 79 = .ok (.aload_n 0, 1) := getB' kX12_station 40 rfl
theorem dX12_station_80 : decode cX12_station 80 = .ok (.aload_n 0, 1) := getB' kX12_station 41 rfl
theorem dX12_station_81 : decode cX12_station 81 = .ok (.getfield 429, 3) := getB' kX12_station 42 rfl
theorem dX12_station_84 : decode cX12_station 84 = .ok (.iload 4, 2) := getB' kX12_station 43 rfl
theorem dX12_station_86 : decode cX12_station 86 = .ok (.i2l, 1) := getB' kX12_station 44 rfl
theorem dX12_station_87 : decode cX12_station 87 = .ok (.ladd, 1) := getB' kX12_station 45 rfl
theorem dX12_station_88 : decode cX12_station 88 = .ok (.putfield 429, 3) := getB' kX12_station 46 rfl
theorem dX12_station_91 : decode cX12_station 91 = .ok (.aload_n 0, 1) := getB' kX12_station 47 rfl
theorem dX12_station_92 : decode cX12_station 92 = .ok (.iconst 1, 1) := getB' kX12_station 48 rfl
theorem dX12_station_93 : decode cX12_station 93 = .ok (.iload_n 1, 1) := getB' kX12_station 49 rfl
theorem dX12_station_94 : decode cX12_station 94 = .ok (.iload_n 2, 1) := getB' kX12_station 50 rfl
theorem dX12_station_95 : decode cX12_station 95 = .ok (.iconst (-1), 1) := getB' kX12_station 51 rfl
theorem dX12_station_96 : decode cX12_station 96 = .ok (.iconst 0, 1) := getB' kX12_station 52 rfl
theorem dX12_station_97 : decode cX12_station 97 = .ok (.invokevirtual 421, 3) := getB' kX12_station 53 rfl
theorem dX12_station_100 : decode cX12_station 100 = .ok (.ireturn, 1) := getB' kX12_station 54 rfl
def LX12_field : List (Nat × Instr × Nat) := [(0, .aload_n 0, 1), (1, .iload_n 1, 1), (2, .invokevirtual 433, 3), (5, .ifCond .eq 28, 3), (8, .aload_n 0, 1), (9, .iload_n 2, 1), (10, .invokevirtual 381, 3), (13, .ifCond .eq 20, 3), (16, .aload_n 0, 1), (17, .iload_n 2, 1), (18, .invokevirtual 425, 3), (21, .ifCond .eq 12, 3), (24, .aload_n 0, 1), (25, .getfield 375, 3), (28, .bipush 60, 2), (30, .if_icmp .ne 5, 3), (33, .iconst (-1), 1), (34, .ireturn, 1), (35, .aload_n 0, 1), (36, .iconst 2, 1), (37, .aload_n 0, 1), (38, .getfield 38, 3), (41, .iload_n 1, 1), (42, .iaload, 1), (43, .iload_n 2, 1), (44, .iconst (-1), 1), (45, .iload_n 1, 1), (46, .invokevirtual 421, 3), (49, .ireturn, 1)]
theorem kX12_field : chkB cX12_field LX12_field = true := by decide +kernel
theorem dX12_field_0 : decode cX12_field 0 = .ok (.aload_n 0, 1) := getB' kX12_field 0 rfl
theorem dX12_field_1 : decode cX12_field 1 = .ok (.iload_n 1, 1) := getB' kX12_field 1 rfl
theorem dX12_field_2 : decode cX12_field 2 = .ok (.invokevirtual 433, 3) := getB' kX12_field 2 rfl
theorem dX12_field_5 : decode cX12_field 5 = .ok (.ifCond .eq 28, 3) := getB' kX12_field 3 rfl
theorem dX12_field_8 : decode cX12_field 8 = .ok (.aload_n 0, 1) := getB' kX12_field 4 rfl
theorem dX12_field_9 : decode cX12_field 9 = .ok (.iload_n 2, 1) := getB' kX12_field 5 rfl
theorem dX12_field_10 : decode cX12_field 10 = .ok (.invokevirtual 381, 3) := getB' kX12_field 6 rfl
theorem dX12_field_13 : decode cX12_field 13 = .ok (.ifCond .eq 20, 3) := getB' kX12_field 7 rfl
theorem dX12_field_16 : decode cX12_field 16 = .ok (.aload_n 0, 1) := getB' kX12_field 8 rfl
theorem dX12_field_17 : decode cX12_field 17 = .ok (.iload_n 2, 1) := getB' kX12_field 9 rfl
theorem dX12_field_18 : decode cX12_field 18 = .ok (.invokevirtual 425, 3) := getB' kX12_field 10 rfl
theorem dX12_field_21 : decode cX12_field 21 = .ok (.ifCond .eq 12, 3) := getB' kX12_field 11 rfl
theorem dX12_field_24 : decode cX12_field 24 = .ok (.aload_n 0, 1) := getB' kX12_field 12 rfl
theorem dX12_field_25 : decode cX12_field 25 = .ok (.getfield 375, 3) := getB' kX12_field 13 rfl
theorem dX12_field_28 : decode cX12_field 28 = .ok (.bipush 60, 2) := getB' kX12_field 14 rfl
theorem dX12_field_30 : decode cX12_field 30 = .ok (.if_icmp .ne 5, 3) := getB' kX12_field 15 rfl
theorem dX12_field_33 : decode cX12_field 33 = .ok (.iconst (-1), 1) := getB' kX12_field 16 rfl
theorem dX12_field_34 : decode cX12_field 34 = .ok (.ireturn, 1) := getB' kX12_field 17 rfl
theorem dX12_field_35 : decode cX12_field 35 = .ok (.aload_n 0, 1) := getB' kX12_field 18 rfl
theorem dX12_field_36 : decode cX12_field 36 = .ok (.iconst 2, 1) := getB' kX12_field 19 rfl
theorem dX12_field_37 : decode cX12_field 37 = .ok (.aload_n 0, 1) := getB' kX12_field 20 rfl
theorem dX12_field_38 : decode cX12_field 38 = .ok (.getfield 38, 3) := getB' kX12_field 21 rfl
theorem dX12_field_41 : decode cX12_field 41 = .ok (.iload_n 1, 1) := getB' kX12_field 22 rfl
theorem dX12_field_42 : decode cX12_field 42 = .ok (.iaload, 1) := getB' kX12_field 23 rfl
theorem dX12_field_43 : decode cX12_field 43 = .ok (.iload_n 2, 1) := getB' kX12_field 24 rfl
theorem dX12_field_44 : decode cX12_field 44 = .ok (.iconst (-1), 1) := getB' kX12_field 25 rfl
theorem dX12_field_45 : decode cX12_field 45 = .ok (.iload_n 1, 1) := getB' kX12_field 26 rfl
theorem dX12_field_46 : decode cX12_field 46 = .ok (.invokevirtual 421, 3) := getB' kX12_field 27 rfl
theorem dX12_field_49 : decode cX12_field 49 = .ok (.ireturn, 1) := getB' kX12_field 28 rfl
def LX12_reserve : List (Nat × Instr × Nat) := [(0, .aload_n 0, 1), (1, .iload_n 1, 1), (2, .iload_n 2, 1), (3, .invokevirtual 415, 3), (6, .ifCond .eq 22, 3), (9, .iload_n 3, 1), (10, .iconst 1, 1), (11, .bipush 9, 2), (13, .invokestatic 371, 3), (16, .ifCond .eq 12, 3), (19, .aload_n 0, 1), (20, .getfield 375, 3), (23, .bipush 60, 2), (25, .if_icmp .ne 5, 3), (28, .iconst (-1), 1), (29, .ireturn, 1), (30, .aload_n 0, 1), (31, .iconst 3, 1), (32, .iconst (-1), 1), (33, .iload_n 1, 1), (34, .iload_n 2, 1), (35, .iload_n 3, 1), (36, .invokevirtual 421, 3), (39, .ireturn, 1)]
theorem kX12_reserve : chkB cX12_reserve LX12_reserve = true := by decide +kernel
theorem dX12_reserve_0 : decode cX12_reserve 0 = .ok (.aload_n 0, 1) := getB' kX12_reserve 0 rfl
theorem dX12_reserve_1 : decode cX12_reserve 1 = .ok (.iload_n 1, 1) := getB' kX12_reserve 1 rfl
theorem dX12_reserve_2 : decode cX12_reserve 2 = .ok (.iload_n 2, 1) := getB' kX12_reserve 2 rfl
theorem dX12_reserve_3 : decode cX12_reserve 3 = .ok (.invokevirtual 415, 3) := getB' kX12_reserve 3 rfl
theorem dX12_reserve_6 : decode cX12_reserve 6 = .ok (.ifCond .eq 22, 3) := getB' kX12_reserve 4 rfl
theorem dX12_reserve_9 : decode cX12_reserve 9 = .ok (.iload_n 3, 1) := getB' kX12_reserve 5 rfl
theorem dX12_reserve_10 : decode cX12_reserve 10 = .ok (.iconst 1, 1) := getB' kX12_reserve 6 rfl
theorem dX12_reserve_11 : decode cX12_reserve 11 = .ok (.bipush 9, 2) := getB' kX12_reserve 7 rfl
theorem dX12_reserve_13 : decode cX12_reserve 13 = .ok (.invokestatic 371, 3) := getB' kX12_reserve 8 rfl
theorem dX12_reserve_16 : decode cX12_reserve 16 = .ok (.ifCond .eq 12, 3) := getB' kX12_reserve 9 rfl
theorem dX12_reserve_19 : decode cX12_reserve 19 = .ok (.aload_n 0, 1) := getB' kX12_reserve 10 rfl
theorem dX12_reserve_20 : decode cX12_reserve 20 = .ok (.getfield 375, 3) := getB' kX12_reserve 11 rfl
theorem dX12_reserve_23 : decode cX12_reserve 23 = .ok (.bipush 60, 2) := getB' kX12_reserve 12 rfl
theorem dX12_reserve_25 : decode cX12_reserve 25 = .ok (.if_icmp .ne 5, 3) := getB' kX12_reserve 13 rfl
theorem dX12_reserve_28 : decode cX12_reserve 28 = .ok (.iconst (-1), 1) := getB' kX12_reserve 14 rfl
theorem dX12_reserve_29 : decode cX12_reserve 29 = .ok (.ireturn, 1) := getB' kX12_reserve 15 rfl
theorem dX12_reserve_30 : decode cX12_reserve 30 = .ok (.aload_n 0, 1) := getB' kX12_reserve 16 rfl
theorem dX12_reserve_31 : decode cX12_reserve 31 = .ok (.iconst 3, 1) := getB' kX12_reserve 17 rfl
theorem dX12_reserve_32 : decode cX12_reserve 32 = .ok (.iconst (-1), 1) := getB' kX12_reserve 18 rfl
theorem dX12_reserve_33 : decode cX12_reserve 33 = .ok (.iload_n 1, 1) := getB' kX12_reserve 19 rfl
theorem dX12_reserve_34 : decode cX12_reserve 34 = .ok (.iload_n 2, 1) := getB' kX12_reserve 20 rfl
theorem dX12_reserve_35 : decode cX12_reserve 35 = .ok (.iload_n 3, 1) := getB' kX12_reserve 21 rfl
theorem dX12_reserve_36 : decode cX12_reserve 36 = .ok (.invokevirtual 421, 3) := getB' kX12_reserve 22 rfl
theorem dX12_reserve_39 : decode cX12_reserve 39 = .ok (.ireturn, 1) := getB' kX12_reserve 23 rfl
def LX12_site : List (Nat × Instr × Nat) := [(0, .aload_n 0, 1), (1, .iload_n 1, 1), (2, .invokevirtual 381, 3), (5, .ifCond .eq 12, 3), (8, .aload_n 0, 1), (9, .getfield 375, 3), (12, .bipush 60, 2), (14, .if_icmp .ne 5, 3), (17, .iconst (-1), 1), (18, .ireturn, 1), (19, .aload_n 0, 1), (20, .iload_n 2, 1), (21, .ifCond .eq 7, 3), (24, .iconst 5, 1), (25, .goto 4, 3), (28, .iconst 4, 1), (29, .iconst (-1), 1), (30, .iload_n 1, 1), (31, .iconst (-1), 1), (32, .iconst 0, 1), (33, .invokevirtual 421, 3), (36, .ireturn, 1)]
theorem kX12_site : chkB cX12_site LX12_site = true := by decide +kernel
theorem dX12_site_0 : decode cX12_site 0 = .ok (.aload_n 0, 1) := getB' kX12_site 0 rfl
theorem dX12_site_1 : decode cX12_site 1 = .ok (.iload_n 1, 1) := getB' kX12_site 1 rfl
theorem dX12_site_2 : decode cX12_site 2 = .ok (.invokevirtual 381, 3) := getB' kX12_site 2 rfl
theorem dX12_site_5 : decode cX12_site 5 = .ok (.ifCond .eq 12, 3) := getB' kX12_site 3 rfl
theorem dX12_site_8 : decode cX12_site 8 = .ok (.aload_n 0, 1) := getB' kX12_site 4 rfl
theorem dX12_site_9 : decode cX12_site 9 = .ok (.getfield 375, 3) := getB' kX12_site 5 rfl
theorem dX12_site_12 : decode cX12_site 12 = .ok (.bipush 60, 2) := getB' kX12_site 6 rfl
theorem dX12_site_14 : decode cX12_site 14 = .ok (.if_icmp .ne 5, 3) := getB' kX12_site 7 rfl
theorem dX12_site_17 : decode cX12_site 17 = .ok (.iconst (-1), 1) := getB' kX12_site 8 rfl
theorem dX12_site_18 : decode cX12_site 18 = .ok (.ireturn, 1) := getB' kX12_site 9 rfl
theorem dX12_site_19 : decode cX12_site 19 = .ok (.aload_n 0, 1) := getB' kX12_site 10 rfl
theorem dX12_site_20 : decode cX12_site 20 = .ok (.iload_n 2, 1) := getB' kX12_site 11 rfl
theorem dX12_site_21 : decode cX12_site 21 = .ok (.ifCond .eq 7, 3) := getB' kX12_site 12 rfl
theorem dX12_site_24 : decode cX12_site 24 = .ok (.iconst 5, 1) := getB' kX12_site 13 rfl
theorem dX12_site_25 : decode cX12_site 25 = .ok (.goto 4, 3) := getB' kX12_site 14 rfl
theorem dX12_site_28 : decode cX12_site 28 = .ok (.iconst 4, 1) := getB' kX12_site 15 rfl
theorem dX12_site_29 : decode cX12_site 29 = .ok (.iconst (-1), 1) := getB' kX12_site 16 rfl
theorem dX12_site_30 : decode cX12_site 30 = .ok (.iload_n 1, 1) := getB' kX12_site 17 rfl
theorem dX12_site_31 : decode cX12_site 31 = .ok (.iconst (-1), 1) := getB' kX12_site 18 rfl
theorem dX12_site_32 : decode cX12_site 32 = .ok (.iconst 0, 1) := getB' kX12_site 19 rfl
theorem dX12_site_33 : decode cX12_site 33 = .ok (.invokevirtual 421, 3) := getB' kX12_site 20 rfl
theorem dX12_site_36 : decode cX12_site 36 = .ok (.ireturn, 1) := getB' kX12_site 21 rfl
def LX12_types : List (Nat × Instr × Nat) := [(0, .iconst 3, 1), (1, .istore_n 2, 1), (2, .iload_n 2, 1), (3, .ifCond .lt 35, 3), (6, .aload_n 0, 1), (7, .getfield 84, 3), (10, .aload_n 0, 1), (11, .getfield 436, 3), (14, .iload_n 1, 1), (15, .bipush 8, 2), (17, .iload_n 2, 1), (18, .imul, 1), (19, .ishr, 1), (20, .i2b, 1), (21, .bastore, 1), (22, .aload_n 0, 1), (23, .aload_n 0, 1), (24, .getfield 436, 3), (27, .iconst 1, 1), (28, .iadd, 1), (29, .putfield 436, 3), (32, .iinc 2 (-1), 3), (35, .goto (-33), 3), (38, .return_, 1)]
theorem kX12_types : chkB cX12_types LX12_types = true := by decide +kernel
theorem dX12_types_0 : decode cX12_types 0 = .ok (.iconst 3, 1) := getB' kX12_types 0 rfl
theorem dX12_types_1 : decode cX12_types 1 = .ok (.istore_n 2, 1) := getB' kX12_types 1 rfl
theorem dX12_types_2 : decode cX12_types 2 = .ok (.iload_n 2, 1) := getB' kX12_types 2 rfl
theorem dX12_types_3 : decode cX12_types 3 = .ok (.ifCond .lt 35, 3) := getB' kX12_types 3 rfl
theorem dX12_types_6 : decode cX12_types 6 = .ok (.aload_n 0, 1) := getB' kX12_types 4 rfl
theorem dX12_types_7 : decode cX12_types 7 = .ok (.getfield 84, 3) := getB' kX12_types 5 rfl
theorem dX12_types_10 : decode cX12_types 10 = .ok (.aload_n 0, 1) := getB' kX12_types 6 rfl
theorem dX12_types_11 : decode cX12_types 11 = .ok (.getfield 436, 3) := getB' kX12_types 7 rfl
theorem dX12_types_14 : decode cX12_types 14 = .ok (.iload_n 1, 1) := getB' kX12_types 8 rfl
theorem dX12_types_15 : decode cX12_types 15 = .ok (.bipush 8, 2) := getB' kX12_types 9 rfl
theorem dX12_types_17 : decode cX12_types 17 = .ok (.iload_n 2, 1) := getB' kX12_types 10 rfl
theorem dX12_types_18 : decode cX12_types 18 = .ok (.imul, 1) := getB' kX12_types 11 rfl
theorem dX12_types_19 : decode cX12_types 19 = .ok (.ishr, 1) := getB' kX12_types 12 rfl
theorem dX12_types_20 : decode cX12_types 20 = .ok (.i2b, 1) := getB' kX12_types 13 rfl
theorem dX12_types_21 : decode cX12_types 21 = .ok (.bastore, 1) := getB' kX12_types 14 rfl
theorem dX12_types_22 : decode cX12_types 22 = .ok (.aload_n 0, 1) := getB' kX12_types 15 rfl
theorem dX12_types_23 : decode cX12_types 23 = .ok (.aload_n 0, 1) := getB' kX12_types 16 rfl
theorem dX12_types_24 : decode cX12_types 24 = .ok (.getfield 436, 3) := getB' kX12_types 17 rfl
theorem dX12_types_27 : decode cX12_types 27 = .ok (.iconst 1, 1) := getB' kX12_types 18 rfl
theorem dX12_types_28 : decode cX12_types 28 = .ok (.iadd, 1) := getB' kX12_types 19 rfl
theorem dX12_types_29 : decode cX12_types 29 = .ok (.putfield 436, 3) := getB' kX12_types 20 rfl
theorem dX12_types_32 : decode cX12_types 32 = .ok (.iinc 2 (-1), 3) := getB' kX12_types 21 rfl
theorem dX12_types_35 : decode cX12_types 35 = .ok (.goto (-33), 3) := getB' kX12_types 22 rfl
theorem dX12_types_38 : decode cX12_types 38 = .ok (.return_, 1) := getB' kX12_types 23 rfl
def LX12_feed : List (Nat × Instr × Nat) := [(0, .aload_n 0, 1), (1, .getfield 436, 3), (4, .bipush 20, 2), (6, .iadd, 1), (7, .sipush 400, 3), (10, .if_icmp .le 5, 3), (13, .iconst (-1), 1), (14, .ireturn, 1), (15, .aload_n 0, 1), (16, .iload_n 1, 1), (17, .invokevirtual 439, 3), (20, .aload_n 0, 1), (21, .iload_n 2, 1), (22, .invokevirtual 439, 3), (25, .aload_n 0, 1), (26, .iload_n 3, 1), (27, .invokevirtual 439, 3), (30, .aload_n 0, 1), (31, .iload 4, 2), (33, .invokevirtual 439, 3), (36, .aload_n 0, 1), (37, .iload 5, 2), (39, .invokevirtual 439, 3), (42, .aload_n 0, 1), (43, .getfield 436, 3), (46, .ireturn, 1)]
theorem kX12_feed : chkB cX12_feed LX12_feed = true := by decide +kernel
theorem dX12_feed_0 : decode cX12_feed 0 = .ok (.aload_n 0, 1) := getB' kX12_feed 0 rfl
theorem dX12_feed_1 : decode cX12_feed 1 = .ok (.getfield 436, 3) := getB' kX12_feed 1 rfl
theorem dX12_feed_4 : decode cX12_feed 4 = .ok (.bipush 20, 2) := getB' kX12_feed 2 rfl
theorem dX12_feed_6 : decode cX12_feed 6 = .ok (.iadd, 1) := getB' kX12_feed 3 rfl
theorem dX12_feed_7 : decode cX12_feed 7 = .ok (.sipush 400, 3) := getB' kX12_feed 4 rfl
theorem dX12_feed_10 : decode cX12_feed 10 = .ok (.if_icmp .le 5, 3) := getB' kX12_feed 5 rfl
theorem dX12_feed_13 : decode cX12_feed 13 = .ok (.iconst (-1), 1) := getB' kX12_feed 6 rfl
theorem dX12_feed_14 : decode cX12_feed 14 = .ok (.ireturn, 1) := getB' kX12_feed 7 rfl
theorem dX12_feed_15 : decode cX12_feed 15 = .ok (.aload_n 0, 1) := getB' kX12_feed 8 rfl
theorem dX12_feed_16 : decode cX12_feed 16 = .ok (.iload_n 1, 1) := getB' kX12_feed 9 rfl
theorem dX12_feed_17 : decode cX12_feed 17 = .ok (.invokevirtual 439, 3) := getB' kX12_feed 10 rfl
theorem dX12_feed_20 : decode cX12_feed 20 = .ok (.aload_n 0, 1) := getB' kX12_feed 11 rfl
theorem dX12_feed_21 : decode cX12_feed 21 = .ok (.iload_n 2, 1) := getB' kX12_feed 12 rfl
theorem dX12_feed_22 : decode cX12_feed 22 = .ok (.invokevirtual 439, 3) := getB' kX12_feed 13 rfl
theorem dX12_feed_25 : decode cX12_feed 25 = .ok (.aload_n 0, 1) := getB' kX12_feed 14 rfl
theorem dX12_feed_26 : decode cX12_feed 26 = .ok (.iload_n 3, 1) := getB' kX12_feed 15 rfl
theorem dX12_feed_27 : decode cX12_feed 27 = .ok (.invokevirtual 439, 3) := getB' kX12_feed 16 rfl
theorem dX12_feed_30 : decode cX12_feed 30 = .ok (.aload_n 0, 1) := getB' kX12_feed 17 rfl
theorem dX12_feed_31 : decode cX12_feed 31 = .ok (.iload 4, 2) := getB' kX12_feed 18 rfl
theorem dX12_feed_33 : decode cX12_feed 33 = .ok (.invokevirtual 439, 3) := getB' kX12_feed 19 rfl
theorem dX12_feed_36 : decode cX12_feed 36 = .ok (.aload_n 0, 1) := getB' kX12_feed 20 rfl
theorem dX12_feed_37 : decode cX12_feed 37 = .ok (.iload 5, 2) := getB' kX12_feed 21 rfl
theorem dX12_feed_39 : decode cX12_feed 39 = .ok (.invokevirtual 439, 3) := getB' kX12_feed 22 rfl
theorem dX12_feed_42 : decode cX12_feed 42 = .ok (.aload_n 0, 1) := getB' kX12_feed 23 rfl
theorem dX12_feed_43 : decode cX12_feed 43 = .ok (.getfield 436, 3) := getB' kX12_feed 24 rfl
theorem dX12_feed_46 : decode cX12_feed 46 = .ok (.ireturn, 1) := getB' kX12_feed 25 rfl
def LX12_sign : List (Nat × Instr × Nat) := [(0, .aload_n 0, 1), (1, .getfield 443, 3), (4, .aload_n 0, 1), (5, .getfield 446, 3), (8, .if_icmp .ge 19, 3), (11, .aload_n 0, 1), (12, .getfield 84, 3), (15, .aload_n 0, 1), (16, .getfield 443, 3), (19, .baload, 1), (20, .sipush 255, 3), (23, .iand, 1), (24, .goto 4, 3), (27, .iconst (-1), 1), (28, .ireturn, 1)]
theorem kX12_sign : chkB cX12_sign LX12_sign = true := by decide +kernel
theorem dX12_sign_0 : decode cX12_sign 0 = .ok (.aload_n 0, 1) := getB' kX12_sign 0 rfl
theorem dX12_sign_1 : decode cX12_sign 1 = .ok (.getfield 443, 3) := getB' kX12_sign 1 rfl
theorem dX12_sign_4 : decode cX12_sign 4 = .ok (.aload_n 0, 1) := getB' kX12_sign 2 rfl
theorem dX12_sign_5 : decode cX12_sign 5 = .ok (.getfield 446, 3) := getB' kX12_sign 3 rfl
theorem dX12_sign_8 : decode cX12_sign 8 = .ok (.if_icmp .ge 19, 3) := getB' kX12_sign 4 rfl
theorem dX12_sign_11 : decode cX12_sign 11 = .ok (.aload_n 0, 1) := getB' kX12_sign 5 rfl
theorem dX12_sign_12 : decode cX12_sign 12 = .ok (.getfield 84, 3) := getB' kX12_sign 6 rfl
theorem dX12_sign_15 : decode cX12_sign 15 = .ok (.aload_n 0, 1) := getB' kX12_sign 7 rfl
theorem dX12_sign_16 : decode cX12_sign 16 = .ok (.getfield 443, 3) := getB' kX12_sign 8 rfl
theorem dX12_sign_19 : decode cX12_sign 19 = .ok (.baload, 1) := getB' kX12_sign 9 rfl
theorem dX12_sign_20 : decode cX12_sign 20 = .ok (.sipush 255, 3) := getB' kX12_sign 10 rfl
theorem dX12_sign_23 : decode cX12_sign 23 = .ok (.iand, 1) := getB' kX12_sign 11 rfl
theorem dX12_sign_24 : decode cX12_sign 24 = .ok (.goto 4, 3) := getB' kX12_sign 12 rfl
theorem dX12_sign_27 : decode cX12_sign 27 = .ok (.iconst (-1), 1) := getB' kX12_sign 13 rfl
theorem dX12_sign_28 : decode cX12_sign 28 = .ok (.ireturn, 1) := getB' kX12_sign 14 rfl
def LX12_isDigit : List (Nat × Instr × Nat) := [(0, .aload_n 0, 1), (1, .invokevirtual 449, 3), (4, .bipush 48, 2), (6, .if_icmp .lt 16, 3), (9, .aload_n 0, 1), (10, .invokevirtual 449, 3), (13, .bipush 57, 2), (15, .if_icmp .gt 7, 3), (18, .iconst 1, 1), (19, .goto 4, 3), (22, .iconst 0, 1), (23, .ireturn, 1)]
theorem kX12_isDigit : chkB cX12_isDigit LX12_isDigit = true := by decide +kernel
theorem dX12_isDigit_0 : decode cX12_isDigit 0 = .ok (.aload_n 0, 1) := getB' kX12_isDigit 0 rfl
theorem dX12_isDigit_1 : decode cX12_isDigit 1 = .ok (.invokevirtual 449, 3) := getB' kX12_isDigit 1 rfl
theorem dX12_isDigit_4 : decode cX12_isDigit 4 = .ok (.bipush 48, 2) := getB' kX12_isDigit 2 rfl
theorem dX12_isDigit_6 : decode cX12_isDigit 6 = .ok (.if_icmp .lt 16, 3) := getB' kX12_isDigit 3 rfl
theorem dX12_isDigit_9 : decode cX12_isDigit 9 = .ok (.aload_n 0, 1) := getB' kX12_isDigit 4 rfl
theorem dX12_isDigit_10 : decode cX12_isDigit 10 = .ok (.invokevirtual 449, 3) := getB' kX12_isDigit 5 rfl
theorem dX12_isDigit_13 : decode cX12_isDigit 13 = .ok (.bipush 57, 2) := getB' kX12_isDigit 6 rfl
theorem dX12_isDigit_15 : decode cX12_isDigit 15 = .ok (.if_icmp .gt 7, 3) := getB' kX12_isDigit 7 rfl
theorem dX12_isDigit_18 : decode cX12_isDigit 18 = .ok (.iconst 1, 1) := getB' kX12_isDigit 8 rfl
theorem dX12_isDigit_19 : decode cX12_isDigit 19 = .ok (.goto 4, 3) := getB' kX12_isDigit 9 rfl
theorem dX12_isDigit_22 : decode cX12_isDigit 22 = .ok (.iconst 0, 1) := getB' kX12_isDigit 10 rfl
theorem dX12_isDigit_23 : decode cX12_isDigit 23 = .ok (.ireturn, 1) := getB' kX12_isDigit 11 rfl
def LX12_wrong : List (Nat × Instr × Nat) := [(0, .aload_n 0, 1), (1, .sipush (-1000), 3), (4, .iload_n 1, 1), (5, .imul, 1), (6, .iload_n 2, 1), (7, .isub, 1), (8, .putfield 453, 3), (11, .iconst 0, 1), (12, .ireturn, 1)]
theorem kX12_wrong : chkB cX12_wrong LX12_wrong = true := by decide +kernel
theorem dX12_wrong_0 : decode cX12_wrong 0 = .ok (.aload_n 0, 1) := getB' kX12_wrong 0 rfl
theorem dX12_wrong_1 : decode cX12_wrong 1 = .ok (.sipush (-1000), 3) := getB' kX12_wrong 1 rfl
theorem dX12_wrong_4 : decode cX12_wrong 4 = .ok (.iload_n 1, 1) := getB' kX12_wrong 2 rfl
theorem dX12_wrong_5 : decode cX12_wrong 5 = .ok (.imul, 1) := getB' kX12_wrong 3 rfl
theorem dX12_wrong_6 : decode cX12_wrong 6 = .ok (.iload_n 2, 1) := getB' kX12_wrong 4 rfl
theorem dX12_wrong_7 : decode cX12_wrong 7 = .ok (.isub, 1) := getB' kX12_wrong 5 rfl
theorem dX12_wrong_8 : decode cX12_wrong 8 = .ok (.putfield 453, 3) := getB' kX12_wrong 6 rfl
theorem dX12_wrong_11 : decode cX12_wrong 11 = .ok (.iconst 0, 1) := getB' kX12_wrong 7 rfl
theorem dX12_wrong_12 : decode cX12_wrong 12 = .ok (.ireturn, 1) := getB' kX12_wrong 8 rfl
def LX12_takes : List (Nat × Instr × Nat) := [(0, .aload_n 0, 1), (1, .invokevirtual 449, 3), (4, .iload_n 1, 1), (5, .if_icmp .eq 13, 3), (8, .aload_n 0, 1), (9, .iconst 1, 1), (10, .aload_n 0, 1), (11, .getfield 443, 3), (14, .invokevirtual 456, 3), (17, .ireturn, 1), (18, .aload_n 0, 1), (19, .aload_n 0, 1), (20, .getfield 443, 3), (23, .iconst 1, 1), (24, .iadd, 1), (25, .putfield 443, 3), (28, .iconst 1, 1), (29, .ireturn, 1)]
theorem kX12_takes : chkB cX12_takes LX12_takes = true := by decide +kernel
theorem dX12_takes_0 : decode cX12_takes 0 = .ok (.aload_n 0, 1) := getB' kX12_takes 0 rfl
theorem dX12_takes_1 : decode cX12_takes 1 = .ok (.invokevirtual 449, 3) := getB' kX12_takes 1 rfl
theorem dX12_takes_4 : decode cX12_takes 4 = .ok (.iload_n 1, 1) := getB' kX12_takes 2 rfl
theorem dX12_takes_5 : decode cX12_takes 5 = .ok (.if_icmp .eq 13, 3) := getB' kX12_takes 3 rfl
theorem dX12_takes_8 : decode cX12_takes 8 = .ok (.aload_n 0, 1) := getB' kX12_takes 4 rfl
theorem dX12_takes_9 : decode cX12_takes 9 = .ok (.iconst 1, 1) := getB' kX12_takes 5 rfl
theorem dX12_takes_10 : decode cX12_takes 10 = .ok (.aload_n 0, 1) := getB' kX12_takes 6 rfl
theorem dX12_takes_11 : decode cX12_takes 11 = .ok (.getfield 443, 3) := getB' kX12_takes 7 rfl
theorem dX12_takes_14 : decode cX12_takes 14 = .ok (.invokevirtual 456, 3) := getB' kX12_takes 8 rfl
theorem dX12_takes_17 : decode cX12_takes 17 = .ok (.ireturn, 1) := getB' kX12_takes 9 rfl
theorem dX12_takes_18 : decode cX12_takes 18 = .ok (.aload_n 0, 1) := getB' kX12_takes 10 rfl
theorem dX12_takes_19 : decode cX12_takes 19 = .ok (.aload_n 0, 1) := getB' kX12_takes 11 rfl
theorem dX12_takes_20 : decode cX12_takes 20 = .ok (.getfield 443, 3) := getB' kX12_takes 12 rfl
theorem dX12_takes_23 : decode cX12_takes 23 = .ok (.iconst 1, 1) := getB' kX12_takes 13 rfl
theorem dX12_takes_24 : decode cX12_takes 24 = .ok (.iadd, 1) := getB' kX12_takes 14 rfl
theorem dX12_takes_25 : decode cX12_takes 25 = .ok (.putfield 443, 3) := getB' kX12_takes 15 rfl
theorem dX12_takes_28 : decode cX12_takes 28 = .ok (.iconst 1, 1) := getB' kX12_takes 16 rfl
theorem dX12_takes_29 : decode cX12_takes 29 = .ok (.ireturn, 1) := getB' kX12_takes 17 rfl
def LX12_readsNumber : List (Nat × Instr × Nat) := [(0, .aload_n 0, 1), (1, .getfield 443, 3), (4, .istore_n 2, 1), (5, .aload_n 0, 1), (6, .iconst 0, 1), (7, .putfield 459, 3), (10, .aload_n 0, 1), (11, .invokevirtual 462, 3), (14, .ifCond .ne 13, 3), (17, .aload_n 0, 1), (18, .iconst 1, 1), (19, .aload_n 0, 1), (20, .getfield 443, 3), (23, .invokevirtual 456, 3), (26, .ireturn, 1), (27, .aload_n 0, 1), (28, .invokevirtual 462, 3), (31, .ifCond .eq 56, 3), (34, .aload_n 0, 1), (35, .getfield 443, 3), (38, .iload_n 2, 1), (39, .bipush 6, 2), (41, .iadd, 1), (42, .if_icmp .ne 13, 3), (45, .aload_n 0, 1), (46, .iconst 2, 1), (47, .aload_n 0, 1), (48, .getfield 443, 3), (51, .invokevirtual 456, 3), (54, .ireturn, 1), (55, .aload_n 0, 1), (56, .bipush 10, 2), (58, .aload_n 0, 1), (59, .getfield 459, 3), (62, .imul, 1), (63, .aload_n 0, 1), (64, .invokevirtual 449, 3), (67, .iadd, 1), (68, .bipush 48, 2), (70, .isub, 1), (71, .putfield 459, 3), (74, .aload_n 0, 1), (75, .aload_n 0, 1), (76, .getfield 443, 3), (79, .iconst 1, 1), (80, .iadd, 1), (81, .putfield 443, 3), (84, .goto (-57), 3), (87, .aload_n 0, 1), (88, .getfield 459, 3), (91, .iload_n 1, 1), (92, .if_icmp .le 12, 3), (95, .aload_n 0, 1), (96, .iconst 3, 1), (97, .iload_n 2, 1), (98, .invokevirtual 456, 3), (101, .ifCond .eq 7, 3), (104, .iconst 1, 1), (105, .goto 4, 3), (108, .iconst 0, 1), (109, .ireturn, 1)]
theorem kX12_readsNumber : chkB cX12_readsNumber LX12_readsNumber = true := by decide +kernel
theorem dX12_readsNumber_0 : decode cX12_readsNumber 0 = .ok (.aload_n 0, 1) := getB' kX12_readsNumber 0 rfl
theorem dX12_readsNumber_1 : decode cX12_readsNumber 1 = .ok (.getfield 443, 3) := getB' kX12_readsNumber 1 rfl
theorem dX12_readsNumber_4 : decode cX12_readsNumber 4 = .ok (.istore_n 2, 1) := getB' kX12_readsNumber 2 rfl
theorem dX12_readsNumber_5 : decode cX12_readsNumber 5 = .ok (.aload_n 0, 1) := getB' kX12_readsNumber 3 rfl
theorem dX12_readsNumber_6 : decode cX12_readsNumber 6 = .ok (.iconst 0, 1) := getB' kX12_readsNumber 4 rfl
theorem dX12_readsNumber_7 : decode cX12_readsNumber 7 = .ok (.putfield 459, 3) := getB' kX12_readsNumber 5 rfl
theorem dX12_readsNumber_10 : decode cX12_readsNumber 10 = .ok (.aload_n 0, 1) := getB' kX12_readsNumber 6 rfl
theorem dX12_readsNumber_11 : decode cX12_readsNumber 11 = .ok (.invokevirtual 462, 3) := getB' kX12_readsNumber 7 rfl
theorem dX12_readsNumber_14 : decode cX12_readsNumber 14 = .ok (.ifCond .ne 13, 3) := getB' kX12_readsNumber 8 rfl
theorem dX12_readsNumber_17 : decode cX12_readsNumber 17 = .ok (.aload_n 0, 1) := getB' kX12_readsNumber 9 rfl
theorem dX12_readsNumber_18 : decode cX12_readsNumber 18 = .ok (.iconst 1, 1) := getB' kX12_readsNumber 10 rfl
theorem dX12_readsNumber_19 : decode cX12_readsNumber 19 = .ok (.aload_n 0, 1) := getB' kX12_readsNumber 11 rfl
theorem dX12_readsNumber_20 : decode cX12_readsNumber 20 = .ok (.getfield 443, 3) := getB' kX12_readsNumber 12 rfl
theorem dX12_readsNumber_23 : decode cX12_readsNumber 23 = .ok (.invokevirtual 456, 3) := getB' kX12_readsNumber 13 rfl
theorem dX12_readsNumber_26 : decode cX12_readsNumber 26 = .ok (.ireturn, 1) := getB' kX12_readsNumber 14 rfl
theorem dX12_readsNumber_27 : decode cX12_readsNumber 27 = .ok (.aload_n 0, 1) := getB' kX12_readsNumber 15 rfl
theorem dX12_readsNumber_28 : decode cX12_readsNumber 28 = .ok (.invokevirtual 462, 3) := getB' kX12_readsNumber 16 rfl
theorem dX12_readsNumber_31 : decode cX12_readsNumber 31 = .ok (.ifCond .eq 56, 3) := getB' kX12_readsNumber 17 rfl
theorem dX12_readsNumber_34 : decode cX12_readsNumber 34 = .ok (.aload_n 0, 1) := getB' kX12_readsNumber 18 rfl
theorem dX12_readsNumber_35 : decode cX12_readsNumber 35 = .ok (.getfield 443, 3) := getB' kX12_readsNumber 19 rfl
theorem dX12_readsNumber_38 : decode cX12_readsNumber 38 = .ok (.iload_n 2, 1) := getB' kX12_readsNumber 20 rfl
theorem dX12_readsNumber_39 : decode cX12_readsNumber 39 = .ok (.bipush 6, 2) := getB' kX12_readsNumber 21 rfl
theorem dX12_readsNumber_41 : decode cX12_readsNumber 41 = .ok (.iadd, 1) := getB' kX12_readsNumber 22 rfl
theorem dX12_readsNumber_42 : decode cX12_readsNumber 42 = .ok (.if_icmp .ne 13, 3) := getB' kX12_readsNumber 23 rfl
theorem dX12_readsNumber_45 : decode cX12_readsNumber 45 = .ok (.aload_n 0, 1) := getB' kX12_readsNumber 24 rfl
theorem dX12_readsNumber_46 : decode cX12_readsNumber 46 = .ok (.iconst 2, 1) := getB' kX12_readsNumber 25 rfl
theorem dX12_readsNumber_47 : decode cX12_readsNumber 47 = .ok (.aload_n 0, 1) := getB' kX12_readsNumber 26 rfl
theorem dX12_readsNumber_48 : decode cX12_readsNumber 48 = .ok (.getfield 443, 3) := getB' kX12_readsNumber 27 rfl
theorem dX12_readsNumber_51 : decode cX12_readsNumber 51 = .ok (.invokevirtual 456, 3) := getB' kX12_readsNumber 28 rfl
theorem dX12_readsNumber_54 : decode cX12_readsNumber 54 = .ok (.ireturn, 1) := getB' kX12_readsNumber 29 rfl
theorem dX12_readsNumber_55 : decode cX12_readsNumber 55 = .ok (.aload_n 0, 1) := getB' kX12_readsNumber 30 rfl
theorem dX12_readsNumber_56 : decode cX12_readsNumber 56 = .ok (.bipush 10, 2) := getB' kX12_readsNumber 31 rfl
theorem dX12_readsNumber_58 : decode cX12_readsNumber 58 = .ok (.aload_n 0, 1) := getB' kX12_readsNumber 32 rfl
theorem dX12_readsNumber_59 : decode cX12_readsNumber 59 = .ok (.getfield 459, 3) := getB' kX12_readsNumber 33 rfl
theorem dX12_readsNumber_62 : decode cX12_readsNumber 62 = .ok (.imul, 1) := getB' kX12_readsNumber 34 rfl
theorem dX12_readsNumber_63 : decode cX12_readsNumber 63 = .ok (.aload_n 0, 1) := getB' kX12_readsNumber 35 rfl
theorem dX12_readsNumber_64 : decode cX12_readsNumber 64 = .ok (.invokevirtual 449, 3) := getB' kX12_readsNumber 36 rfl
theorem dX12_readsNumber_67 : decode cX12_readsNumber 67 = .ok (.iadd, 1) := getB' kX12_readsNumber 37 rfl
theorem dX12_readsNumber_68 : decode cX12_readsNumber 68 = .ok (.bipush 48, 2) := getB' kX12_readsNumber 38 rfl
theorem dX12_readsNumber_70 : decode cX12_readsNumber 70 = .ok (.isub, 1) := getB' kX12_readsNumber 39 rfl
theorem dX12_readsNumber_71 : decode cX12_readsNumber 71 = .ok (.putfield 459, 3) := getB' kX12_readsNumber 40 rfl
theorem dX12_readsNumber_74 : decode cX12_readsNumber 74 = .ok (.aload_n 0, 1) := getB' kX12_readsNumber 41 rfl
theorem dX12_readsNumber_75 : decode cX12_readsNumber 75 = .ok (.aload_n 0, 1) := getB' kX12_readsNumber 42 rfl
theorem dX12_readsNumber_76 : decode cX12_readsNumber 76 = .ok (.getfield 443, 3) := getB' kX12_readsNumber 43 rfl
theorem dX12_readsNumber_79 : decode cX12_readsNumber 79 = .ok (.iconst 1, 1) := getB' kX12_readsNumber 44 rfl
theorem dX12_readsNumber_80 : decode cX12_readsNumber 80 = .ok (.iadd, 1) := getB' kX12_readsNumber 45 rfl
theorem dX12_readsNumber_81 : decode cX12_readsNumber 81 = .ok (.putfield 443, 3) := getB' kX12_readsNumber 46 rfl
theorem dX12_readsNumber_84 : decode cX12_readsNumber 84 = .ok (.goto (-57), 3) := getB' kX12_readsNumber 47 rfl
theorem dX12_readsNumber_87 : decode cX12_readsNumber 87 = .ok (.aload_n 0, 1) := getB' kX12_readsNumber 48 rfl
theorem dX12_readsNumber_88 : decode cX12_readsNumber 88 = .ok (.getfield 459, 3) := getB' kX12_readsNumber 49 rfl
theorem dX12_readsNumber_91 : decode cX12_readsNumber 91 = .ok (.iload_n 1, 1) := getB' kX12_readsNumber 50 rfl
theorem dX12_readsNumber_92 : decode cX12_readsNumber 92 = .ok (.if_icmp .le 12, 3) := getB' kX12_readsNumber 51 rfl
theorem dX12_readsNumber_95 : decode cX12_readsNumber 95 = .ok (.aload_n 0, 1) := getB' kX12_readsNumber 52 rfl
theorem dX12_readsNumber_96 : decode cX12_readsNumber 96 = .ok (.iconst 3, 1) := getB' kX12_readsNumber 53 rfl
theorem dX12_readsNumber_97 : decode cX12_readsNumber 97 = .ok (.iload_n 2, 1) := getB' kX12_readsNumber 54 rfl
theorem dX12_readsNumber_98 : decode cX12_readsNumber 98 = .ok (.invokevirtual 456, 3) := getB' kX12_readsNumber 55 rfl
theorem dX12_readsNumber_101 : decode cX12_readsNumber 101 = .ok (.ifCond .eq 7, 3) := getB' kX12_readsNumber 56 rfl
theorem dX12_readsNumber_104 : decode cX12_readsNumber 104 = .ok (.iconst 1, 1) := getB' kX12_readsNumber 57 rfl
theorem dX12_readsNumber_105 : decode cX12_readsNumber 105 = .ok (.goto 4, 3) := getB' kX12_readsNumber 58 rfl
theorem dX12_readsNumber_108 : decode cX12_readsNumber 108 = .ok (.iconst 0, 1) := getB' kX12_readsNumber 59 rfl
theorem dX12_readsNumber_109 : decode cX12_readsNumber 109 = .ok (.ireturn, 1) := getB' kX12_readsNumber 60 rfl
def LX12_says : List (Nat × Instr × Nat) := [(0, .aload_n 0, 1), (1, .getfield 88, 3), (4, .aload_n 0, 1), (5, .getfield 466, 3), (8, .ldc_w 469, 3), (11, .iload_n 1, 1), (12, .imul, 1), (13, .iload_n 2, 1), (14, .iadd, 1), (15, .iastore, 1), (16, .aload_n 0, 1), (17, .aload_n 0, 1), (18, .getfield 466, 3), (21, .iconst 1, 1), (22, .iadd, 1), (23, .putfield 466, 3), (26, .return_, 1)]
theorem kX12_says : chkB cX12_says LX12_says = true := by decide +kernel
theorem dX12_says_0 : decode cX12_says 0 = .ok (.aload_n 0, 1) := getB' kX12_says 0 rfl
theorem dX12_says_1 : decode cX12_says 1 = .ok (.getfield 88, 3) := getB' kX12_says 1 rfl
theorem dX12_says_4 : decode cX12_says 4 = .ok (.aload_n 0, 1) := getB' kX12_says 2 rfl
theorem dX12_says_5 : decode cX12_says 5 = .ok (.getfield 466, 3) := getB' kX12_says 3 rfl
theorem dX12_says_8 : decode cX12_says 8 = .ok (.ldc_w 469, 3) := getB' kX12_says 4 rfl
theorem dX12_says_11 : decode cX12_says 11 = .ok (.iload_n 1, 1) := getB' kX12_says 5 rfl
theorem dX12_says_12 : decode cX12_says 12 = .ok (.imul, 1) := getB' kX12_says 6 rfl
theorem dX12_says_13 : decode cX12_says 13 = .ok (.iload_n 2, 1) := getB' kX12_says 7 rfl
theorem dX12_says_14 : decode cX12_says 14 = .ok (.iadd, 1) := getB' kX12_says 8 rfl
theorem dX12_says_15 : decode cX12_says 15 = .ok (.iastore, 1) := getB' kX12_says 9 rfl
theorem dX12_says_16 : decode cX12_says 16 = .ok (.aload_n 0, 1) := getB' kX12_says 10 rfl
theorem dX12_says_17 : decode cX12_says 17 = .ok (.aload_n 0, 1) := getB' kX12_says 11 rfl
theorem dX12_says_18 : decode cX12_says 18 = .ok (.getfield 466, 3) := getB' kX12_says 12 rfl
theorem dX12_says_21 : decode cX12_says 21 = .ok (.iconst 1, 1) := getB' kX12_says 13 rfl
theorem dX12_says_22 : decode cX12_says 22 = .ok (.iadd, 1) := getB' kX12_says 14 rfl
theorem dX12_says_23 : decode cX12_says 23 = .ok (.putfield 466, 3) := getB' kX12_says 15 rfl
theorem dX12_says_26 : decode cX12_says 26 = .ok (.return_, 1) := getB' kX12_says 16 rfl
def LX12_opens : List (Nat × Instr × Nat) := [(0, .aload_n 0, 1), (1, .getfield 470, 3), (4, .bipush 8, 2), (6, .if_icmp .ne 13, 3), (9, .aload_n 0, 1), (10, .iconst 5, 1), (11, .aload_n 0, 1), (12, .getfield 443, 3), (15, .invokevirtual 456, 3), (18, .ireturn, 1), (19, .aload_n 0, 1), (20, .aload_n 0, 1), (21, .getfield 470, 3), (24, .iconst 1, 1), (25, .iadd, 1), (26, .putfield 470, 3), (29, .aload_n 0, 1), (30, .getfield 91, 3), (33, .aload_n 0, 1), (34, .getfield 473, 3), (37, .ldc_w 469, 3), (40, .iload_n 1, 1), (41, .imul, 1), (42, .iastore, 1), (43, .aload_n 0, 1), (44, .aload_n 0, 1), (45, .getfield 473, 3), (48, .iconst 1, 1), (49, .iadd, 1), (50, .putfield 473, 3), (53, .aload_n 0, 1), (54, .aload_n 0, 1), (55, .getfield 443, 3), (58, .iconst 1, 1), (59, .iadd, 1), (60, .putfield 443, 3), (63, .iconst 1, 1), (64, .ireturn, 1)]
theorem kX12_opens : chkB cX12_opens LX12_opens = true := by decide +kernel
theorem dX12_opens_0 : decode cX12_opens 0 = .ok (.aload_n 0, 1) := getB' kX12_opens 0 rfl
theorem dX12_opens_1 : decode cX12_opens 1 = .ok (.getfield 470, 3) := getB' kX12_opens 1 rfl
theorem dX12_opens_4 : decode cX12_opens 4 = .ok (.bipush 8, 2) := getB' kX12_opens 2 rfl
theorem dX12_opens_6 : decode cX12_opens 6 = .ok (.if_icmp .ne 13, 3) := getB' kX12_opens 3 rfl
theorem dX12_opens_9 : decode cX12_opens 9 = .ok (.aload_n 0, 1) := getB' kX12_opens 4 rfl
theorem dX12_opens_10 : decode cX12_opens 10 = .ok (.iconst 5, 1) := getB' kX12_opens 5 rfl
theorem dX12_opens_11 : decode cX12_opens 11 = .ok (.aload_n 0, 1) := getB' kX12_opens 6 rfl
theorem dX12_opens_12 : decode cX12_opens 12 = .ok (.getfield 443, 3) := getB' kX12_opens 7 rfl
theorem dX12_opens_15 : decode cX12_opens 15 = .ok (.invokevirtual 456, 3) := getB' kX12_opens 8 rfl
theorem dX12_opens_18 : decode cX12_opens 18 = .ok (.ireturn, 1) := getB' kX12_opens 9 rfl
theorem dX12_opens_19 : decode cX12_opens 19 = .ok (.aload_n 0, 1) := getB' kX12_opens 10 rfl
theorem dX12_opens_20 : decode cX12_opens 20 = .ok (.aload_n 0, 1) := getB' kX12_opens 11 rfl
theorem dX12_opens_21 : decode cX12_opens 21 = .ok (.getfield 470, 3) := getB' kX12_opens 12 rfl
theorem dX12_opens_24 : decode cX12_opens 24 = .ok (.iconst 1, 1) := getB' kX12_opens 13 rfl
theorem dX12_opens_25 : decode cX12_opens 25 = .ok (.iadd, 1) := getB' kX12_opens 14 rfl
theorem dX12_opens_26 : decode cX12_opens 26 = .ok (.putfield 470, 3) := getB' kX12_opens 15 rfl
theorem dX12_opens_29 : decode cX12_opens 29 = .ok (.aload_n 0, 1) := getB' kX12_opens 16 rfl
theorem dX12_opens_30 : decode cX12_opens 30 = .ok (.getfield 91, 3) := getB' kX12_opens 17 rfl
theorem dX12_opens_33 : decode cX12_opens 33 = .ok (.aload_n 0, 1) := getB' kX12_opens 18 rfl
theorem dX12_opens_34 : decode cX12_opens 34 = .ok (.getfield 473, 3) := getB' kX12_opens 19 rfl
theorem dX12_opens_37 : decode cX12_opens 37 = .ok (.ldc_w 469, 3) := getB' kX12_opens 20 rfl
theorem dX12_opens_40 : decode cX12_opens 40 = .ok (.iload_n 1, 1) := getB' kX12_opens 21 rfl
theorem dX12_opens_41 : decode cX12_opens 41 = .ok (.imul, 1) := getB' kX12_opens 22 rfl
theorem dX12_opens_42 : decode cX12_opens 42 = .ok (.iastore, 1) := getB' kX12_opens 23 rfl
theorem dX12_opens_43 : decode cX12_opens 43 = .ok (.aload_n 0, 1) := getB' kX12_opens 24 rfl
theorem dX12_opens_44 : decode cX12_opens 44 = .ok (.aload_n 0, 1) := getB' kX12_opens 25 rfl
theorem dX12_opens_45 : decode cX12_opens 45 = .ok (.getfield 473, 3) := getB' kX12_opens 26 rfl
theorem dX12_opens_48 : decode cX12_opens 48 = .ok (.iconst 1, 1) := getB' kX12_opens 27 rfl
theorem dX12_opens_49 : decode cX12_opens 49 = .ok (.iadd, 1) := getB' kX12_opens 28 rfl
theorem dX12_opens_50 : decode cX12_opens 50 = .ok (.putfield 473, 3) := getB' kX12_opens 29 rfl
theorem dX12_opens_53 : decode cX12_opens 53 = .ok (.aload_n 0, 1) := getB' kX12_opens 30 rfl
theorem dX12_opens_54 : decode cX12_opens 54 = .ok (.aload_n 0, 1) := getB' kX12_opens 31 rfl
theorem dX12_opens_55 : decode cX12_opens 55 = .ok (.getfield 443, 3) := getB' kX12_opens 32 rfl
theorem dX12_opens_58 : decode cX12_opens 58 = .ok (.iconst 1, 1) := getB' kX12_opens 33 rfl
theorem dX12_opens_59 : decode cX12_opens 59 = .ok (.iadd, 1) := getB' kX12_opens 34 rfl
theorem dX12_opens_60 : decode cX12_opens 60 = .ok (.putfield 443, 3) := getB' kX12_opens 35 rfl
theorem dX12_opens_63 : decode cX12_opens 63 = .ok (.iconst 1, 1) := getB' kX12_opens 36 rfl
theorem dX12_opens_64 : decode cX12_opens 64 = .ok (.ireturn, 1) := getB' kX12_opens 37 rfl
def LX12_top : List (Nat × Instr × Nat) := [(0, .aload_n 0, 1), (1, .getfield 473, 3), (4, .ifCond .ne 7, 3), (7, .iconst (-1), 1), (8, .goto 18, 3), (11, .aload_n 0, 1), (12, .getfield 91, 3), (15, .aload_n 0, 1), (16, .getfield 473, 3), (19, .iconst 1, 1), (20, .isub, 1), (21, .iaload, 1), (22, .ldc_w 469, 3), (25, .idiv, 1), (26, .ireturn, 1)]
theorem kX12_top : chkB cX12_top LX12_top = true := by decide +kernel
theorem dX12_top_0 : decode cX12_top 0 = .ok (.aload_n 0, 1) := getB' kX12_top 0 rfl
theorem dX12_top_1 : decode cX12_top 1 = .ok (.getfield 473, 3) := getB' kX12_top 1 rfl
theorem dX12_top_4 : decode cX12_top 4 = .ok (.ifCond .ne 7, 3) := getB' kX12_top 2 rfl
theorem dX12_top_7 : decode cX12_top 7 = .ok (.iconst (-1), 1) := getB' kX12_top 3 rfl
theorem dX12_top_8 : decode cX12_top 8 = .ok (.goto 18, 3) := getB' kX12_top 4 rfl
theorem dX12_top_11 : decode cX12_top 11 = .ok (.aload_n 0, 1) := getB' kX12_top 5 rfl
theorem dX12_top_12 : decode cX12_top 12 = .ok (.getfield 91, 3) := getB' kX12_top 6 rfl
theorem dX12_top_15 : decode cX12_top 15 = .ok (.aload_n 0, 1) := getB' kX12_top 7 rfl
theorem dX12_top_16 : decode cX12_top 16 = .ok (.getfield 473, 3) := getB' kX12_top 8 rfl
theorem dX12_top_19 : decode cX12_top 19 = .ok (.iconst 1, 1) := getB' kX12_top 9 rfl
theorem dX12_top_20 : decode cX12_top 20 = .ok (.isub, 1) := getB' kX12_top 10 rfl
theorem dX12_top_21 : decode cX12_top 21 = .ok (.iaload, 1) := getB' kX12_top 11 rfl
theorem dX12_top_22 : decode cX12_top 22 = .ok (.ldc_w 469, 3) := getB' kX12_top 12 rfl
theorem dX12_top_25 : decode cX12_top 25 = .ok (.idiv, 1) := getB' kX12_top 13 rfl
theorem dX12_top_26 : decode cX12_top 26 = .ok (.ireturn, 1) := getB' kX12_top 14 rfl
def LX12_letterNumber : List (Nat × Instr × Nat) := [(0, .iload_n 0, 1), (1, .tableswitch 151 97 121 #[115, 119, 151, 142, 139, 151, 151, 121, 123, 151, 151, 151, 148, 130, 133, 117, 151, 125, 127, 136, 151, 151, 151, 151, 145], 115), (116, .iconst 0, 1), (117, .ireturn, 1), (118, .iconst 1, 1), (119, .ireturn, 1), (120, .iconst 2, 1), (121, .ireturn, 1), (122, .iconst 3, 1), (123, .ireturn, 1), (124, .iconst 4, 1), (125, .ireturn, 1), (126, .iconst 5, 1), (127, .ireturn, 1), (128, .bipush 6, 2), (130, .ireturn, 1), (131, .bipush 7, 2), (133, .ireturn, 1), (134, .bipush 8, 2), (136, .ireturn, 1), (137, .bipush 9, 2), (139, .ireturn, 1), (140, .bipush 10, 2), (142, .ireturn, 1), (143, .bipush 11, 2), (145, .ireturn, 1), (146, .bipush 12, 2), (148, .ireturn, 1), (149, .bipush 13, 2), (151, .ireturn, 1), (152, .iconst (-1), 1), (153, .ireturn, 1)]
theorem kX12_letterNumber : chkB cX12_letterNumber LX12_letterNumber = true := by decide +kernel
theorem dX12_letterNumber_0 : decode cX12_letterNumber 0 = .ok (.iload_n 0, 1) := getB' kX12_letterNumber 0 rfl
theorem dX12_letterNumber_1 : decode cX12_letterNumber 1 = .ok (.tableswitch 151 97 121 #[115, 119, 151, 142, 139, 151, 151, 121, 123, 151, 151, 151, 148, 130, 133, 117, 151, 125, 127, 136, 151, 151, 151, 151, 145], 115) := getB' kX12_letterNumber 1 rfl
theorem dX12_letterNumber_116 : decode cX12_letterNumber 116 = .ok (.iconst 0, 1) := getB' kX12_letterNumber 2 rfl
theorem dX12_letterNumber_117 : decode cX12_letterNumber 117 = .ok (.ireturn, 1) := getB' kX12_letterNumber 3 rfl
theorem dX12_letterNumber_118 : decode cX12_letterNumber 118 = .ok (.iconst 1, 1) := getB' kX12_letterNumber 4 rfl
theorem dX12_letterNumber_119 : decode cX12_letterNumber 119 = .ok (.ireturn, 1) := getB' kX12_letterNumber 5 rfl
theorem dX12_letterNumber_120 : decode cX12_letterNumber 120 = .ok (.iconst 2, 1) := getB' kX12_letterNumber 6 rfl
theorem dX12_letterNumber_121 : decode cX12_letterNumber 121 = .ok (.ireturn, 1) := getB' kX12_letterNumber 7 rfl
theorem dX12_letterNumber_122 : decode cX12_letterNumber 122 = .ok (.iconst 3, 1) := getB' kX12_letterNumber 8 rfl
theorem dX12_letterNumber_123 : decode cX12_letterNumber 123 = .ok (.ireturn, 1) := getB' kX12_letterNumber 9 rfl
theorem dX12_letterNumber_124 : decode cX12_letterNumber 124 = .ok (.iconst 4, 1) := getB' kX12_letterNumber 10 rfl
theorem dX12_letterNumber_125 : decode cX12_letterNumber 125 = .ok (.ireturn, 1) := getB' kX12_letterNumber 11 rfl
theorem dX12_letterNumber_126 : decode cX12_letterNumber 126 = .ok (.iconst 5, 1) := getB' kX12_letterNumber 12 rfl
theorem dX12_letterNumber_127 : decode cX12_letterNumber 127 = .ok (.ireturn, 1) := getB' kX12_letterNumber 13 rfl
theorem dX12_letterNumber_128 : decode cX12_letterNumber 128 = .ok (.bipush 6, 2) := getB' kX12_letterNumber 14 rfl
theorem dX12_letterNumber_130 : decode cX12_letterNumber 130 = .ok (.ireturn, 1) := getB' kX12_letterNumber 15 rfl
theorem dX12_letterNumber_131 : decode cX12_letterNumber 131 = .ok (.bipush 7, 2) := getB' kX12_letterNumber 16 rfl
theorem dX12_letterNumber_133 : decode cX12_letterNumber 133 = .ok (.ireturn, 1) := getB' kX12_letterNumber 17 rfl
theorem dX12_letterNumber_134 : decode cX12_letterNumber 134 = .ok (.bipush 8, 2) := getB' kX12_letterNumber 18 rfl
theorem dX12_letterNumber_136 : decode cX12_letterNumber 136 = .ok (.ireturn, 1) := getB' kX12_letterNumber 19 rfl
theorem dX12_letterNumber_137 : decode cX12_letterNumber 137 = .ok (.bipush 9, 2) := getB' kX12_letterNumber 20 rfl
theorem dX12_letterNumber_139 : decode cX12_letterNumber 139 = .ok (.ireturn, 1) := getB' kX12_letterNumber 21 rfl
theorem dX12_letterNumber_140 : decode cX12_letterNumber 140 = .ok (.bipush 10, 2) := getB' kX12_letterNumber 22 rfl
theorem dX12_letterNumber_142 : decode cX12_letterNumber 142 = .ok (.ireturn, 1) := getB' kX12_letterNumber 23 rfl
theorem dX12_letterNumber_143 : decode cX12_letterNumber 143 = .ok (.bipush 11, 2) := getB' kX12_letterNumber 24 rfl
theorem dX12_letterNumber_145 : decode cX12_letterNumber 145 = .ok (.ireturn, 1) := getB' kX12_letterNumber 25 rfl
theorem dX12_letterNumber_146 : decode cX12_letterNumber 146 = .ok (.bipush 12, 2) := getB' kX12_letterNumber 26 rfl
theorem dX12_letterNumber_148 : decode cX12_letterNumber 148 = .ok (.ireturn, 1) := getB' kX12_letterNumber 27 rfl
theorem dX12_letterNumber_149 : decode cX12_letterNumber 149 = .ok (.bipush 13, 2) := getB' kX12_letterNumber 28 rfl
theorem dX12_letterNumber_151 : decode cX12_letterNumber 151 = .ok (.ireturn, 1) := getB' kX12_letterNumber 29 rfl
theorem dX12_letterNumber_152 : decode cX12_letterNumber 152 = .ok (.iconst (-1), 1) := getB' kX12_letterNumber 30 rfl
theorem dX12_letterNumber_153 : decode cX12_letterNumber 153 = .ok (.ireturn, 1) := getB' kX12_letterNumber 31 rfl
def LX12_sumSign : List (Nat × Instr × Nat) := [(0, .iload_n 0, 1), (1, .bipush 43, 2), (3, .if_icmp .ne 7, 3), (6, .iconst 2, 1), (7, .goto 45, 3), (10, .iload_n 0, 1), (11, .bipush 45, 2), (13, .if_icmp .ne 7, 3), (16, .iconst 3, 1), (17, .goto 35, 3), (20, .iload_n 0, 1), (21, .bipush 42, 2), (23, .if_icmp .ne 7, 3), (26, .iconst 4, 1), (27, .goto 25, 3), (30, .iload_n 0, 1), (31, .bipush 47, 2), (33, .if_icmp .ne 7, 3), (36, .iconst 5, 1), (37, .goto 15, 3), (40, .iload_n 0, 1), (41, .bipush 37, 2), (43, .if_icmp .ne 8, 3), (46, .bipush 6, 2), (48, .goto 4, 3), (51, .iconst (-1), 1), (52, .ireturn, 1)]
theorem kX12_sumSign : chkB cX12_sumSign LX12_sumSign = true := by decide +kernel
theorem dX12_sumSign_0 : decode cX12_sumSign 0 = .ok (.iload_n 0, 1) := getB' kX12_sumSign 0 rfl
theorem dX12_sumSign_1 : decode cX12_sumSign 1 = .ok (.bipush 43, 2) := getB' kX12_sumSign 1 rfl
theorem dX12_sumSign_3 : decode cX12_sumSign 3 = .ok (.if_icmp .ne 7, 3) := getB' kX12_sumSign 2 rfl
theorem dX12_sumSign_6 : decode cX12_sumSign 6 = .ok (.iconst 2, 1) := getB' kX12_sumSign 3 rfl
theorem dX12_sumSign_7 : decode cX12_sumSign 7 = .ok (.goto 45, 3) := getB' kX12_sumSign 4 rfl
theorem dX12_sumSign_10 : decode cX12_sumSign 10 = .ok (.iload_n 0, 1) := getB' kX12_sumSign 5 rfl
theorem dX12_sumSign_11 : decode cX12_sumSign 11 = .ok (.bipush 45, 2) := getB' kX12_sumSign 6 rfl
theorem dX12_sumSign_13 : decode cX12_sumSign 13 = .ok (.if_icmp .ne 7, 3) := getB' kX12_sumSign 7 rfl
theorem dX12_sumSign_16 : decode cX12_sumSign 16 = .ok (.iconst 3, 1) := getB' kX12_sumSign 8 rfl
theorem dX12_sumSign_17 : decode cX12_sumSign 17 = .ok (.goto 35, 3) := getB' kX12_sumSign 9 rfl
theorem dX12_sumSign_20 : decode cX12_sumSign 20 = .ok (.iload_n 0, 1) := getB' kX12_sumSign 10 rfl
theorem dX12_sumSign_21 : decode cX12_sumSign 21 = .ok (.bipush 42, 2) := getB' kX12_sumSign 11 rfl
theorem dX12_sumSign_23 : decode cX12_sumSign 23 = .ok (.if_icmp .ne 7, 3) := getB' kX12_sumSign 12 rfl
theorem dX12_sumSign_26 : decode cX12_sumSign 26 = .ok (.iconst 4, 1) := getB' kX12_sumSign 13 rfl
theorem dX12_sumSign_27 : decode cX12_sumSign 27 = .ok (.goto 25, 3) := getB' kX12_sumSign 14 rfl
theorem dX12_sumSign_30 : decode cX12_sumSign 30 = .ok (.iload_n 0, 1) := getB' kX12_sumSign 15 rfl
theorem dX12_sumSign_31 : decode cX12_sumSign 31 = .ok (.bipush 47, 2) := getB' kX12_sumSign 16 rfl
theorem dX12_sumSign_33 : decode cX12_sumSign 33 = .ok (.if_icmp .ne 7, 3) := getB' kX12_sumSign 17 rfl
theorem dX12_sumSign_36 : decode cX12_sumSign 36 = .ok (.iconst 5, 1) := getB' kX12_sumSign 18 rfl
theorem dX12_sumSign_37 : decode cX12_sumSign 37 = .ok (.goto 15, 3) := getB' kX12_sumSign 19 rfl
theorem dX12_sumSign_40 : decode cX12_sumSign 40 = .ok (.iload_n 0, 1) := getB' kX12_sumSign 20 rfl
theorem dX12_sumSign_41 : decode cX12_sumSign 41 = .ok (.bipush 37, 2) := getB' kX12_sumSign 21 rfl
theorem dX12_sumSign_43 : decode cX12_sumSign 43 = .ok (.if_icmp .ne 8, 3) := getB' kX12_sumSign 22 rfl
theorem dX12_sumSign_46 : decode cX12_sumSign 46 = .ok (.bipush 6, 2) := getB' kX12_sumSign 23 rfl
theorem dX12_sumSign_48 : decode cX12_sumSign 48 = .ok (.goto 4, 3) := getB' kX12_sumSign 24 rfl
theorem dX12_sumSign_51 : decode cX12_sumSign 51 = .ok (.iconst (-1), 1) := getB' kX12_sumSign 25 rfl
theorem dX12_sumSign_52 : decode cX12_sumSign 52 = .ok (.ireturn, 1) := getB' kX12_sumSign 26 rfl
def LX12_closesSums : List (Nat × Instr × Nat) := [(0, .aload_n 0, 1), (1, .invokevirtual 476, 3), (4, .iconst 4, 1), (5, .if_icmp .lt 12, 3), (8, .aload_n 0, 1), (9, .invokevirtual 476, 3), (12, .bipush 6, 2), (14, .if_icmp .le 23, 3), (17, .iload_n 1, 1), (18, .ifCond .eq 41, 3), (21, .aload_n 0, 1), (22, .invokevirtual 476, 3), (25, .iconst 2, 1), (26, .if_icmp .eq 11, 3), (29, .aload_n 0, 1), (30, .invokevirtual 476, 3), (33, .iconst 3, 1), (34, .if_icmp .ne 25, 3), (37, .aload_n 0, 1), (38, .aload_n 0, 1), (39, .invokevirtual 476, 3), (42, .iconst 0, 1), (43, .invokevirtual 479, 3), (46, .aload_n 0, 1), (47, .aload_n 0, 1), (48, .getfield 473, 3), (51, .iconst 1, 1), (52, .isub, 1), (53, .putfield 473, 3), (56, .goto (-56), 3), (59, .return_, 1)]
theorem kX12_closesSums : chkB cX12_closesSums LX12_closesSums = true := by decide +kernel
theorem dX12_closesSums_0 : decode cX12_closesSums 0 = .ok (.aload_n 0, 1) := getB' kX12_closesSums 0 rfl
theorem dX12_closesSums_1 : decode cX12_closesSums 1 = .ok (.invokevirtual 476, 3) := getB' kX12_closesSums 1 rfl
theorem dX12_closesSums_4 : decode cX12_closesSums 4 = .ok (.iconst 4, 1) := getB' kX12_closesSums 2 rfl
theorem dX12_closesSums_5 : decode cX12_closesSums 5 = .ok (.if_icmp .lt 12, 3) := getB' kX12_closesSums 3 rfl
theorem dX12_closesSums_8 : decode cX12_closesSums 8 = .ok (.aload_n 0, 1) := getB' kX12_closesSums 4 rfl
theorem dX12_closesSums_9 : decode cX12_closesSums 9 = .ok (.invokevirtual 476, 3) := getB' kX12_closesSums 5 rfl
theorem dX12_closesSums_12 : decode cX12_closesSums 12 = .ok (.bipush 6, 2) := getB' kX12_closesSums 6 rfl
theorem dX12_closesSums_14 : decode cX12_closesSums 14 = .ok (.if_icmp .le 23, 3) := getB' kX12_closesSums 7 rfl
theorem dX12_closesSums_17 : decode cX12_closesSums 17 = .ok (.iload_n 1, 1) := getB' kX12_closesSums 8 rfl
theorem dX12_closesSums_18 : decode cX12_closesSums 18 = .ok (.ifCond .eq 41, 3) := getB' kX12_closesSums 9 rfl
theorem dX12_closesSums_21 : decode cX12_closesSums 21 = .ok (.aload_n 0, 1) := getB' kX12_closesSums 10 rfl
theorem dX12_closesSums_22 : decode cX12_closesSums 22 = .ok (.invokevirtual 476, 3) := getB' kX12_closesSums 11 rfl
theorem dX12_closesSums_25 : decode cX12_closesSums 25 = .ok (.iconst 2, 1) := getB' kX12_closesSums 12 rfl
theorem dX12_closesSums_26 : decode cX12_closesSums 26 = .ok (.if_icmp .eq 11, 3) := getB' kX12_closesSums 13 rfl
theorem dX12_closesSums_29 : decode cX12_closesSums 29 = .ok (.aload_n 0, 1) := getB' kX12_closesSums 14 rfl
theorem dX12_closesSums_30 : decode cX12_closesSums 30 = .ok (.invokevirtual 476, 3) := getB' kX12_closesSums 15 rfl
theorem dX12_closesSums_33 : decode cX12_closesSums 33 = .ok (.iconst 3, 1) := getB' kX12_closesSums 16 rfl
theorem dX12_closesSums_34 : decode cX12_closesSums 34 = .ok (.if_icmp .ne 25, 3) := getB' kX12_closesSums 17 rfl
theorem dX12_closesSums_37 : decode cX12_closesSums 37 = .ok (.aload_n 0, 1) := getB' kX12_closesSums 18 rfl
theorem dX12_closesSums_38 : decode cX12_closesSums 38 = .ok (.aload_n 0, 1) := getB' kX12_closesSums 19 rfl
theorem dX12_closesSums_39 : decode cX12_closesSums 39 = .ok (.invokevirtual 476, 3) := getB' kX12_closesSums 20 rfl
theorem dX12_closesSums_42 : decode cX12_closesSums 42 = .ok (.iconst 0, 1) := getB' kX12_closesSums 21 rfl
theorem dX12_closesSums_43 : decode cX12_closesSums 43 = .ok (.invokevirtual 479, 3) := getB' kX12_closesSums 22 rfl
theorem dX12_closesSums_46 : decode cX12_closesSums 46 = .ok (.aload_n 0, 1) := getB' kX12_closesSums 23 rfl
theorem dX12_closesSums_47 : decode cX12_closesSums 47 = .ok (.aload_n 0, 1) := getB' kX12_closesSums 24 rfl
theorem dX12_closesSums_48 : decode cX12_closesSums 48 = .ok (.getfield 473, 3) := getB' kX12_closesSums 25 rfl
theorem dX12_closesSums_51 : decode cX12_closesSums 51 = .ok (.iconst 1, 1) := getB' kX12_closesSums 26 rfl
theorem dX12_closesSums_52 : decode cX12_closesSums 52 = .ok (.isub, 1) := getB' kX12_closesSums 27 rfl
theorem dX12_closesSums_53 : decode cX12_closesSums 53 = .ok (.putfield 473, 3) := getB' kX12_closesSums 28 rfl
theorem dX12_closesSums_56 : decode cX12_closesSums 56 = .ok (.goto (-56), 3) := getB' kX12_closesSums 29 rfl
theorem dX12_closesSums_59 : decode cX12_closesSums 59 = .ok (.return_, 1) := getB' kX12_closesSums 30 rfl
def LX12_readsFactor : List (Nat × Instr × Nat) := [(0, .aload_n 0, 1), (1, .invokevirtual 449, 3), (4, .bipush 91, 2), (6, .if_icmp .ne 14, 3), (9, .aload_n 0, 1), (10, .bipush 14, 2), (12, .invokevirtual 482, 3), (15, .ifCond .ne (-15), 3), (18, .iconst 0, 1), (19, .ireturn, 1), (20, .aload_n 0, 1), (21, .invokevirtual 462, 3), (24, .ifCond .eq 26, 3), (27, .aload_n 0, 1), (28, .ldc_w 485, 3), (31, .invokevirtual 486, 3), (34, .ifCond .ne 5, 3), (37, .iconst 0, 1), (38, .ireturn, 1), (39, .aload_n 0, 1), (40, .iconst 0, 1), (41, .aload_n 0, 1), (42, .getfield 459, 3), (45, .invokevirtual 479, 3), (48, .iconst 1, 1), (49, .ireturn, 1), (50, .aload_n 0, 1), (51, .invokevirtual 449, 3), (54, .iconst (-1), 1), (55, .if_icmp .ne 7, 3), (58, .iconst (-1), 1), (59, .goto 10, 3), (62, .aload_n 0, 1), (63, .invokevirtual 449, 3), (66, .invokestatic 489, 3), (69, .istore_n 1, 1), (70, .iload_n 1, 1), (71, .iconst (-1), 1), (72, .if_icmp .ne 13, 3), (75, .aload_n 0, 1), (76, .iconst 1, 1), (77, .aload_n 0, 1), (78, .getfield 443, 3), (81, .invokevirtual 456, 3), (84, .ireturn, 1), (85, .aload_n 0, 1), (86, .iconst 1, 1), (87, .iload_n 1, 1), (88, .invokevirtual 479, 3), (91, .aload_n 0, 1), (92, .aload_n 0, 1), (93, .getfield 443, 3), (96, .iconst 1, 1), (97, .iadd, 1), (98, .putfield 443, 3), (101, .iconst 1, 1), (102, .ireturn, 1)]
theorem kX12_readsFactor : chkB cX12_readsFactor LX12_readsFactor = true := by decide +kernel
theorem dX12_readsFactor_0 : decode cX12_readsFactor 0 = .ok (.aload_n 0, 1) := getB' kX12_readsFactor 0 rfl
theorem dX12_readsFactor_1 : decode cX12_readsFactor 1 = .ok (.invokevirtual 449, 3) := getB' kX12_readsFactor 1 rfl
theorem dX12_readsFactor_4 : decode cX12_readsFactor 4 = .ok (.bipush 91, 2) := getB' kX12_readsFactor 2 rfl
theorem dX12_readsFactor_6 : decode cX12_readsFactor 6 = .ok (.if_icmp .ne 14, 3) := getB' kX12_readsFactor 3 rfl
theorem dX12_readsFactor_9 : decode cX12_readsFactor 9 = .ok (.aload_n 0, 1) := getB' kX12_readsFactor 4 rfl
theorem dX12_readsFactor_10 : decode cX12_readsFactor 10 = .ok (.bipush 14, 2) := getB' kX12_readsFactor 5 rfl
theorem dX12_readsFactor_12 : decode cX12_readsFactor 12 = .ok (.invokevirtual 482, 3) := getB' kX12_readsFactor 6 rfl
theorem dX12_readsFactor_15 : decode cX12_readsFactor 15 = .ok (.ifCond .ne (-15), 3) := getB' kX12_readsFactor 7 rfl
theorem dX12_readsFactor_18 : decode cX12_readsFactor 18 = .ok (.iconst 0, 1) := getB' kX12_readsFactor 8 rfl
theorem dX12_readsFactor_19 : decode cX12_readsFactor 19 = .ok (.ireturn, 1) := getB' kX12_readsFactor 9 rfl
theorem dX12_readsFactor_20 : decode cX12_readsFactor 20 = .ok (.aload_n 0, 1) := getB' kX12_readsFactor 10 rfl
theorem dX12_readsFactor_21 : decode cX12_readsFactor 21 = .ok (.invokevirtual 462, 3) := getB' kX12_readsFactor 11 rfl
theorem dX12_readsFactor_24 : decode cX12_readsFactor 24 = .ok (.ifCond .eq 26, 3) := getB' kX12_readsFactor 12 rfl
theorem dX12_readsFactor_27 : decode cX12_readsFactor 27 = .ok (.aload_n 0, 1) := getB' kX12_readsFactor 13 rfl
theorem dX12_readsFactor_28 : decode cX12_readsFactor 28 = .ok (.ldc_w 485, 3) := getB' kX12_readsFactor 14 rfl
theorem dX12_readsFactor_31 : decode cX12_readsFactor 31 = .ok (.invokevirtual 486, 3) := getB' kX12_readsFactor 15 rfl
theorem dX12_readsFactor_34 : decode cX12_readsFactor 34 = .ok (.ifCond .ne 5, 3) := getB' kX12_readsFactor 16 rfl
theorem dX12_readsFactor_37 : decode cX12_readsFactor 37 = .ok (.iconst 0, 1) := getB' kX12_readsFactor 17 rfl
theorem dX12_readsFactor_38 : decode cX12_readsFactor 38 = .ok (.ireturn, 1) := getB' kX12_readsFactor 18 rfl
theorem dX12_readsFactor_39 : decode cX12_readsFactor 39 = .ok (.aload_n 0, 1) := getB' kX12_readsFactor 19 rfl
theorem dX12_readsFactor_40 : decode cX12_readsFactor 40 = .ok (.iconst 0, 1) := getB' kX12_readsFactor 20 rfl
theorem dX12_readsFactor_41 : decode cX12_readsFactor 41 = .ok (.aload_n 0, 1) := getB' kX12_readsFactor 21 rfl
theorem dX12_readsFactor_42 : decode cX12_readsFactor 42 = .ok (.getfield 459, 3) := getB' kX12_readsFactor 22 rfl
theorem dX12_readsFactor_45 : decode cX12_readsFactor 45 = .ok (.invokevirtual 479, 3) := getB' kX12_readsFactor 23 rfl
theorem dX12_readsFactor_48 : decode cX12_readsFactor 48 = .ok (.iconst 1, 1) := getB' kX12_readsFactor 24 rfl
theorem dX12_readsFactor_49 : decode cX12_readsFactor 49 = .ok (.ireturn, 1) := getB' kX12_readsFactor 25 rfl
theorem dX12_readsFactor_50 : decode cX12_readsFactor 50 = .ok (.aload_n 0, 1) := getB' kX12_readsFactor 26 rfl
theorem dX12_readsFactor_51 : decode cX12_readsFactor 51 = .ok (.invokevirtual 449, 3) := getB' kX12_readsFactor 27 rfl
theorem dX12_readsFactor_54 : decode cX12_readsFactor 54 = .ok (.iconst (-1), 1) := getB' kX12_readsFactor 28 rfl
theorem dX12_readsFactor_55 : decode cX12_readsFactor 55 = .ok (.if_icmp .ne 7, 3) := getB' kX12_readsFactor 29 rfl
theorem dX12_readsFactor_58 : decode cX12_readsFactor 58 = .ok (.iconst (-1), 1) := getB' kX12_readsFactor 30 rfl
theorem dX12_readsFactor_59 : decode cX12_readsFactor 59 = .ok (.goto 10, 3) := getB' kX12_readsFactor 31 rfl
theorem dX12_readsFactor_62 : decode cX12_readsFactor 62 = .ok (.aload_n 0, 1) := getB' kX12_readsFactor 32 rfl
theorem dX12_readsFactor_63 : decode cX12_readsFactor 63 = .ok (.invokevirtual 449, 3) := getB' kX12_readsFactor 33 rfl
theorem dX12_readsFactor_66 : decode cX12_readsFactor 66 = .ok (.invokestatic 489, 3) := getB' kX12_readsFactor 34 rfl
theorem dX12_readsFactor_69 : decode cX12_readsFactor 69 = .ok (.istore_n 1, 1) := getB' kX12_readsFactor 35 rfl
theorem dX12_readsFactor_70 : decode cX12_readsFactor 70 = .ok (.iload_n 1, 1) := getB' kX12_readsFactor 36 rfl
theorem dX12_readsFactor_71 : decode cX12_readsFactor 71 = .ok (.iconst (-1), 1) := getB' kX12_readsFactor 37 rfl
theorem dX12_readsFactor_72 : decode cX12_readsFactor 72 = .ok (.if_icmp .ne 13, 3) := getB' kX12_readsFactor 38 rfl
theorem dX12_readsFactor_75 : decode cX12_readsFactor 75 = .ok (.aload_n 0, 1) := getB' kX12_readsFactor 39 rfl
theorem dX12_readsFactor_76 : decode cX12_readsFactor 76 = .ok (.iconst 1, 1) := getB' kX12_readsFactor 40 rfl
theorem dX12_readsFactor_77 : decode cX12_readsFactor 77 = .ok (.aload_n 0, 1) := getB' kX12_readsFactor 41 rfl
theorem dX12_readsFactor_78 : decode cX12_readsFactor 78 = .ok (.getfield 443, 3) := getB' kX12_readsFactor 42 rfl
theorem dX12_readsFactor_81 : decode cX12_readsFactor 81 = .ok (.invokevirtual 456, 3) := getB' kX12_readsFactor 43 rfl
theorem dX12_readsFactor_84 : decode cX12_readsFactor 84 = .ok (.ireturn, 1) := getB' kX12_readsFactor 44 rfl
theorem dX12_readsFactor_85 : decode cX12_readsFactor 85 = .ok (.aload_n 0, 1) := getB' kX12_readsFactor 45 rfl
theorem dX12_readsFactor_86 : decode cX12_readsFactor 86 = .ok (.iconst 1, 1) := getB' kX12_readsFactor 46 rfl
theorem dX12_readsFactor_87 : decode cX12_readsFactor 87 = .ok (.iload_n 1, 1) := getB' kX12_readsFactor 47 rfl
theorem dX12_readsFactor_88 : decode cX12_readsFactor 88 = .ok (.invokevirtual 479, 3) := getB' kX12_readsFactor 48 rfl
theorem dX12_readsFactor_91 : decode cX12_readsFactor 91 = .ok (.aload_n 0, 1) := getB' kX12_readsFactor 49 rfl
theorem dX12_readsFactor_92 : decode cX12_readsFactor 92 = .ok (.aload_n 0, 1) := getB' kX12_readsFactor 50 rfl
theorem dX12_readsFactor_93 : decode cX12_readsFactor 93 = .ok (.getfield 443, 3) := getB' kX12_readsFactor 51 rfl
theorem dX12_readsFactor_96 : decode cX12_readsFactor 96 = .ok (.iconst 1, 1) := getB' kX12_readsFactor 52 rfl
theorem dX12_readsFactor_97 : decode cX12_readsFactor 97 = .ok (.iadd, 1) := getB' kX12_readsFactor 53 rfl
theorem dX12_readsFactor_98 : decode cX12_readsFactor 98 = .ok (.putfield 443, 3) := getB' kX12_readsFactor 54 rfl
theorem dX12_readsFactor_101 : decode cX12_readsFactor 101 = .ok (.iconst 1, 1) := getB' kX12_readsFactor 55 rfl
theorem dX12_readsFactor_102 : decode cX12_readsFactor 102 = .ok (.ireturn, 1) := getB' kX12_readsFactor 56 rfl
def LX12_readsSum : List (Nat × Instr × Nat) := [(0, .aload_n 0, 1), (1, .getfield 473, 3), (4, .istore_n 1, 1), (5, .aload_n 0, 1), (6, .invokevirtual 492, 3), (9, .ifCond .ne 5, 3), (12, .iconst 0, 1), (13, .ireturn, 1), (14, .aload_n 0, 1), (15, .invokevirtual 449, 3), (18, .iconst (-1), 1), (19, .if_icmp .ne 7, 3), (22, .iconst (-1), 1), (23, .goto 10, 3), (26, .aload_n 0, 1), (27, .invokevirtual 449, 3), (30, .invokestatic 495, 3), (33, .istore_n 2, 1), (34, .iload_n 2, 1), (35, .iconst (-1), 1), (36, .if_icmp .eq 60, 3), (39, .aload_n 0, 1), (40, .iload_n 2, 1), (41, .iconst 4, 1), (42, .if_icmp .ge 7, 3), (45, .iconst 1, 1), (46, .goto 4, 3), (49, .iconst 0, 1), (50, .invokevirtual 498, 3), (53, .aload_n 0, 1), (54, .getfield 91, 3), (57, .aload_n 0, 1), (58, .getfield 473, 3), (61, .ldc_w 469, 3), (64, .iload_n 2, 1), (65, .imul, 1), (66, .iastore, 1), (67, .aload_n 0, 1), (68, .aload_n 0, 1), (69, .getfield 473, 3), (72, .iconst 1, 1), (73, .iadd, 1), (74, .putfield 473, 3), (77, .aload_n 0, 1), (78, .aload_n 0, 1), (79, .getfield 443, 3), (82, .iconst 1, 1), (83, .iadd, 1), (84, .putfield 443, 3), (87, .aload_n 0, 1), (88, .invokevirtual 492, 3), (91, .ifCond .ne 85, 3), (94, .iconst 0, 1), (95, .ireturn, 1), (96, .aload_n 0, 1), (97, .invokevirtual 449, 3), (100, .bipush 93, 2), (102, .if_icmp .ne 49, 3), (105, .aload_n 0, 1), (106, .iload_n 1, 1), (107, .invokevirtual 502, 3), (110, .ifCond .eq 41, 3), (113, .aload_n 0, 1), (114, .iconst 1, 1), (115, .invokevirtual 498, 3), (118, .aload_n 0, 1), (119, .aload_n 0, 1), (120, .getfield 473, 3), (123, .iconst 1, 1), (124, .isub, 1), (125, .putfield 473, 3), (128, .aload_n 0, 1), (129, .aload_n 0, 1), (130, .getfield 470, 3), (133, .iconst 1, 1), (134, .isub, 1), (135, .putfield 470, 3), (138, .aload_n 0, 1), (139, .aload_n 0, 1), (140, .getfield 443, 3), (143, .iconst 1, 1), (144, .iadd, 1), (145, .putfield 443, 3), (148, .goto 28, 3), (151, .aload_n 0, 1), (152, .iload_n 1, 1), (153, .invokevirtual 502, 3), (156, .ifCond .eq 13, 3), (159, .aload_n 0, 1), (160, .iconst 1, 1), (161, .aload_n 0, 1), (162, .getfield 443, 3), (165, .invokevirtual 456, 3), (168, .ireturn, 1), (169, .aload_n 0, 1), (170, .iconst 1, 1), (171, .invokevirtual 498, 3), (174, .iconst 1, 1), (175, .ireturn, 1), (176, .goto (-162), 3)]
theorem kX12_readsSum : chkB cX12_readsSum LX12_readsSum = true := by decide +kernel
theorem dX12_readsSum_0 : decode cX12_readsSum 0 = .ok (.aload_n 0, 1) := getB' kX12_readsSum 0 rfl
theorem dX12_readsSum_1 : decode cX12_readsSum 1 = .ok (.getfield 473, 3) := getB' kX12_readsSum 1 rfl
theorem dX12_readsSum_4 : decode cX12_readsSum 4 = .ok (.istore_n 1, 1) := getB' kX12_readsSum 2 rfl
theorem dX12_readsSum_5 : decode cX12_readsSum 5 = .ok (.aload_n 0, 1) := getB' kX12_readsSum 3 rfl
theorem dX12_readsSum_6 : decode cX12_readsSum 6 = .ok (.invokevirtual 492, 3) := getB' kX12_readsSum 4 rfl
theorem dX12_readsSum_9 : decode cX12_readsSum 9 = .ok (.ifCond .ne 5, 3) := getB' kX12_readsSum 5 rfl
theorem dX12_readsSum_12 : decode cX12_readsSum 12 = .ok (.iconst 0, 1) := getB' kX12_readsSum 6 rfl
theorem dX12_readsSum_13 : decode cX12_readsSum 13 = .ok (.ireturn, 1) := getB' kX12_readsSum 7 rfl
theorem dX12_readsSum_14 : decode cX12_readsSum 14 = .ok (.aload_n 0, 1) := getB' kX12_readsSum 8 rfl
theorem dX12_readsSum_15 : decode cX12_readsSum 15 = .ok (.invokevirtual 449, 3) := getB' kX12_readsSum 9 rfl
theorem dX12_readsSum_18 : decode cX12_readsSum 18 = .ok (.iconst (-1), 1) := getB' kX12_readsSum 10 rfl
theorem dX12_readsSum_19 : decode cX12_readsSum 19 = .ok (.if_icmp .ne 7, 3) := getB' kX12_readsSum 11 rfl
theorem dX12_readsSum_22 : decode cX12_readsSum 22 = .ok (.iconst (-1), 1) := getB' kX12_readsSum 12 rfl
theorem dX12_readsSum_23 : decode cX12_readsSum 23 = .ok (.goto 10, 3) := getB' kX12_readsSum 13 rfl
theorem dX12_readsSum_26 : decode cX12_readsSum 26 = .ok (.aload_n 0, 1) := getB' kX12_readsSum 14 rfl
theorem dX12_readsSum_27 : decode cX12_readsSum 27 = .ok (.invokevirtual 449, 3) := getB' kX12_readsSum 15 rfl
theorem dX12_readsSum_30 : decode cX12_readsSum 30 = .ok (.invokestatic 495, 3) := getB' kX12_readsSum 16 rfl
theorem dX12_readsSum_33 : decode cX12_readsSum 33 = .ok (.istore_n 2, 1) := getB' kX12_readsSum 17 rfl
theorem dX12_readsSum_34 : decode cX12_readsSum 34 = .ok (.iload_n 2, 1) := getB' kX12_readsSum 18 rfl
theorem dX12_readsSum_35 : decode cX12_readsSum 35 = .ok (.iconst (-1), 1) := getB' kX12_readsSum 19 rfl
theorem dX12_readsSum_36 : decode cX12_readsSum 36 = .ok (.if_icmp .eq 60, 3) := getB' kX12_readsSum 20 rfl
theorem dX12_readsSum_39 : decode cX12_readsSum 39 = .ok (.aload_n 0, 1) := getB' kX12_readsSum 21 rfl
theorem dX12_readsSum_40 : decode cX12_readsSum 40 = .ok (.iload_n 2, 1) := getB' kX12_readsSum 22 rfl
theorem dX12_readsSum_41 : decode cX12_readsSum 41 = .ok (.iconst 4, 1) := getB' kX12_readsSum 23 rfl
theorem dX12_readsSum_42 : decode cX12_readsSum 42 = .ok (.if_icmp .ge 7, 3) := getB' kX12_readsSum 24 rfl
theorem dX12_readsSum_45 : decode cX12_readsSum 45 = .ok (.iconst 1, 1) := getB' kX12_readsSum 25 rfl
theorem dX12_readsSum_46 : decode cX12_readsSum 46 = .ok (.goto 4, 3) := getB' kX12_readsSum 26 rfl
theorem dX12_readsSum_49 : decode cX12_readsSum 49 = .ok (.iconst 0, 1) := getB' kX12_readsSum 27 rfl
theorem dX12_readsSum_50 : decode cX12_readsSum 50 = .ok (.invokevirtual 498, 3) := getB' kX12_readsSum 28 rfl
theorem dX12_readsSum_53 : decode cX12_readsSum 53 = .ok (.aload_n 0, 1) := getB' kX12_readsSum 29 rfl
theorem dX12_readsSum_54 : decode cX12_readsSum 54 = .ok (.getfield 91, 3) := getB' kX12_readsSum 30 rfl
theorem dX12_readsSum_57 : decode cX12_readsSum 57 = .ok (.aload_n 0, 1) := getB' kX12_readsSum 31 rfl
theorem dX12_readsSum_58 : decode cX12_readsSum 58 = .ok (.getfield 473, 3) := getB' kX12_readsSum 32 rfl
theorem dX12_readsSum_61 : decode cX12_readsSum 61 = .ok (.ldc_w 469, 3) := getB' kX12_readsSum 33 rfl
theorem dX12_readsSum_64 : decode cX12_readsSum 64 = .ok (.iload_n 2, 1) := getB' kX12_readsSum 34 rfl
theorem dX12_readsSum_65 : decode cX12_readsSum 65 = .ok (.imul, 1) := getB' kX12_readsSum 35 rfl
theorem dX12_readsSum_66 : decode cX12_readsSum 66 = .ok (.iastore, 1) := getB' kX12_readsSum 36 rfl
theorem dX12_readsSum_67 : decode cX12_readsSum 67 = .ok (.aload_n 0, 1) := getB' kX12_readsSum 37 rfl
theorem dX12_readsSum_68 : decode cX12_readsSum 68 = .ok (.aload_n 0, 1) := getB' kX12_readsSum 38 rfl
theorem dX12_readsSum_69 : decode cX12_readsSum 69 = .ok (.getfield 473, 3) := getB' kX12_readsSum 39 rfl
theorem dX12_readsSum_72 : decode cX12_readsSum 72 = .ok (.iconst 1, 1) := getB' kX12_readsSum 40 rfl
theorem dX12_readsSum_73 : decode cX12_readsSum 73 = .ok (.iadd, 1) := getB' kX12_readsSum 41 rfl
theorem dX12_readsSum_74 : decode cX12_readsSum 74 = .ok (.putfield 473, 3) := getB' kX12_readsSum 42 rfl
theorem dX12_readsSum_77 : decode cX12_readsSum 77 = .ok (.aload_n 0, 1) := getB' kX12_readsSum 43 rfl
theorem dX12_readsSum_78 : decode cX12_readsSum 78 = .ok (.aload_n 0, 1) := getB' kX12_readsSum 44 rfl
theorem dX12_readsSum_79 : decode cX12_readsSum 79 = .ok (.getfield 443, 3) := getB' kX12_readsSum 45 rfl
theorem dX12_readsSum_82 : decode cX12_readsSum 82 = .ok (.iconst 1, 1) := getB' kX12_readsSum 46 rfl
theorem dX12_readsSum_83 : decode cX12_readsSum 83 = .ok (.iadd, 1) := getB' kX12_readsSum 47 rfl
theorem dX12_readsSum_84 : decode cX12_readsSum 84 = .ok (.putfield 443, 3) := getB' kX12_readsSum 48 rfl
theorem dX12_readsSum_87 : decode cX12_readsSum 87 = .ok (.aload_n 0, 1) := getB' kX12_readsSum 49 rfl
theorem dX12_readsSum_88 : decode cX12_readsSum 88 = .ok (.invokevirtual 492, 3) := getB' kX12_readsSum 50 rfl
theorem dX12_readsSum_91 : decode cX12_readsSum 91 = .ok (.ifCond .ne 85, 3) := getB' kX12_readsSum 51 rfl
theorem dX12_readsSum_94 : decode cX12_readsSum 94 = .ok (.iconst 0, 1) := getB' kX12_readsSum 52 rfl
theorem dX12_readsSum_95 : decode cX12_readsSum 95 = .ok (.ireturn, 1) := getB' kX12_readsSum 53 rfl
theorem dX12_readsSum_96 : decode cX12_readsSum 96 = .ok (.aload_n 0, 1) := getB' kX12_readsSum 54 rfl
theorem dX12_readsSum_97 : decode cX12_readsSum 97 = .ok (.invokevirtual 449, 3) := getB' kX12_readsSum 55 rfl
theorem dX12_readsSum_100 : decode cX12_readsSum 100 = .ok (.bipush 93, 2) := getB' kX12_readsSum 56 rfl
theorem dX12_readsSum_102 : decode cX12_readsSum 102 = .ok (.if_icmp .ne 49, 3) := getB' kX12_readsSum 57 rfl
theorem dX12_readsSum_105 : decode cX12_readsSum 105 = .ok (.aload_n 0, 1) := getB' kX12_readsSum 58 rfl
theorem dX12_readsSum_106 : decode cX12_readsSum 106 = .ok (.iload_n 1, 1) := getB' kX12_readsSum 59 rfl
theorem dX12_readsSum_107 : decode cX12_readsSum 107 = .ok (.invokevirtual 502, 3) := getB' kX12_readsSum 60 rfl
theorem dX12_readsSum_110 : decode cX12_readsSum 110 = .ok (.ifCond .eq 41, 3) := getB' kX12_readsSum 61 rfl
theorem dX12_readsSum_113 : decode cX12_readsSum 113 = .ok (.aload_n 0, 1) := getB' kX12_readsSum 62 rfl
theorem dX12_readsSum_114 : decode cX12_readsSum 114 = .ok (.iconst 1, 1) := getB' kX12_readsSum 63 rfl
theorem dX12_readsSum_115 : decode cX12_readsSum 115 = .ok (.invokevirtual 498, 3) := getB' kX12_readsSum 64 rfl
theorem dX12_readsSum_118 : decode cX12_readsSum 118 = .ok (.aload_n 0, 1) := getB' kX12_readsSum 65 rfl
theorem dX12_readsSum_119 : decode cX12_readsSum 119 = .ok (.aload_n 0, 1) := getB' kX12_readsSum 66 rfl
theorem dX12_readsSum_120 : decode cX12_readsSum 120 = .ok (.getfield 473, 3) := getB' kX12_readsSum 67 rfl
theorem dX12_readsSum_123 : decode cX12_readsSum 123 = .ok (.iconst 1, 1) := getB' kX12_readsSum 68 rfl
theorem dX12_readsSum_124 : decode cX12_readsSum 124 = .ok (.isub, 1) := getB' kX12_readsSum 69 rfl
theorem dX12_readsSum_125 : decode cX12_readsSum 125 = .ok (.putfield 473, 3) := getB' kX12_readsSum 70 rfl
theorem dX12_readsSum_128 : decode cX12_readsSum 128 = .ok (.aload_n 0, 1) := getB' kX12_readsSum 71 rfl
theorem dX12_readsSum_129 : decode cX12_readsSum 129 = .ok (.aload_n 0, 1) := getB' kX12_readsSum 72 rfl
theorem dX12_readsSum_130 : decode cX12_readsSum 130 = .ok (.getfield 470, 3) := getB' kX12_readsSum 73 rfl
theorem dX12_readsSum_133 : decode cX12_readsSum 133 = .ok (.iconst 1, 1) := getB' kX12_readsSum 74 rfl
theorem dX12_readsSum_134 : decode cX12_readsSum 134 = .ok (.isub, 1) := getB' kX12_readsSum 75 rfl
theorem dX12_readsSum_135 : decode cX12_readsSum 135 = .ok (.putfield 470, 3) := getB' kX12_readsSum 76 rfl
theorem dX12_readsSum_138 : decode cX12_readsSum 138 = .ok (.aload_n 0, 1) := getB' kX12_readsSum 77 rfl
theorem dX12_readsSum_139 : decode cX12_readsSum 139 = .ok (.aload_n 0, 1) := getB' kX12_readsSum 78 rfl
theorem dX12_readsSum_140 : decode cX12_readsSum 140 = .ok (.getfield 443, 3) := getB' kX12_readsSum 79 rfl
theorem dX12_readsSum_143 : decode cX12_readsSum 143 = .ok (.iconst 1, 1) := getB' kX12_readsSum 80 rfl
theorem dX12_readsSum_144 : decode cX12_readsSum 144 = .ok (.iadd, 1) := getB' kX12_readsSum 81 rfl
theorem dX12_readsSum_145 : decode cX12_readsSum 145 = .ok (.putfield 443, 3) := getB' kX12_readsSum 82 rfl
theorem dX12_readsSum_148 : decode cX12_readsSum 148 = .ok (.goto 28, 3) := getB' kX12_readsSum 83 rfl
theorem dX12_readsSum_151 : decode cX12_readsSum 151 = .ok (.aload_n 0, 1) := getB' kX12_readsSum 84 rfl
theorem dX12_readsSum_152 : decode cX12_readsSum 152 = .ok (.iload_n 1, 1) := getB' kX12_readsSum 85 rfl
theorem dX12_readsSum_153 : decode cX12_readsSum 153 = .ok (.invokevirtual 502, 3) := getB' kX12_readsSum 86 rfl
theorem dX12_readsSum_156 : decode cX12_readsSum 156 = .ok (.ifCond .eq 13, 3) := getB' kX12_readsSum 87 rfl
theorem dX12_readsSum_159 : decode cX12_readsSum 159 = .ok (.aload_n 0, 1) := getB' kX12_readsSum 88 rfl
theorem dX12_readsSum_160 : decode cX12_readsSum 160 = .ok (.iconst 1, 1) := getB' kX12_readsSum 89 rfl
theorem dX12_readsSum_161 : decode cX12_readsSum 161 = .ok (.aload_n 0, 1) := getB' kX12_readsSum 90 rfl
theorem dX12_readsSum_162 : decode cX12_readsSum 162 = .ok (.getfield 443, 3) := getB' kX12_readsSum 91 rfl
theorem dX12_readsSum_165 : decode cX12_readsSum 165 = .ok (.invokevirtual 456, 3) := getB' kX12_readsSum 92 rfl
theorem dX12_readsSum_168 : decode cX12_readsSum 168 = .ok (.ireturn, 1) := getB' kX12_readsSum 93 rfl
theorem dX12_readsSum_169 : decode cX12_readsSum 169 = .ok (.aload_n 0, 1) := getB' kX12_readsSum 94 rfl
theorem dX12_readsSum_170 : decode cX12_readsSum 170 = .ok (.iconst 1, 1) := getB' kX12_readsSum 95 rfl
theorem dX12_readsSum_171 : decode cX12_readsSum 171 = .ok (.invokevirtual 498, 3) := getB' kX12_readsSum 96 rfl
theorem dX12_readsSum_174 : decode cX12_readsSum 174 = .ok (.iconst 1, 1) := getB' kX12_readsSum 97 rfl
theorem dX12_readsSum_175 : decode cX12_readsSum 175 = .ok (.ireturn, 1) := getB' kX12_readsSum 98 rfl
theorem dX12_readsSum_176 : decode cX12_readsSum 176 = .ok (.goto (-162), 3) := getB' kX12_readsSum 99 rfl
def LX12_hasOpenSum : List (Nat × Instr × Nat) := [(0, .iload_n 1, 1), (1, .istore_n 2, 1), (2, .iload_n 2, 1), (3, .aload_n 0, 1), (4, .getfield 473, 3), (7, .if_icmp .ge 26, 3), (10, .aload_n 0, 1), (11, .getfield 91, 3), (14, .iload_n 2, 1), (15, .iaload, 1), (16, .ldc_w 469, 3), (19, .idiv, 1), (20, .bipush 14, 2), (22, .if_icmp .ne 5, 3), (25, .iconst 1, 1), (26, .ireturn, 1), (27, .iinc 2 1, 3), (30, .goto (-28), 3), (33, .iconst 0, 1), (34, .ireturn, 1)]
theorem kX12_hasOpenSum : chkB cX12_hasOpenSum LX12_hasOpenSum = true := by decide +kernel
theorem dX12_hasOpenSum_0 : decode cX12_hasOpenSum 0 = .ok (.iload_n 1, 1) := getB' kX12_hasOpenSum 0 rfl
theorem dX12_hasOpenSum_1 : decode cX12_hasOpenSum 1 = .ok (.istore_n 2, 1) := getB' kX12_hasOpenSum 1 rfl
theorem dX12_hasOpenSum_2 : decode cX12_hasOpenSum 2 = .ok (.iload_n 2, 1) := getB' kX12_hasOpenSum 2 rfl
theorem dX12_hasOpenSum_3 : decode cX12_hasOpenSum 3 = .ok (.aload_n 0, 1) := getB' kX12_hasOpenSum 3 rfl
theorem dX12_hasOpenSum_4 : decode cX12_hasOpenSum 4 = .ok (.getfield 473, 3) := getB' kX12_hasOpenSum 4 rfl
theorem dX12_hasOpenSum_7 : decode cX12_hasOpenSum 7 = .ok (.if_icmp .ge 26, 3) := getB' kX12_hasOpenSum 5 rfl
theorem dX12_hasOpenSum_10 : decode cX12_hasOpenSum 10 = .ok (.aload_n 0, 1) := getB' kX12_hasOpenSum 6 rfl
theorem dX12_hasOpenSum_11 : decode cX12_hasOpenSum 11 = .ok (.getfield 91, 3) := getB' kX12_hasOpenSum 7 rfl
theorem dX12_hasOpenSum_14 : decode cX12_hasOpenSum 14 = .ok (.iload_n 2, 1) := getB' kX12_hasOpenSum 8 rfl
theorem dX12_hasOpenSum_15 : decode cX12_hasOpenSum 15 = .ok (.iaload, 1) := getB' kX12_hasOpenSum 9 rfl
theorem dX12_hasOpenSum_16 : decode cX12_hasOpenSum 16 = .ok (.ldc_w 469, 3) := getB' kX12_hasOpenSum 10 rfl
theorem dX12_hasOpenSum_19 : decode cX12_hasOpenSum 19 = .ok (.idiv, 1) := getB' kX12_hasOpenSum 11 rfl
theorem dX12_hasOpenSum_20 : decode cX12_hasOpenSum 20 = .ok (.bipush 14, 2) := getB' kX12_hasOpenSum 12 rfl
theorem dX12_hasOpenSum_22 : decode cX12_hasOpenSum 22 = .ok (.if_icmp .ne 5, 3) := getB' kX12_hasOpenSum 13 rfl
theorem dX12_hasOpenSum_25 : decode cX12_hasOpenSum 25 = .ok (.iconst 1, 1) := getB' kX12_hasOpenSum 14 rfl
theorem dX12_hasOpenSum_26 : decode cX12_hasOpenSum 26 = .ok (.ireturn, 1) := getB' kX12_hasOpenSum 15 rfl
theorem dX12_hasOpenSum_27 : decode cX12_hasOpenSum 27 = .ok (.iinc 2 1, 3) := getB' kX12_hasOpenSum 16 rfl
theorem dX12_hasOpenSum_30 : decode cX12_hasOpenSum 30 = .ok (.goto (-28), 3) := getB' kX12_hasOpenSum 17 rfl
theorem dX12_hasOpenSum_33 : decode cX12_hasOpenSum 33 = .ok (.iconst 0, 1) := getB' kX12_hasOpenSum 18 rfl
theorem dX12_hasOpenSum_34 : decode cX12_hasOpenSum 34 = .ok (.ireturn, 1) := getB' kX12_hasOpenSum 19 rfl
def LX12_endsPiece : List (Nat × Instr × Nat) := [(0, .aload_n 0, 1), (1, .invokevirtual 476, 3), (4, .bipush 10, 2), (6, .if_icmp .ne 33, 3), (9, .aload_n 0, 1), (10, .bipush 10, 2), (12, .iconst 0, 1), (13, .invokevirtual 479, 3), (16, .aload_n 0, 1), (17, .aload_n 0, 1), (18, .getfield 473, 3), (21, .iconst 1, 1), (22, .isub, 1), (23, .putfield 473, 3), (26, .aload_n 0, 1), (27, .aload_n 0, 1), (28, .getfield 470, 3), (31, .iconst 1, 1), (32, .isub, 1), (33, .putfield 470, 3), (36, .goto (-36), 3), (39, .return_, 1)]
theorem kX12_endsPiece : chkB cX12_endsPiece LX12_endsPiece = true := by decide +kernel
theorem dX12_endsPiece_0 : decode cX12_endsPiece 0 = .ok (.aload_n 0, 1) := getB' kX12_endsPiece 0 rfl
theorem dX12_endsPiece_1 : decode cX12_endsPiece 1 = .ok (.invokevirtual 476, 3) := getB' kX12_endsPiece 1 rfl
theorem dX12_endsPiece_4 : decode cX12_endsPiece 4 = .ok (.bipush 10, 2) := getB' kX12_endsPiece 2 rfl
theorem dX12_endsPiece_6 : decode cX12_endsPiece 6 = .ok (.if_icmp .ne 33, 3) := getB' kX12_endsPiece 3 rfl
theorem dX12_endsPiece_9 : decode cX12_endsPiece 9 = .ok (.aload_n 0, 1) := getB' kX12_endsPiece 4 rfl
theorem dX12_endsPiece_10 : decode cX12_endsPiece 10 = .ok (.bipush 10, 2) := getB' kX12_endsPiece 5 rfl
theorem dX12_endsPiece_12 : decode cX12_endsPiece 12 = .ok (.iconst 0, 1) := getB' kX12_endsPiece 6 rfl
theorem dX12_endsPiece_13 : decode cX12_endsPiece 13 = .ok (.invokevirtual 479, 3) := getB' kX12_endsPiece 7 rfl
theorem dX12_endsPiece_16 : decode cX12_endsPiece 16 = .ok (.aload_n 0, 1) := getB' kX12_endsPiece 8 rfl
theorem dX12_endsPiece_17 : decode cX12_endsPiece 17 = .ok (.aload_n 0, 1) := getB' kX12_endsPiece 9 rfl
theorem dX12_endsPiece_18 : decode cX12_endsPiece 18 = .ok (.getfield 473, 3) := getB' kX12_endsPiece 10 rfl
theorem dX12_endsPiece_21 : decode cX12_endsPiece 21 = .ok (.iconst 1, 1) := getB' kX12_endsPiece 11 rfl
theorem dX12_endsPiece_22 : decode cX12_endsPiece 22 = .ok (.isub, 1) := getB' kX12_endsPiece 12 rfl
theorem dX12_endsPiece_23 : decode cX12_endsPiece 23 = .ok (.putfield 473, 3) := getB' kX12_endsPiece 13 rfl
theorem dX12_endsPiece_26 : decode cX12_endsPiece 26 = .ok (.aload_n 0, 1) := getB' kX12_endsPiece 14 rfl
theorem dX12_endsPiece_27 : decode cX12_endsPiece 27 = .ok (.aload_n 0, 1) := getB' kX12_endsPiece 15 rfl
theorem dX12_endsPiece_28 : decode cX12_endsPiece 28 = .ok (.getfield 470, 3) := getB' kX12_endsPiece 16 rfl
theorem dX12_endsPiece_31 : decode cX12_endsPiece 31 = .ok (.iconst 1, 1) := getB' kX12_endsPiece 17 rfl
theorem dX12_endsPiece_32 : decode cX12_endsPiece 32 = .ok (.isub, 1) := getB' kX12_endsPiece 18 rfl
theorem dX12_endsPiece_33 : decode cX12_endsPiece 33 = .ok (.putfield 470, 3) := getB' kX12_endsPiece 19 rfl
theorem dX12_endsPiece_36 : decode cX12_endsPiece 36 = .ok (.goto (-36), 3) := getB' kX12_endsPiece 20 rfl
theorem dX12_endsPiece_39 : decode cX12_endsPiece 39 = .ok (.return_, 1) := getB' kX12_endsPiece 21 rfl
def LX12_lands : List (Nat × Instr × Nat) := [(0, .aload_n 0, 1), (1, .invokevirtual 476, 3), (4, .bipush 11, 2), (6, .if_icmp .eq 16, 3), (9, .iload_n 1, 1), (10, .ifCond .eq 66, 3), (13, .aload_n 0, 1), (14, .invokevirtual 476, 3), (17, .bipush 12, 2), (19, .if_icmp .ne 57, 3), (22, .aload_n 0, 1), (23, .getfield 91, 3), (26, .aload_n 0, 1), (27, .getfield 473, 3), (30, .iconst 1, 1), (31, .isub, 1), (32, .iaload, 1), (33, .ldc_w 469, 3), (36, .irem, 1), (37, .istore_n 2, 1), (38, .aload_n 0, 1), (39, .getfield 88, 3), (42, .iload_n 2, 1), (43, .ldc_w 469, 3), (46, .aload_n 0, 1), (47, .getfield 88, 3), (50, .iload_n 2, 1), (51, .iaload, 1), (52, .ldc_w 469, 3), (55, .idiv, 1), (56, .imul, 1), (57, .aload_n 0, 1), (58, .getfield 466, 3), (61, .iadd, 1), (62, .iastore, 1), (63, .aload_n 0, 1), (64, .aload_n 0, 1), (65, .getfield 473, 3), (68, .iconst 1, 1), (69, .isub, 1), (70, .putfield 473, 3), (73, .goto (-73), 3), (76, .return_, 1)]
theorem kX12_lands : chkB cX12_lands LX12_lands = true := by decide +kernel
theorem dX12_lands_0 : decode cX12_lands 0 = .ok (.aload_n 0, 1) := getB' kX12_lands 0 rfl
theorem dX12_lands_1 : decode cX12_lands 1 = .ok (.invokevirtual 476, 3) := getB' kX12_lands 1 rfl
theorem dX12_lands_4 : decode cX12_lands 4 = .ok (.bipush 11, 2) := getB' kX12_lands 2 rfl
theorem dX12_lands_6 : decode cX12_lands 6 = .ok (.if_icmp .eq 16, 3) := getB' kX12_lands 3 rfl
theorem dX12_lands_9 : decode cX12_lands 9 = .ok (.iload_n 1, 1) := getB' kX12_lands 4 rfl
theorem dX12_lands_10 : decode cX12_lands 10 = .ok (.ifCond .eq 66, 3) := getB' kX12_lands 5 rfl
theorem dX12_lands_13 : decode cX12_lands 13 = .ok (.aload_n 0, 1) := getB' kX12_lands 6 rfl
theorem dX12_lands_14 : decode cX12_lands 14 = .ok (.invokevirtual 476, 3) := getB' kX12_lands 7 rfl
theorem dX12_lands_17 : decode cX12_lands 17 = .ok (.bipush 12, 2) := getB' kX12_lands 8 rfl
theorem dX12_lands_19 : decode cX12_lands 19 = .ok (.if_icmp .ne 57, 3) := getB' kX12_lands 9 rfl
theorem dX12_lands_22 : decode cX12_lands 22 = .ok (.aload_n 0, 1) := getB' kX12_lands 10 rfl
theorem dX12_lands_23 : decode cX12_lands 23 = .ok (.getfield 91, 3) := getB' kX12_lands 11 rfl
theorem dX12_lands_26 : decode cX12_lands 26 = .ok (.aload_n 0, 1) := getB' kX12_lands 12 rfl
theorem dX12_lands_27 : decode cX12_lands 27 = .ok (.getfield 473, 3) := getB' kX12_lands 13 rfl
theorem dX12_lands_30 : decode cX12_lands 30 = .ok (.iconst 1, 1) := getB' kX12_lands 14 rfl
theorem dX12_lands_31 : decode cX12_lands 31 = .ok (.isub, 1) := getB' kX12_lands 15 rfl
theorem dX12_lands_32 : decode cX12_lands 32 = .ok (.iaload, 1) := getB' kX12_lands 16 rfl
theorem dX12_lands_33 : decode cX12_lands 33 = .ok (.ldc_w 469, 3) := getB' kX12_lands 17 rfl
theorem dX12_lands_36 : decode cX12_lands 36 = .ok (.irem, 1) := getB' kX12_lands 18 rfl
theorem dX12_lands_37 : decode cX12_lands 37 = .ok (.istore_n 2, 1) := getB' kX12_lands 19 rfl
theorem dX12_lands_38 : decode cX12_lands 38 = .ok (.aload_n 0, 1) := getB' kX12_lands 20 rfl
theorem dX12_lands_39 : decode cX12_lands 39 = .ok (.getfield 88, 3) := getB' kX12_lands 21 rfl
theorem dX12_lands_42 : decode cX12_lands 42 = .ok (.iload_n 2, 1) := getB' kX12_lands 22 rfl
theorem dX12_lands_43 : decode cX12_lands 43 = .ok (.ldc_w 469, 3) := getB' kX12_lands 23 rfl
theorem dX12_lands_46 : decode cX12_lands 46 = .ok (.aload_n 0, 1) := getB' kX12_lands 24 rfl
theorem dX12_lands_47 : decode cX12_lands 47 = .ok (.getfield 88, 3) := getB' kX12_lands 25 rfl
theorem dX12_lands_50 : decode cX12_lands 50 = .ok (.iload_n 2, 1) := getB' kX12_lands 26 rfl
theorem dX12_lands_51 : decode cX12_lands 51 = .ok (.iaload, 1) := getB' kX12_lands 27 rfl
theorem dX12_lands_52 : decode cX12_lands 52 = .ok (.ldc_w 469, 3) := getB' kX12_lands 28 rfl
theorem dX12_lands_55 : decode cX12_lands 55 = .ok (.idiv, 1) := getB' kX12_lands 29 rfl
theorem dX12_lands_56 : decode cX12_lands 56 = .ok (.imul, 1) := getB' kX12_lands 30 rfl
theorem dX12_lands_57 : decode cX12_lands 57 = .ok (.aload_n 0, 1) := getB' kX12_lands 31 rfl
theorem dX12_lands_58 : decode cX12_lands 58 = .ok (.getfield 466, 3) := getB' kX12_lands 32 rfl
theorem dX12_lands_61 : decode cX12_lands 61 = .ok (.iadd, 1) := getB' kX12_lands 33 rfl
theorem dX12_lands_62 : decode cX12_lands 62 = .ok (.iastore, 1) := getB' kX12_lands 34 rfl
theorem dX12_lands_63 : decode cX12_lands 63 = .ok (.aload_n 0, 1) := getB' kX12_lands 35 rfl
theorem dX12_lands_64 : decode cX12_lands 64 = .ok (.aload_n 0, 1) := getB' kX12_lands 36 rfl
theorem dX12_lands_65 : decode cX12_lands 65 = .ok (.getfield 473, 3) := getB' kX12_lands 37 rfl
theorem dX12_lands_68 : decode cX12_lands 68 = .ok (.iconst 1, 1) := getB' kX12_lands 38 rfl
theorem dX12_lands_69 : decode cX12_lands 69 = .ok (.isub, 1) := getB' kX12_lands 39 rfl
theorem dX12_lands_70 : decode cX12_lands 70 = .ok (.putfield 473, 3) := getB' kX12_lands 40 rfl
theorem dX12_lands_73 : decode cX12_lands 73 = .ok (.goto (-73), 3) := getB' kX12_lands 41 rfl
theorem dX12_lands_76 : decode cX12_lands 76 = .ok (.return_, 1) := getB' kX12_lands 42 rfl
def LX12_jumps : List (Nat × Instr × Nat) := [(0, .aload_n 0, 1), (1, .getfield 91, 3), (4, .aload_n 0, 1), (5, .getfield 473, 3), (8, .ldc_w 469, 3), (11, .iload_n 1, 1), (12, .imul, 1), (13, .aload_n 0, 1), (14, .getfield 466, 3), (17, .iadd, 1), (18, .iastore, 1), (19, .aload_n 0, 1), (20, .aload_n 0, 1), (21, .getfield 473, 3), (24, .iconst 1, 1), (25, .iadd, 1), (26, .putfield 473, 3), (29, .aload_n 0, 1), (30, .iload_n 1, 1), (31, .iconst 0, 1), (32, .invokevirtual 479, 3), (35, .aload_n 0, 1), (36, .aload_n 0, 1), (37, .getfield 443, 3), (40, .iconst 1, 1), (41, .iadd, 1), (42, .putfield 443, 3), (45, .return_, 1)]
theorem kX12_jumps : chkB cX12_jumps LX12_jumps = true := by decide +kernel
theorem dX12_jumps_0 : decode cX12_jumps 0 = .ok (.aload_n 0, 1) := getB' kX12_jumps 0 rfl
theorem dX12_jumps_1 : decode cX12_jumps 1 = .ok (.getfield 91, 3) := getB' kX12_jumps 1 rfl
theorem dX12_jumps_4 : decode cX12_jumps 4 = .ok (.aload_n 0, 1) := getB' kX12_jumps 2 rfl
theorem dX12_jumps_5 : decode cX12_jumps 5 = .ok (.getfield 473, 3) := getB' kX12_jumps 3 rfl
theorem dX12_jumps_8 : decode cX12_jumps 8 = .ok (.ldc_w 469, 3) := getB' kX12_jumps 4 rfl
theorem dX12_jumps_11 : decode cX12_jumps 11 = .ok (.iload_n 1, 1) := getB' kX12_jumps 5 rfl
theorem dX12_jumps_12 : decode cX12_jumps 12 = .ok (.imul, 1) := getB' kX12_jumps 6 rfl
theorem dX12_jumps_13 : decode cX12_jumps 13 = .ok (.aload_n 0, 1) := getB' kX12_jumps 7 rfl
theorem dX12_jumps_14 : decode cX12_jumps 14 = .ok (.getfield 466, 3) := getB' kX12_jumps 8 rfl
theorem dX12_jumps_17 : decode cX12_jumps 17 = .ok (.iadd, 1) := getB' kX12_jumps 9 rfl
theorem dX12_jumps_18 : decode cX12_jumps 18 = .ok (.iastore, 1) := getB' kX12_jumps 10 rfl
theorem dX12_jumps_19 : decode cX12_jumps 19 = .ok (.aload_n 0, 1) := getB' kX12_jumps 11 rfl
theorem dX12_jumps_20 : decode cX12_jumps 20 = .ok (.aload_n 0, 1) := getB' kX12_jumps 12 rfl
theorem dX12_jumps_21 : decode cX12_jumps 21 = .ok (.getfield 473, 3) := getB' kX12_jumps 13 rfl
theorem dX12_jumps_24 : decode cX12_jumps 24 = .ok (.iconst 1, 1) := getB' kX12_jumps 14 rfl
theorem dX12_jumps_25 : decode cX12_jumps 25 = .ok (.iadd, 1) := getB' kX12_jumps 15 rfl
theorem dX12_jumps_26 : decode cX12_jumps 26 = .ok (.putfield 473, 3) := getB' kX12_jumps 16 rfl
theorem dX12_jumps_29 : decode cX12_jumps 29 = .ok (.aload_n 0, 1) := getB' kX12_jumps 17 rfl
theorem dX12_jumps_30 : decode cX12_jumps 30 = .ok (.iload_n 1, 1) := getB' kX12_jumps 18 rfl
theorem dX12_jumps_31 : decode cX12_jumps 31 = .ok (.iconst 0, 1) := getB' kX12_jumps 19 rfl
theorem dX12_jumps_32 : decode cX12_jumps 32 = .ok (.invokevirtual 479, 3) := getB' kX12_jumps 20 rfl
theorem dX12_jumps_35 : decode cX12_jumps 35 = .ok (.aload_n 0, 1) := getB' kX12_jumps 21 rfl
theorem dX12_jumps_36 : decode cX12_jumps 36 = .ok (.aload_n 0, 1) := getB' kX12_jumps 22 rfl
theorem dX12_jumps_37 : decode cX12_jumps 37 = .ok (.getfield 443, 3) := getB' kX12_jumps 23 rfl
theorem dX12_jumps_40 : decode cX12_jumps 40 = .ok (.iconst 1, 1) := getB' kX12_jumps 24 rfl
theorem dX12_jumps_41 : decode cX12_jumps 41 = .ok (.iadd, 1) := getB' kX12_jumps 25 rfl
theorem dX12_jumps_42 : decode cX12_jumps 42 = .ok (.putfield 443, 3) := getB' kX12_jumps 26 rfl
theorem dX12_jumps_45 : decode cX12_jumps 45 = .ok (.return_, 1) := getB' kX12_jumps 27 rfl
def LX12_readsCompared : List (Nat × Instr × Nat) := [(0, .aload_n 0, 1), (1, .invokevirtual 505, 3), (4, .ifCond .ne 5, 3), (7, .iconst 0, 1), (8, .ireturn, 1), (9, .aload_n 0, 1), (10, .invokevirtual 449, 3), (13, .bipush 60, 2), (15, .if_icmp .ne 8, 3), (18, .bipush 7, 2), (20, .goto 32, 3), (23, .aload_n 0, 1), (24, .invokevirtual 449, 3), (27, .bipush 62, 2), (29, .if_icmp .ne 8, 3), (32, .bipush 8, 2), (34, .goto 18, 3), (37, .aload_n 0, 1), (38, .invokevirtual 449, 3), (41, .bipush 61, 2), (43, .if_icmp .ne 8, 3), (46, .bipush 9, 2), (48, .goto 4, 3), (51, .iconst (-1), 1), (52, .istore_n 1, 1), (53, .iload_n 1, 1), (54, .iconst (-1), 1), (55, .if_icmp .ne 13, 3), (58, .aload_n 0, 1), (59, .iconst 1, 1), (60, .aload_n 0, 1), (61, .getfield 443, 3), (64, .invokevirtual 456, 3), (67, .ireturn, 1), (68, .aload_n 0, 1), (69, .aload_n 0, 1), (70, .getfield 443, 3), (73, .iconst 1, 1), (74, .iadd, 1), (75, .putfield 443, 3), (78, .aload_n 0, 1), (79, .invokevirtual 505, 3), (82, .ifCond .ne 5, 3), (85, .iconst 0, 1), (86, .ireturn, 1), (87, .aload_n 0, 1), (88, .iload_n 1, 1), (89, .iconst 0, 1), (90, .invokevirtual 479, 3), (93, .aload_n 0, 1), (94, .invokevirtual 508, 3), (97, .iconst 1, 1), (98, .ireturn, 1)]
theorem kX12_readsCompared : chkB cX12_readsCompared LX12_readsCompared = true := by decide +kernel
theorem dX12_readsCompared_0 : decode cX12_readsCompared 0 = .ok (.aload_n 0, 1) := getB' kX12_readsCompared 0 rfl
theorem dX12_readsCompared_1 : decode cX12_readsCompared 1 = .ok (.invokevirtual 505, 3) := getB' kX12_readsCompared 1 rfl
theorem dX12_readsCompared_4 : decode cX12_readsCompared 4 = .ok (.ifCond .ne 5, 3) := getB' kX12_readsCompared 2 rfl
theorem dX12_readsCompared_7 : decode cX12_readsCompared 7 = .ok (.iconst 0, 1) := getB' kX12_readsCompared 3 rfl
theorem dX12_readsCompared_8 : decode cX12_readsCompared 8 = .ok (.ireturn, 1) := getB' kX12_readsCompared 4 rfl
theorem dX12_readsCompared_9 : decode cX12_readsCompared 9 = .ok (.aload_n 0, 1) := getB' kX12_readsCompared 5 rfl
theorem dX12_readsCompared_10 : decode cX12_readsCompared 10 = .ok (.invokevirtual 449, 3) := getB' kX12_readsCompared 6 rfl
theorem dX12_readsCompared_13 : decode cX12_readsCompared 13 = .ok (.bipush 60, 2) := getB' kX12_readsCompared 7 rfl
theorem dX12_readsCompared_15 : decode cX12_readsCompared 15 = .ok (.if_icmp .ne 8, 3) := getB' kX12_readsCompared 8 rfl
theorem dX12_readsCompared_18 : decode cX12_readsCompared 18 = .ok (.bipush 7, 2) := getB' kX12_readsCompared 9 rfl
theorem dX12_readsCompared_20 : decode cX12_readsCompared 20 = .ok (.goto 32, 3) := getB' kX12_readsCompared 10 rfl
theorem dX12_readsCompared_23 : decode cX12_readsCompared 23 = .ok (.aload_n 0, 1) := getB' kX12_readsCompared 11 rfl
theorem dX12_readsCompared_24 : decode cX12_readsCompared 24 = .ok (.invokevirtual 449, 3) := getB' kX12_readsCompared 12 rfl
theorem dX12_readsCompared_27 : decode cX12_readsCompared 27 = .ok (.bipush 62, 2) := getB' kX12_readsCompared 13 rfl
theorem dX12_readsCompared_29 : decode cX12_readsCompared 29 = .ok (.if_icmp .ne 8, 3) := getB' kX12_readsCompared 14 rfl
theorem dX12_readsCompared_32 : decode cX12_readsCompared 32 = .ok (.bipush 8, 2) := getB' kX12_readsCompared 15 rfl
theorem dX12_readsCompared_34 : decode cX12_readsCompared 34 = .ok (.goto 18, 3) := getB' kX12_readsCompared 16 rfl
theorem dX12_readsCompared_37 : decode cX12_readsCompared 37 = .ok (.aload_n 0, 1) := getB' kX12_readsCompared 17 rfl
theorem dX12_readsCompared_38 : decode cX12_readsCompared 38 = .ok (.invokevirtual 449, 3) := getB' kX12_readsCompared 18 rfl
theorem dX12_readsCompared_41 : decode cX12_readsCompared 41 = .ok (.bipush 61, 2) := getB' kX12_readsCompared 19 rfl
theorem dX12_readsCompared_43 : decode cX12_readsCompared 43 = .ok (.if_icmp .ne 8, 3) := getB' kX12_readsCompared 20 rfl
theorem dX12_readsCompared_46 : decode cX12_readsCompared 46 = .ok (.bipush 9, 2) := getB' kX12_readsCompared 21 rfl
theorem dX12_readsCompared_48 : decode cX12_readsCompared 48 = .ok (.goto 4, 3) := getB' kX12_readsCompared 22 rfl
theorem dX12_readsCompared_51 : decode cX12_readsCompared 51 = .ok (.iconst (-1), 1) := getB' kX12_readsCompared 23 rfl
theorem dX12_readsCompared_52 : decode cX12_readsCompared 52 = .ok (.istore_n 1, 1) := getB' kX12_readsCompared 24 rfl
theorem dX12_readsCompared_53 : decode cX12_readsCompared 53 = .ok (.iload_n 1, 1) := getB' kX12_readsCompared 25 rfl
theorem dX12_readsCompared_54 : decode cX12_readsCompared 54 = .ok (.iconst (-1), 1) := getB' kX12_readsCompared 26 rfl
theorem dX12_readsCompared_55 : decode cX12_readsCompared 55 = .ok (.if_icmp .ne 13, 3) := getB' kX12_readsCompared 27 rfl
theorem dX12_readsCompared_58 : decode cX12_readsCompared 58 = .ok (.aload_n 0, 1) := getB' kX12_readsCompared 28 rfl
theorem dX12_readsCompared_59 : decode cX12_readsCompared 59 = .ok (.iconst 1, 1) := getB' kX12_readsCompared 29 rfl
theorem dX12_readsCompared_60 : decode cX12_readsCompared 60 = .ok (.aload_n 0, 1) := getB' kX12_readsCompared 30 rfl
theorem dX12_readsCompared_61 : decode cX12_readsCompared 61 = .ok (.getfield 443, 3) := getB' kX12_readsCompared 31 rfl
theorem dX12_readsCompared_64 : decode cX12_readsCompared 64 = .ok (.invokevirtual 456, 3) := getB' kX12_readsCompared 32 rfl
theorem dX12_readsCompared_67 : decode cX12_readsCompared 67 = .ok (.ireturn, 1) := getB' kX12_readsCompared 33 rfl
theorem dX12_readsCompared_68 : decode cX12_readsCompared 68 = .ok (.aload_n 0, 1) := getB' kX12_readsCompared 34 rfl
theorem dX12_readsCompared_69 : decode cX12_readsCompared 69 = .ok (.aload_n 0, 1) := getB' kX12_readsCompared 35 rfl
theorem dX12_readsCompared_70 : decode cX12_readsCompared 70 = .ok (.getfield 443, 3) := getB' kX12_readsCompared 36 rfl
theorem dX12_readsCompared_73 : decode cX12_readsCompared 73 = .ok (.iconst 1, 1) := getB' kX12_readsCompared 37 rfl
theorem dX12_readsCompared_74 : decode cX12_readsCompared 74 = .ok (.iadd, 1) := getB' kX12_readsCompared 38 rfl
theorem dX12_readsCompared_75 : decode cX12_readsCompared 75 = .ok (.putfield 443, 3) := getB' kX12_readsCompared 39 rfl
theorem dX12_readsCompared_78 : decode cX12_readsCompared 78 = .ok (.aload_n 0, 1) := getB' kX12_readsCompared 40 rfl
theorem dX12_readsCompared_79 : decode cX12_readsCompared 79 = .ok (.invokevirtual 505, 3) := getB' kX12_readsCompared 41 rfl
theorem dX12_readsCompared_82 : decode cX12_readsCompared 82 = .ok (.ifCond .ne 5, 3) := getB' kX12_readsCompared 42 rfl
theorem dX12_readsCompared_85 : decode cX12_readsCompared 85 = .ok (.iconst 0, 1) := getB' kX12_readsCompared 43 rfl
theorem dX12_readsCompared_86 : decode cX12_readsCompared 86 = .ok (.ireturn, 1) := getB' kX12_readsCompared 44 rfl
theorem dX12_readsCompared_87 : decode cX12_readsCompared 87 = .ok (.aload_n 0, 1) := getB' kX12_readsCompared 45 rfl
theorem dX12_readsCompared_88 : decode cX12_readsCompared 88 = .ok (.iload_n 1, 1) := getB' kX12_readsCompared 46 rfl
theorem dX12_readsCompared_89 : decode cX12_readsCompared 89 = .ok (.iconst 0, 1) := getB' kX12_readsCompared 47 rfl
theorem dX12_readsCompared_90 : decode cX12_readsCompared 90 = .ok (.invokevirtual 479, 3) := getB' kX12_readsCompared 48 rfl
theorem dX12_readsCompared_93 : decode cX12_readsCompared 93 = .ok (.aload_n 0, 1) := getB' kX12_readsCompared 49 rfl
theorem dX12_readsCompared_94 : decode cX12_readsCompared 94 = .ok (.invokevirtual 508, 3) := getB' kX12_readsCompared 50 rfl
theorem dX12_readsCompared_97 : decode cX12_readsCompared 97 = .ok (.iconst 1, 1) := getB' kX12_readsCompared 51 rfl
theorem dX12_readsCompared_98 : decode cX12_readsCompared 98 = .ok (.ireturn, 1) := getB' kX12_readsCompared 52 rfl
def LX12_readsCondition : List (Nat × Instr × Nat) := [(0, .aload_n 0, 1), (1, .iconst 0, 1), (2, .putfield 470, 3), (5, .aload_n 0, 1), (6, .iconst 0, 1), (7, .putfield 473, 3), (10, .aload_n 0, 1), (11, .invokevirtual 449, 3), (14, .bipush 40, 2), (16, .if_icmp .eq 13, 3), (19, .aload_n 0, 1), (20, .iconst 1, 1), (21, .aload_n 0, 1), (22, .getfield 443, 3), (25, .invokevirtual 456, 3), (28, .ireturn, 1), (29, .aload_n 0, 1), (30, .bipush 13, 2), (32, .invokevirtual 482, 3), (35, .ifCond .ne 5, 3), (38, .iconst 0, 1), (39, .ireturn, 1), (40, .aload_n 0, 1), (41, .invokevirtual 449, 3), (44, .bipush 33, 2), (46, .if_icmp .eq 12, 3), (49, .aload_n 0, 1), (50, .invokevirtual 449, 3), (53, .bipush 40, 2), (55, .if_icmp .ne 28, 3), (58, .aload_n 0, 1), (59, .aload_n 0, 1), (60, .invokevirtual 449, 3), (63, .bipush 33, 2), (65, .if_icmp .ne 8, 3), (68, .bipush 10, 2), (70, .goto 5, 3), (73, .bipush 13, 2), (75, .invokevirtual 482, 3), (78, .ifCond .ne (-38), 3), (81, .iconst 0, 1), (82, .ireturn, 1), (83, .aload_n 0, 1), (84, .invokevirtual 511, 3), (87, .ifCond .ne 5, 3), (90, .iconst 0, 1), (91, .ireturn, 1), (92, .aload_n 0, 1), (93, .invokevirtual 449, 3), (96, .bipush 41, 2), (98, .if_icmp .ne 54, 3), (101, .aload_n 0, 1), (102, .iconst 1, 1), (103, .invokevirtual 514, 3), (106, .aload_n 0, 1), (107, .aload_n 0, 1), (108, .getfield 473, 3), (111, .iconst 1, 1), (112, .isub, 1), (113, .putfield 473, 3), (116, .aload_n 0, 1), (117, .aload_n 0, 1), (118, .getfield 470, 3), (121, .iconst 1, 1), (122, .isub, 1), (123, .putfield 470, 3), (126, .aload_n 0, 1), (127, .aload_n 0, 1), (128, .getfield 443, 3), (131, .iconst 1, 1), (132, .iadd, 1), (133, .putfield 443, 3), (136, .aload_n 0, 1), (137, .getfield 473, 3), (140, .ifCond .ne 5, 3), (143, .iconst 1, 1), (144, .ireturn, 1), (145, .aload_n 0, 1), (146, .invokevirtual 508, 3), (149, .goto (-57), 3), (152, .aload_n 0, 1), (153, .invokevirtual 449, 3), (156, .bipush 38, 2), (158, .if_icmp .eq 22, 3), (161, .aload_n 0, 1), (162, .invokevirtual 449, 3), (165, .bipush 124, 2), (167, .if_icmp .eq 13, 3), (170, .aload_n 0, 1), (171, .iconst 1, 1), (172, .aload_n 0, 1), (173, .getfield 443, 3), (176, .invokevirtual 456, 3), (179, .ireturn, 1), (180, .aload_n 0, 1), (181, .aload_n 0, 1), (182, .invokevirtual 449, 3), (185, .bipush 124, 2), (187, .if_icmp .ne 7, 3), (190, .iconst 1, 1), (191, .goto 4, 3), (194, .iconst 0, 1), (195, .invokevirtual 514, 3), (198, .aload_n 0, 1), (199, .aload_n 0, 1), (200, .invokevirtual 449, 3), (203, .bipush 38, 2), (205, .if_icmp .ne 8, 3), (208, .bipush 11, 2), (210, .goto 5, 3), (213, .bipush 12, 2), (215, .invokevirtual 517, 3), (218, .goto (-178), 3)]
theorem kX12_readsCondition : chkB cX12_readsCondition LX12_readsCondition = true := by decide +kernel
theorem dX12_readsCondition_0 : decode cX12_readsCondition 0 = .ok (.aload_n 0, 1) := getB' kX12_readsCondition 0 rfl
theorem dX12_readsCondition_1 : decode cX12_readsCondition 1 = .ok (.iconst 0, 1) := getB' kX12_readsCondition 1 rfl
theorem dX12_readsCondition_2 : decode cX12_readsCondition 2 = .ok (.putfield 470, 3) := getB' kX12_readsCondition 2 rfl
theorem dX12_readsCondition_5 : decode cX12_readsCondition 5 = .ok (.aload_n 0, 1) := getB' kX12_readsCondition 3 rfl
theorem dX12_readsCondition_6 : decode cX12_readsCondition 6 = .ok (.iconst 0, 1) := getB' kX12_readsCondition 4 rfl
theorem dX12_readsCondition_7 : decode cX12_readsCondition 7 = .ok (.putfield 473, 3) := getB' kX12_readsCondition 5 rfl
theorem dX12_readsCondition_10 : decode cX12_readsCondition 10 = .ok (.aload_n 0, 1) := getB' kX12_readsCondition 6 rfl
theorem dX12_readsCondition_11 : decode cX12_readsCondition 11 = .ok (.invokevirtual 449, 3) := getB' kX12_readsCondition 7 rfl
theorem dX12_readsCondition_14 : decode cX12_readsCondition 14 = .ok (.bipush 40, 2) := getB' kX12_readsCondition 8 rfl
theorem dX12_readsCondition_16 : decode cX12_readsCondition 16 = .ok (.if_icmp .eq 13, 3) := getB' kX12_readsCondition 9 rfl
theorem dX12_readsCondition_19 : decode cX12_readsCondition 19 = .ok (.aload_n 0, 1) := getB' kX12_readsCondition 10 rfl
theorem dX12_readsCondition_20 : decode cX12_readsCondition 20 = .ok (.iconst 1, 1) := getB' kX12_readsCondition 11 rfl
theorem dX12_readsCondition_21 : decode cX12_readsCondition 21 = .ok (.aload_n 0, 1) := getB' kX12_readsCondition 12 rfl
theorem dX12_readsCondition_22 : decode cX12_readsCondition 22 = .ok (.getfield 443, 3) := getB' kX12_readsCondition 13 rfl
theorem dX12_readsCondition_25 : decode cX12_readsCondition 25 = .ok (.invokevirtual 456, 3) := getB' kX12_readsCondition 14 rfl
theorem dX12_readsCondition_28 : decode cX12_readsCondition 28 = .ok (.ireturn, 1) := getB' kX12_readsCondition 15 rfl
theorem dX12_readsCondition_29 : decode cX12_readsCondition 29 = .ok (.aload_n 0, 1) := getB' kX12_readsCondition 16 rfl
theorem dX12_readsCondition_30 : decode cX12_readsCondition 30 = .ok (.bipush 13, 2) := getB' kX12_readsCondition 17 rfl
theorem dX12_readsCondition_32 : decode cX12_readsCondition 32 = .ok (.invokevirtual 482, 3) := getB' kX12_readsCondition 18 rfl
theorem dX12_readsCondition_35 : decode cX12_readsCondition 35 = .ok (.ifCond .ne 5, 3) := getB' kX12_readsCondition 19 rfl
theorem dX12_readsCondition_38 : decode cX12_readsCondition 38 = .ok (.iconst 0, 1) := getB' kX12_readsCondition 20 rfl
theorem dX12_readsCondition_39 : decode cX12_readsCondition 39 = .ok (.ireturn, 1) := getB' kX12_readsCondition 21 rfl
theorem dX12_readsCondition_40 : decode cX12_readsCondition 40 = .ok (.aload_n 0, 1) := getB' kX12_readsCondition 22 rfl
theorem dX12_readsCondition_41 : decode cX12_readsCondition 41 = .ok (.invokevirtual 449, 3) := getB' kX12_readsCondition 23 rfl
theorem dX12_readsCondition_44 : decode cX12_readsCondition 44 = .ok (.bipush 33, 2) := getB' kX12_readsCondition 24 rfl
theorem dX12_readsCondition_46 : decode cX12_readsCondition 46 = .ok (.if_icmp .eq 12, 3) := getB' kX12_readsCondition 25 rfl
theorem dX12_readsCondition_49 : decode cX12_readsCondition 49 = .ok (.aload_n 0, 1) := getB' kX12_readsCondition 26 rfl
theorem dX12_readsCondition_50 : decode cX12_readsCondition 50 = .ok (.invokevirtual 449, 3) := getB' kX12_readsCondition 27 rfl
theorem dX12_readsCondition_53 : decode cX12_readsCondition 53 = .ok (.bipush 40, 2) := getB' kX12_readsCondition 28 rfl
theorem dX12_readsCondition_55 : decode cX12_readsCondition 55 = .ok (.if_icmp .ne 28, 3) := getB' kX12_readsCondition 29 rfl
theorem dX12_readsCondition_58 : decode cX12_readsCondition 58 = .ok (.aload_n 0, 1) := getB' kX12_readsCondition 30 rfl
theorem dX12_readsCondition_59 : decode cX12_readsCondition 59 = .ok (.aload_n 0, 1) := getB' kX12_readsCondition 31 rfl
theorem dX12_readsCondition_60 : decode cX12_readsCondition 60 = .ok (.invokevirtual 449, 3) := getB' kX12_readsCondition 32 rfl
theorem dX12_readsCondition_63 : decode cX12_readsCondition 63 = .ok (.bipush 33, 2) := getB' kX12_readsCondition 33 rfl
theorem dX12_readsCondition_65 : decode cX12_readsCondition 65 = .ok (.if_icmp .ne 8, 3) := getB' kX12_readsCondition 34 rfl
theorem dX12_readsCondition_68 : decode cX12_readsCondition 68 = .ok (.bipush 10, 2) := getB' kX12_readsCondition 35 rfl
theorem dX12_readsCondition_70 : decode cX12_readsCondition 70 = .ok (.goto 5, 3) := getB' kX12_readsCondition 36 rfl
theorem dX12_readsCondition_73 : decode cX12_readsCondition 73 = .ok (.bipush 13, 2) := getB' kX12_readsCondition 37 rfl
theorem dX12_readsCondition_75 : decode cX12_readsCondition 75 = .ok (.invokevirtual 482, 3) := getB' kX12_readsCondition 38 rfl
theorem dX12_readsCondition_78 : decode cX12_readsCondition 78 = .ok (.ifCond .ne (-38), 3) := getB' kX12_readsCondition 39 rfl
theorem dX12_readsCondition_81 : decode cX12_readsCondition 81 = .ok (.iconst 0, 1) := getB' kX12_readsCondition 40 rfl
theorem dX12_readsCondition_82 : decode cX12_readsCondition 82 = .ok (.ireturn, 1) := getB' kX12_readsCondition 41 rfl
theorem dX12_readsCondition_83 : decode cX12_readsCondition 83 = .ok (.aload_n 0, 1) := getB' kX12_readsCondition 42 rfl
theorem dX12_readsCondition_84 : decode cX12_readsCondition 84 = .ok (.invokevirtual 511, 3) := getB' kX12_readsCondition 43 rfl
theorem dX12_readsCondition_87 : decode cX12_readsCondition 87 = .ok (.ifCond .ne 5, 3) := getB' kX12_readsCondition 44 rfl
theorem dX12_readsCondition_90 : decode cX12_readsCondition 90 = .ok (.iconst 0, 1) := getB' kX12_readsCondition 45 rfl
theorem dX12_readsCondition_91 : decode cX12_readsCondition 91 = .ok (.ireturn, 1) := getB' kX12_readsCondition 46 rfl
theorem dX12_readsCondition_92 : decode cX12_readsCondition 92 = .ok (.aload_n 0, 1) := getB' kX12_readsCondition 47 rfl
theorem dX12_readsCondition_93 : decode cX12_readsCondition 93 = .ok (.invokevirtual 449, 3) := getB' kX12_readsCondition 48 rfl
theorem dX12_readsCondition_96 : decode cX12_readsCondition 96 = .ok (.bipush 41, 2) := getB' kX12_readsCondition 49 rfl
theorem dX12_readsCondition_98 : decode cX12_readsCondition 98 = .ok (.if_icmp .ne 54, 3) := getB' kX12_readsCondition 50 rfl
theorem dX12_readsCondition_101 : decode cX12_readsCondition 101 = .ok (.aload_n 0, 1) := getB' kX12_readsCondition 51 rfl
theorem dX12_readsCondition_102 : decode cX12_readsCondition 102 = .ok (.iconst 1, 1) := getB' kX12_readsCondition 52 rfl
theorem dX12_readsCondition_103 : decode cX12_readsCondition 103 = .ok (.invokevirtual 514, 3) := getB' kX12_readsCondition 53 rfl
theorem dX12_readsCondition_106 : decode cX12_readsCondition 106 = .ok (.aload_n 0, 1) := getB' kX12_readsCondition 54 rfl
theorem dX12_readsCondition_107 : decode cX12_readsCondition 107 = .ok (.aload_n 0, 1) := getB' kX12_readsCondition 55 rfl
theorem dX12_readsCondition_108 : decode cX12_readsCondition 108 = .ok (.getfield 473, 3) := getB' kX12_readsCondition 56 rfl
theorem dX12_readsCondition_111 : decode cX12_readsCondition 111 = .ok (.iconst 1, 1) := getB' kX12_readsCondition 57 rfl
theorem dX12_readsCondition_112 : decode cX12_readsCondition 112 = .ok (.isub, 1) := getB' kX12_readsCondition 58 rfl
theorem dX12_readsCondition_113 : decode cX12_readsCondition 113 = .ok (.putfield 473, 3) := getB' kX12_readsCondition 59 rfl
theorem dX12_readsCondition_116 : decode cX12_readsCondition 116 = .ok (.aload_n 0, 1) := getB' kX12_readsCondition 60 rfl
theorem dX12_readsCondition_117 : decode cX12_readsCondition 117 = .ok (.aload_n 0, 1) := getB' kX12_readsCondition 61 rfl
theorem dX12_readsCondition_118 : decode cX12_readsCondition 118 = .ok (.getfield 470, 3) := getB' kX12_readsCondition 62 rfl
theorem dX12_readsCondition_121 : decode cX12_readsCondition 121 = .ok (.iconst 1, 1) := getB' kX12_readsCondition 63 rfl
theorem dX12_readsCondition_122 : decode cX12_readsCondition 122 = .ok (.isub, 1) := getB' kX12_readsCondition 64 rfl
theorem dX12_readsCondition_123 : decode cX12_readsCondition 123 = .ok (.putfield 470, 3) := getB' kX12_readsCondition 65 rfl
theorem dX12_readsCondition_126 : decode cX12_readsCondition 126 = .ok (.aload_n 0, 1) := getB' kX12_readsCondition 66 rfl
theorem dX12_readsCondition_127 : decode cX12_readsCondition 127 = .ok (.aload_n 0, 1) := getB' kX12_readsCondition 67 rfl
theorem dX12_readsCondition_128 : decode cX12_readsCondition 128 = .ok (.getfield 443, 3) := getB' kX12_readsCondition 68 rfl
theorem dX12_readsCondition_131 : decode cX12_readsCondition 131 = .ok (.iconst 1, 1) := getB' kX12_readsCondition 69 rfl
theorem dX12_readsCondition_132 : decode cX12_readsCondition 132 = .ok (.iadd, 1) := getB' kX12_readsCondition 70 rfl
theorem dX12_readsCondition_133 : decode cX12_readsCondition 133 = .ok (.putfield 443, 3) := getB' kX12_readsCondition 71 rfl
theorem dX12_readsCondition_136 : decode cX12_readsCondition 136 = .ok (.aload_n 0, 1) := getB' kX12_readsCondition 72 rfl
theorem dX12_readsCondition_137 : decode cX12_readsCondition 137 = .ok (.getfield 473, 3) := getB' kX12_readsCondition 73 rfl
theorem dX12_readsCondition_140 : decode cX12_readsCondition 140 = .ok (.ifCond .ne 5, 3) := getB' kX12_readsCondition 74 rfl
theorem dX12_readsCondition_143 : decode cX12_readsCondition 143 = .ok (.iconst 1, 1) := getB' kX12_readsCondition 75 rfl
theorem dX12_readsCondition_144 : decode cX12_readsCondition 144 = .ok (.ireturn, 1) := getB' kX12_readsCondition 76 rfl
theorem dX12_readsCondition_145 : decode cX12_readsCondition 145 = .ok (.aload_n 0, 1) := getB' kX12_readsCondition 77 rfl
theorem dX12_readsCondition_146 : decode cX12_readsCondition 146 = .ok (.invokevirtual 508, 3) := getB' kX12_readsCondition 78 rfl
theorem dX12_readsCondition_149 : decode cX12_readsCondition 149 = .ok (.goto (-57), 3) := getB' kX12_readsCondition 79 rfl
theorem dX12_readsCondition_152 : decode cX12_readsCondition 152 = .ok (.aload_n 0, 1) := getB' kX12_readsCondition 80 rfl
theorem dX12_readsCondition_153 : decode cX12_readsCondition 153 = .ok (.invokevirtual 449, 3) := getB' kX12_readsCondition 81 rfl
theorem dX12_readsCondition_156 : decode cX12_readsCondition 156 = .ok (.bipush 38, 2) := getB' kX12_readsCondition 82 rfl
theorem dX12_readsCondition_158 : decode cX12_readsCondition 158 = .ok (.if_icmp .eq 22, 3) := getB' kX12_readsCondition 83 rfl
theorem dX12_readsCondition_161 : decode cX12_readsCondition 161 = .ok (.aload_n 0, 1) := getB' kX12_readsCondition 84 rfl
theorem dX12_readsCondition_162 : decode cX12_readsCondition 162 = .ok (.invokevirtual 449, 3) := getB' kX12_readsCondition 85 rfl
theorem dX12_readsCondition_165 : decode cX12_readsCondition 165 = .ok (.bipush 124, 2) := getB' kX12_readsCondition 86 rfl
theorem dX12_readsCondition_167 : decode cX12_readsCondition 167 = .ok (.if_icmp .eq 13, 3) := getB' kX12_readsCondition 87 rfl
theorem dX12_readsCondition_170 : decode cX12_readsCondition 170 = .ok (.aload_n 0, 1) := getB' kX12_readsCondition 88 rfl
theorem dX12_readsCondition_171 : decode cX12_readsCondition 171 = .ok (.iconst 1, 1) := getB' kX12_readsCondition 89 rfl
theorem dX12_readsCondition_172 : decode cX12_readsCondition 172 = .ok (.aload_n 0, 1) := getB' kX12_readsCondition 90 rfl
theorem dX12_readsCondition_173 : decode cX12_readsCondition 173 = .ok (.getfield 443, 3) := getB' kX12_readsCondition 91 rfl
theorem dX12_readsCondition_176 : decode cX12_readsCondition 176 = .ok (.invokevirtual 456, 3) := getB' kX12_readsCondition 92 rfl
theorem dX12_readsCondition_179 : decode cX12_readsCondition 179 = .ok (.ireturn, 1) := getB' kX12_readsCondition 93 rfl
theorem dX12_readsCondition_180 : decode cX12_readsCondition 180 = .ok (.aload_n 0, 1) := getB' kX12_readsCondition 94 rfl
theorem dX12_readsCondition_181 : decode cX12_readsCondition 181 = .ok (.aload_n 0, 1) := getB' kX12_readsCondition 95 rfl
theorem dX12_readsCondition_182 : decode cX12_readsCondition 182 = .ok (.invokevirtual 449, 3) := getB' kX12_readsCondition 96 rfl
theorem dX12_readsCondition_185 : decode cX12_readsCondition 185 = .ok (.bipush 124, 2) := getB' kX12_readsCondition 97 rfl
theorem dX12_readsCondition_187 : decode cX12_readsCondition 187 = .ok (.if_icmp .ne 7, 3) := getB' kX12_readsCondition 98 rfl
theorem dX12_readsCondition_190 : decode cX12_readsCondition 190 = .ok (.iconst 1, 1) := getB' kX12_readsCondition 99 rfl
theorem dX12_readsCondition_191 : decode cX12_readsCondition 191 = .ok (.goto 4, 3) := getB' kX12_readsCondition 100 rfl
theorem dX12_readsCondition_194 : decode cX12_readsCondition 194 = .ok (.iconst 0, 1) := getB' kX12_readsCondition 101 rfl
theorem dX12_readsCondition_195 : decode cX12_readsCondition 195 = .ok (.invokevirtual 514, 3) := getB' kX12_readsCondition 102 rfl
theorem dX12_readsCondition_198 : decode cX12_readsCondition 198 = .ok (.aload_n 0, 1) := getB' kX12_readsCondition 103 rfl
theorem dX12_readsCondition_199 : decode cX12_readsCondition 199 = .ok (.aload_n 0, 1) := getB' kX12_readsCondition 104 rfl
theorem dX12_readsCondition_200 : decode cX12_readsCondition 200 = .ok (.invokevirtual 449, 3) := getB' kX12_readsCondition 105 rfl
theorem dX12_readsCondition_203 : decode cX12_readsCondition 203 = .ok (.bipush 38, 2) := getB' kX12_readsCondition 106 rfl
theorem dX12_readsCondition_205 : decode cX12_readsCondition 205 = .ok (.if_icmp .ne 8, 3) := getB' kX12_readsCondition 107 rfl
theorem dX12_readsCondition_208 : decode cX12_readsCondition 208 = .ok (.bipush 11, 2) := getB' kX12_readsCondition 108 rfl
theorem dX12_readsCondition_210 : decode cX12_readsCondition 210 = .ok (.goto 5, 3) := getB' kX12_readsCondition 109 rfl
theorem dX12_readsCondition_213 : decode cX12_readsCondition 213 = .ok (.bipush 12, 2) := getB' kX12_readsCondition 110 rfl
theorem dX12_readsCondition_215 : decode cX12_readsCondition 215 = .ok (.invokevirtual 517, 3) := getB' kX12_readsCondition 111 rfl
theorem dX12_readsCondition_218 : decode cX12_readsCondition 218 = .ok (.goto (-178), 3) := getB' kX12_readsCondition 112 rfl
def LX12_isAsking : List (Nat × Instr × Nat) := [(0, .iload_n 0, 1), (1, .bipush 102, 2), (3, .if_icmp .eq 27, 3), (6, .iload_n 0, 1), (7, .bipush 108, 2), (9, .if_icmp .eq 21, 3), (12, .iload_n 0, 1), (13, .bipush 110, 2), (15, .if_icmp .eq 15, 3), (18, .iload_n 0, 1), (19, .bipush 115, 2), (21, .if_icmp .eq 9, 3), (24, .iload_n 0, 1), (25, .bipush 99, 2), (27, .if_icmp .ne 7, 3), (30, .iconst 1, 1), (31, .goto 4, 3), (34, .iconst 0, 1), (35, .ireturn, 1)]
theorem kX12_isAsking : chkB cX12_isAsking LX12_isAsking = true := by decide +kernel
theorem dX12_isAsking_0 : decode cX12_isAsking 0 = .ok (.iload_n 0, 1) := getB' kX12_isAsking 0 rfl
theorem dX12_isAsking_1 : decode cX12_isAsking 1 = .ok (.bipush 102, 2) := getB' kX12_isAsking 1 rfl
theorem dX12_isAsking_3 : decode cX12_isAsking 3 = .ok (.if_icmp .eq 27, 3) := getB' kX12_isAsking 2 rfl
theorem dX12_isAsking_6 : decode cX12_isAsking 6 = .ok (.iload_n 0, 1) := getB' kX12_isAsking 3 rfl
theorem dX12_isAsking_7 : decode cX12_isAsking 7 = .ok (.bipush 108, 2) := getB' kX12_isAsking 4 rfl
theorem dX12_isAsking_9 : decode cX12_isAsking 9 = .ok (.if_icmp .eq 21, 3) := getB' kX12_isAsking 5 rfl
theorem dX12_isAsking_12 : decode cX12_isAsking 12 = .ok (.iload_n 0, 1) := getB' kX12_isAsking 6 rfl
theorem dX12_isAsking_13 : decode cX12_isAsking 13 = .ok (.bipush 110, 2) := getB' kX12_isAsking 7 rfl
theorem dX12_isAsking_15 : decode cX12_isAsking 15 = .ok (.if_icmp .eq 15, 3) := getB' kX12_isAsking 8 rfl
theorem dX12_isAsking_18 : decode cX12_isAsking 18 = .ok (.iload_n 0, 1) := getB' kX12_isAsking 9 rfl
theorem dX12_isAsking_19 : decode cX12_isAsking 19 = .ok (.bipush 115, 2) := getB' kX12_isAsking 10 rfl
theorem dX12_isAsking_21 : decode cX12_isAsking 21 = .ok (.if_icmp .eq 9, 3) := getB' kX12_isAsking 11 rfl
theorem dX12_isAsking_24 : decode cX12_isAsking 24 = .ok (.iload_n 0, 1) := getB' kX12_isAsking 12 rfl
theorem dX12_isAsking_25 : decode cX12_isAsking 25 = .ok (.bipush 99, 2) := getB' kX12_isAsking 13 rfl
theorem dX12_isAsking_27 : decode cX12_isAsking 27 = .ok (.if_icmp .ne 7, 3) := getB' kX12_isAsking 14 rfl
theorem dX12_isAsking_30 : decode cX12_isAsking 30 = .ok (.iconst 1, 1) := getB' kX12_isAsking 15 rfl
theorem dX12_isAsking_31 : decode cX12_isAsking 31 = .ok (.goto 4, 3) := getB' kX12_isAsking 16 rfl
theorem dX12_isAsking_34 : decode cX12_isAsking 34 = .ok (.iconst 0, 1) := getB' kX12_isAsking 17 rfl
theorem dX12_isAsking_35 : decode cX12_isAsking 35 = .ok (.ireturn, 1) := getB' kX12_isAsking 18 rfl
def LX12_isLetter : List (Nat × Instr × Nat) := [(0, .iload_n 0, 1), (1, .invokestatic 520, 3), (4, .ifCond .ne 39, 3), (7, .iload_n 0, 1), (8, .bipush 122, 2), (10, .if_icmp .eq 33, 3), (13, .iload_n 0, 1), (14, .bipush 97, 2), (16, .if_icmp .eq 27, 3), (19, .iload_n 0, 1), (20, .bipush 113, 2), (22, .if_icmp .eq 21, 3), (25, .iload_n 0, 1), (26, .bipush 107, 2), (28, .if_icmp .eq 15, 3), (31, .iload_n 0, 1), (32, .bipush 103, 2), (34, .if_icmp .eq 9, 3), (37, .iload_n 0, 1), (38, .bipush 120, 2), (40, .if_icmp .ne 7, 3), (43, .iconst 1, 1), (44, .goto 4, 3), (47, .iconst 0, 1), (48, .ireturn, 1)]
theorem kX12_isLetter : chkB cX12_isLetter LX12_isLetter = true := by decide +kernel
theorem dX12_isLetter_0 : decode cX12_isLetter 0 = .ok (.iload_n 0, 1) := getB' kX12_isLetter 0 rfl
theorem dX12_isLetter_1 : decode cX12_isLetter 1 = .ok (.invokestatic 520, 3) := getB' kX12_isLetter 1 rfl
theorem dX12_isLetter_4 : decode cX12_isLetter 4 = .ok (.ifCond .ne 39, 3) := getB' kX12_isLetter 2 rfl
theorem dX12_isLetter_7 : decode cX12_isLetter 7 = .ok (.iload_n 0, 1) := getB' kX12_isLetter 3 rfl
theorem dX12_isLetter_8 : decode cX12_isLetter 8 = .ok (.bipush 122, 2) := getB' kX12_isLetter 4 rfl
theorem dX12_isLetter_10 : decode cX12_isLetter 10 = .ok (.if_icmp .eq 33, 3) := getB' kX12_isLetter 5 rfl
theorem dX12_isLetter_13 : decode cX12_isLetter 13 = .ok (.iload_n 0, 1) := getB' kX12_isLetter 6 rfl
theorem dX12_isLetter_14 : decode cX12_isLetter 14 = .ok (.bipush 97, 2) := getB' kX12_isLetter 7 rfl
theorem dX12_isLetter_16 : decode cX12_isLetter 16 = .ok (.if_icmp .eq 27, 3) := getB' kX12_isLetter 8 rfl
theorem dX12_isLetter_19 : decode cX12_isLetter 19 = .ok (.iload_n 0, 1) := getB' kX12_isLetter 9 rfl
theorem dX12_isLetter_20 : decode cX12_isLetter 20 = .ok (.bipush 113, 2) := getB' kX12_isLetter 10 rfl
theorem dX12_isLetter_22 : decode cX12_isLetter 22 = .ok (.if_icmp .eq 21, 3) := getB' kX12_isLetter 11 rfl
theorem dX12_isLetter_25 : decode cX12_isLetter 25 = .ok (.iload_n 0, 1) := getB' kX12_isLetter 12 rfl
theorem dX12_isLetter_26 : decode cX12_isLetter 26 = .ok (.bipush 107, 2) := getB' kX12_isLetter 13 rfl
theorem dX12_isLetter_28 : decode cX12_isLetter 28 = .ok (.if_icmp .eq 15, 3) := getB' kX12_isLetter 14 rfl
theorem dX12_isLetter_31 : decode cX12_isLetter 31 = .ok (.iload_n 0, 1) := getB' kX12_isLetter 15 rfl
theorem dX12_isLetter_32 : decode cX12_isLetter 32 = .ok (.bipush 103, 2) := getB' kX12_isLetter 16 rfl
theorem dX12_isLetter_34 : decode cX12_isLetter 34 = .ok (.if_icmp .eq 9, 3) := getB' kX12_isLetter 17 rfl
theorem dX12_isLetter_37 : decode cX12_isLetter 37 = .ok (.iload_n 0, 1) := getB' kX12_isLetter 18 rfl
theorem dX12_isLetter_38 : decode cX12_isLetter 38 = .ok (.bipush 120, 2) := getB' kX12_isLetter 19 rfl
theorem dX12_isLetter_40 : decode cX12_isLetter 40 = .ok (.if_icmp .ne 7, 3) := getB' kX12_isLetter 20 rfl
theorem dX12_isLetter_43 : decode cX12_isLetter 43 = .ok (.iconst 1, 1) := getB' kX12_isLetter 21 rfl
theorem dX12_isLetter_44 : decode cX12_isLetter 44 = .ok (.goto 4, 3) := getB' kX12_isLetter 22 rfl
theorem dX12_isLetter_47 : decode cX12_isLetter 47 = .ok (.iconst 0, 1) := getB' kX12_isLetter 23 rfl
theorem dX12_isLetter_48 : decode cX12_isLetter 48 = .ok (.ireturn, 1) := getB' kX12_isLetter 24 rfl
def LX12_readsClause : List (Nat × Instr × Nat) := [(0, .aload_n 0, 1), (1, .invokevirtual 449, 3), (4, .istore_n 1, 1), (5, .iload_n 1, 1), (6, .invokestatic 523, 3), (9, .ifCond .ne 13, 3), (12, .aload_n 0, 1), (13, .iconst 1, 1), (14, .aload_n 0, 1), (15, .getfield 443, 3), (18, .invokevirtual 456, 3), (21, .ireturn, 1), (22, .aload_n 0, 1), (23, .getfield 526, 3), (26, .bipush 12, 2), (28, .if_icmp .ne 13, 3), (31, .aload_n 0, 1), (32, .iconst 4, 1), (33, .aload_n 0, 1), (34, .getfield 443, 3), (37, .invokevirtual 456, 3), (40, .ireturn, 1), (41, .aload_n 0, 1), (42, .aload_n 0, 1), (43, .getfield 443, 3), (46, .iconst 1, 1), (47, .iadd, 1), (48, .putfield 443, 3), (51, .aload_n 0, 1), (52, .getfield 526, 3), (55, .istore_n 2, 1), (56, .aload_n 0, 1), (57, .getfield 94, 3), (60, .iload_n 2, 1), (61, .iload_n 1, 1), (62, .iastore, 1), (63, .aload_n 0, 1), (64, .getfield 103, 3), (67, .iload_n 2, 1), (68, .iconst 0, 1), (69, .iastore, 1), (70, .aload_n 0, 1), (71, .getfield 106, 3), (74, .iload_n 2, 1), (75, .iconst 0, 1), (76, .iastore, 1), (77, .aload_n 0, 1), (78, .getfield 109, 3), (81, .iload_n 2, 1), (82, .iconst 0, 1), (83, .iastore, 1), (84, .aload_n 0, 1), (85, .getfield 97, 3), (88, .iload_n 2, 1), (89, .aload_n 0, 1), (90, .getfield 466, 3), (93, .iastore, 1), (94, .iload_n 1, 1), (95, .invokestatic 520, 3), (98, .ifCond .eq 12, 3), (101, .aload_n 0, 1), (102, .invokevirtual 529, 3), (105, .ifCond .ne 5, 3), (108, .iconst 0, 1), (109, .ireturn, 1), (110, .aload_n 0, 1), (111, .getfield 100, 3), (114, .iload_n 2, 1), (115, .aload_n 0, 1), (116, .getfield 466, 3), (119, .iastore, 1), (120, .iload_n 1, 1), (121, .bipush 107, 2), (123, .if_icmp .eq 9, 3), (126, .iload_n 1, 1), (127, .bipush 120, 2), (129, .if_icmp .ne 91, 3), (132, .aload_n 0, 1), (133, .iload_n 1, 1), (134, .bipush 107, 2), (136, .if_icmp .ne 7, 3), (139, .iconst 3, 1), (140, .goto 5, 3), (143, .bipush 19, 2), (145, .invokevirtual 486, 3), (148, .ifCond .ne 5, 3), (151, .iconst 0, 1), (152, .ireturn, 1), (153, .aload_n 0, 1), (154, .getfield 106, 3), (157, .iload_n 2, 1), (158, .aload_n 0, 1), (159, .getfield 459, 3), (162, .iastore, 1), (163, .aload_n 0, 1), (164, .bipush 46, 2), (166, .invokevirtual 532, 3), (169, .ifCond .eq 22, 3), (172, .aload_n 0, 1), (173, .iload_n 1, 1), (174, .bipush 107, 2), (176, .if_icmp .ne 7, 3), (179, .iconst 3, 1), (180, .goto 5, 3), (183, .bipush 11, 2), (185, .invokevirtual 486, 3), (188, .ifCond .ne 5, 3), (191, .iconst 0, 1), (192, .ireturn, 1), (193, .aload_n 0, 1), (194, .getfield 109, 3), (197, .iload_n 2, 1), (198, .aload_n 0, 1), (199, .getfield 459, 3), (202, .iastore, 1), (203, .iload_n 1, 1), (204, .bipush 107, 2), (206, .if_icmp .ne 14, 3), (209, .aload_n 0, 1), (210, .bipush 61, 2), (212, .invokevirtual 532, 3), (215, .ifCond .ne 5, 3), (218, .iconst 0, 1), (219, .ireturn, 1), (220, .iload_n 1, 1), (221, .bipush 110, 2), (223, .if_icmp .eq 33, 3), (226, .iload_n 1, 1), (227, .bipush 115, 2), (229, .if_icmp .eq 27, 3), (232, .iload_n 1, 1), (233, .bipush 97, 2), (235, .if_icmp .eq 21, 3), (238, .iload_n 1, 1), (239, .bipush 113, 2), (241, .if_icmp .eq 15, 3), (244, .iload_n 1, 1), (245, .bipush 107, 2), (247, .if_icmp .eq 9, 3), (250, .iload_n 1, 1), (251, .bipush 103, 2), (253, .if_icmp .ne 25, 3), (256, .aload_n 0, 1), (257, .ldc_w 485, 3), (260, .invokevirtual 486, 3), (263, .ifCond .ne 5, 3), (266, .iconst 0, 1), (267, .ireturn, 1), (268, .aload_n 0, 1), (269, .getfield 103, 3), (272, .iload_n 2, 1), (273, .aload_n 0, 1), (274, .getfield 459, 3), (277, .iastore, 1), (278, .aload_n 0, 1), (279, .aload_n 0, 1), (280, .getfield 526, 3), (283, .iconst 1, 1), (284, .iadd, 1), (285, .putfield 526, 3), (288, .iconst 1, 1), (289, .ireturn, 1)]
theorem kX12_readsClause : chkB cX12_readsClause LX12_readsClause = true := by decide +kernel
theorem dX12_readsClause_0 : decode cX12_readsClause 0 = .ok (.aload_n 0, 1) := getB' kX12_readsClause 0 rfl
theorem dX12_readsClause_1 : decode cX12_readsClause 1 = .ok (.invokevirtual 449, 3) := getB' kX12_readsClause 1 rfl
theorem dX12_readsClause_4 : decode cX12_readsClause 4 = .ok (.istore_n 1, 1) := getB' kX12_readsClause 2 rfl
theorem dX12_readsClause_5 : decode cX12_readsClause 5 = .ok (.iload_n 1, 1) := getB' kX12_readsClause 3 rfl
theorem dX12_readsClause_6 : decode cX12_readsClause 6 = .ok (.invokestatic 523, 3) := getB' kX12_readsClause 4 rfl
theorem dX12_readsClause_9 : decode cX12_readsClause 9 = .ok (.ifCond .ne 13, 3) := getB' kX12_readsClause 5 rfl
theorem dX12_readsClause_12 : decode cX12_readsClause 12 = .ok (.aload_n 0, 1) := getB' kX12_readsClause 6 rfl
theorem dX12_readsClause_13 : decode cX12_readsClause 13 = .ok (.iconst 1, 1) := getB' kX12_readsClause 7 rfl
theorem dX12_readsClause_14 : decode cX12_readsClause 14 = .ok (.aload_n 0, 1) := getB' kX12_readsClause 8 rfl
theorem dX12_readsClause_15 : decode cX12_readsClause 15 = .ok (.getfield 443, 3) := getB' kX12_readsClause 9 rfl
theorem dX12_readsClause_18 : decode cX12_readsClause 18 = .ok (.invokevirtual 456, 3) := getB' kX12_readsClause 10 rfl
theorem dX12_readsClause_21 : decode cX12_readsClause 21 = .ok (.ireturn, 1) := getB' kX12_readsClause 11 rfl
theorem dX12_readsClause_22 : decode cX12_readsClause 22 = .ok (.aload_n 0, 1) := getB' kX12_readsClause 12 rfl
theorem dX12_readsClause_23 : decode cX12_readsClause 23 = .ok (.getfield 526, 3) := getB' kX12_readsClause 13 rfl
theorem dX12_readsClause_26 : decode cX12_readsClause 26 = .ok (.bipush 12, 2) := getB' kX12_readsClause 14 rfl
theorem dX12_readsClause_28 : decode cX12_readsClause 28 = .ok (.if_icmp .ne 13, 3) := getB' kX12_readsClause 15 rfl
theorem dX12_readsClause_31 : decode cX12_readsClause 31 = .ok (.aload_n 0, 1) := getB' kX12_readsClause 16 rfl
theorem dX12_readsClause_32 : decode cX12_readsClause 32 = .ok (.iconst 4, 1) := getB' kX12_readsClause 17 rfl
theorem dX12_readsClause_33 : decode cX12_readsClause 33 = .ok (.aload_n 0, 1) := getB' kX12_readsClause 18 rfl
theorem dX12_readsClause_34 : decode cX12_readsClause 34 = .ok (.getfield 443, 3) := getB' kX12_readsClause 19 rfl
theorem dX12_readsClause_37 : decode cX12_readsClause 37 = .ok (.invokevirtual 456, 3) := getB' kX12_readsClause 20 rfl
theorem dX12_readsClause_40 : decode cX12_readsClause 40 = .ok (.ireturn, 1) := getB' kX12_readsClause 21 rfl
theorem dX12_readsClause_41 : decode cX12_readsClause 41 = .ok (.aload_n 0, 1) := getB' kX12_readsClause 22 rfl
theorem dX12_readsClause_42 : decode cX12_readsClause 42 = .ok (.aload_n 0, 1) := getB' kX12_readsClause 23 rfl
theorem dX12_readsClause_43 : decode cX12_readsClause 43 = .ok (.getfield 443, 3) := getB' kX12_readsClause 24 rfl
theorem dX12_readsClause_46 : decode cX12_readsClause 46 = .ok (.iconst 1, 1) := getB' kX12_readsClause 25 rfl
theorem dX12_readsClause_47 : decode cX12_readsClause 47 = .ok (.iadd, 1) := getB' kX12_readsClause 26 rfl
theorem dX12_readsClause_48 : decode cX12_readsClause 48 = .ok (.putfield 443, 3) := getB' kX12_readsClause 27 rfl
theorem dX12_readsClause_51 : decode cX12_readsClause 51 = .ok (.aload_n 0, 1) := getB' kX12_readsClause 28 rfl
theorem dX12_readsClause_52 : decode cX12_readsClause 52 = .ok (.getfield 526, 3) := getB' kX12_readsClause 29 rfl
theorem dX12_readsClause_55 : decode cX12_readsClause 55 = .ok (.istore_n 2, 1) := getB' kX12_readsClause 30 rfl
theorem dX12_readsClause_56 : decode cX12_readsClause 56 = .ok (.aload_n 0, 1) := getB' kX12_readsClause 31 rfl
theorem dX12_readsClause_57 : decode cX12_readsClause 57 = .ok (.getfield 94, 3) := getB' kX12_readsClause 32 rfl
theorem dX12_readsClause_60 : decode cX12_readsClause 60 = .ok (.iload_n 2, 1) := getB' kX12_readsClause 33 rfl
theorem dX12_readsClause_61 : decode cX12_readsClause 61 = .ok (.iload_n 1, 1) := getB' kX12_readsClause 34 rfl
theorem dX12_readsClause_62 : decode cX12_readsClause 62 = .ok (.iastore, 1) := getB' kX12_readsClause 35 rfl
theorem dX12_readsClause_63 : decode cX12_readsClause 63 = .ok (.aload_n 0, 1) := getB' kX12_readsClause 36 rfl
theorem dX12_readsClause_64 : decode cX12_readsClause 64 = .ok (.getfield 103, 3) := getB' kX12_readsClause 37 rfl
theorem dX12_readsClause_67 : decode cX12_readsClause 67 = .ok (.iload_n 2, 1) := getB' kX12_readsClause 38 rfl
theorem dX12_readsClause_68 : decode cX12_readsClause 68 = .ok (.iconst 0, 1) := getB' kX12_readsClause 39 rfl
theorem dX12_readsClause_69 : decode cX12_readsClause 69 = .ok (.iastore, 1) := getB' kX12_readsClause 40 rfl
theorem dX12_readsClause_70 : decode cX12_readsClause 70 = .ok (.aload_n 0, 1) := getB' kX12_readsClause 41 rfl
theorem dX12_readsClause_71 : decode cX12_readsClause 71 = .ok (.getfield 106, 3) := getB' kX12_readsClause 42 rfl
theorem dX12_readsClause_74 : decode cX12_readsClause 74 = .ok (.iload_n 2, 1) := getB' kX12_readsClause 43 rfl
theorem dX12_readsClause_75 : decode cX12_readsClause 75 = .ok (.iconst 0, 1) := getB' kX12_readsClause 44 rfl
theorem dX12_readsClause_76 : decode cX12_readsClause 76 = .ok (.iastore, 1) := getB' kX12_readsClause 45 rfl
theorem dX12_readsClause_77 : decode cX12_readsClause 77 = .ok (.aload_n 0, 1) := getB' kX12_readsClause 46 rfl
theorem dX12_readsClause_78 : decode cX12_readsClause 78 = .ok (.getfield 109, 3) := getB' kX12_readsClause 47 rfl
theorem dX12_readsClause_81 : decode cX12_readsClause 81 = .ok (.iload_n 2, 1) := getB' kX12_readsClause 48 rfl
theorem dX12_readsClause_82 : decode cX12_readsClause 82 = .ok (.iconst 0, 1) := getB' kX12_readsClause 49 rfl
theorem dX12_readsClause_83 : decode cX12_readsClause 83 = .ok (.iastore, 1) := getB' kX12_readsClause 50 rfl
theorem dX12_readsClause_84 : decode cX12_readsClause 84 = .ok (.aload_n 0, 1) := getB' kX12_readsClause 51 rfl
theorem dX12_readsClause_85 : decode cX12_readsClause 85 = .ok (.getfield 97, 3) := getB' kX12_readsClause 52 rfl
theorem dX12_readsClause_88 : decode cX12_readsClause 88 = .ok (.iload_n 2, 1) := getB' kX12_readsClause 53 rfl
theorem dX12_readsClause_89 : decode cX12_readsClause 89 = .ok (.aload_n 0, 1) := getB' kX12_readsClause 54 rfl
theorem dX12_readsClause_90 : decode cX12_readsClause 90 = .ok (.getfield 466, 3) := getB' kX12_readsClause 55 rfl
theorem dX12_readsClause_93 : decode cX12_readsClause 93 = .ok (.iastore, 1) := getB' kX12_readsClause 56 rfl
theorem dX12_readsClause_94 : decode cX12_readsClause 94 = .ok (.iload_n 1, 1) := getB' kX12_readsClause 57 rfl
theorem dX12_readsClause_95 : decode cX12_readsClause 95 = .ok (.invokestatic 520, 3) := getB' kX12_readsClause 58 rfl
theorem dX12_readsClause_98 : decode cX12_readsClause 98 = .ok (.ifCond .eq 12, 3) := getB' kX12_readsClause 59 rfl
theorem dX12_readsClause_101 : decode cX12_readsClause 101 = .ok (.aload_n 0, 1) := getB' kX12_readsClause 60 rfl
theorem dX12_readsClause_102 : decode cX12_readsClause 102 = .ok (.invokevirtual 529, 3) := getB' kX12_readsClause 61 rfl
theorem dX12_readsClause_105 : decode cX12_readsClause 105 = .ok (.ifCond .ne 5, 3) := getB' kX12_readsClause 62 rfl
theorem dX12_readsClause_108 : decode cX12_readsClause 108 = .ok (.iconst 0, 1) := getB' kX12_readsClause 63 rfl
theorem dX12_readsClause_109 : decode cX12_readsClause 109 = .ok (.ireturn, 1) := getB' kX12_readsClause 64 rfl
theorem dX12_readsClause_110 : decode cX12_readsClause 110 = .ok (.aload_n 0, 1) := getB' kX12_readsClause 65 rfl
theorem dX12_readsClause_111 : decode cX12_readsClause 111 = .ok (.getfield 100, 3) := getB' kX12_readsClause 66 rfl
theorem dX12_readsClause_114 : decode cX12_readsClause 114 = .ok (.iload_n 2, 1) := getB' kX12_readsClause 67 rfl
theorem dX12_readsClause_115 : decode cX12_readsClause 115 = .ok (.aload_n 0, 1) := getB' kX12_readsClause 68 rfl
theorem dX12_readsClause_116 : decode cX12_readsClause 116 = .ok (.getfield 466, 3) := getB' kX12_readsClause 69 rfl
theorem dX12_readsClause_119 : decode cX12_readsClause 119 = .ok (.iastore, 1) := getB' kX12_readsClause 70 rfl
theorem dX12_readsClause_120 : decode cX12_readsClause 120 = .ok (.iload_n 1, 1) := getB' kX12_readsClause 71 rfl
theorem dX12_readsClause_121 : decode cX12_readsClause 121 = .ok (.bipush 107, 2) := getB' kX12_readsClause 72 rfl
theorem dX12_readsClause_123 : decode cX12_readsClause 123 = .ok (.if_icmp .eq 9, 3) := getB' kX12_readsClause 73 rfl
theorem dX12_readsClause_126 : decode cX12_readsClause 126 = .ok (.iload_n 1, 1) := getB' kX12_readsClause 74 rfl
theorem dX12_readsClause_127 : decode cX12_readsClause 127 = .ok (.bipush 120, 2) := getB' kX12_readsClause 75 rfl
theorem dX12_readsClause_129 : decode cX12_readsClause 129 = .ok (.if_icmp .ne 91, 3) := getB' kX12_readsClause 76 rfl
theorem dX12_readsClause_132 : decode cX12_readsClause 132 = .ok (.aload_n 0, 1) := getB' kX12_readsClause 77 rfl
theorem dX12_readsClause_133 : decode cX12_readsClause 133 = .ok (.iload_n 1, 1) := getB' kX12_readsClause 78 rfl
theorem dX12_readsClause_134 : decode cX12_readsClause 134 = .ok (.bipush 107, 2) := getB' kX12_readsClause 79 rfl
theorem dX12_readsClause_136 : decode cX12_readsClause 136 = .ok (.if_icmp .ne 7, 3) := getB' kX12_readsClause 80 rfl
theorem dX12_readsClause_139 : decode cX12_readsClause 139 = .ok (.iconst 3, 1) := getB' kX12_readsClause 81 rfl
theorem dX12_readsClause_140 : decode cX12_readsClause 140 = .ok (.goto 5, 3) := getB' kX12_readsClause 82 rfl
theorem dX12_readsClause_143 : decode cX12_readsClause 143 = .ok (.bipush 19, 2) := getB' kX12_readsClause 83 rfl
theorem dX12_readsClause_145 : decode cX12_readsClause 145 = .ok (.invokevirtual 486, 3) := getB' kX12_readsClause 84 rfl
theorem dX12_readsClause_148 : decode cX12_readsClause 148 = .ok (.ifCond .ne 5, 3) := getB' kX12_readsClause 85 rfl
theorem dX12_readsClause_151 : decode cX12_readsClause 151 = .ok (.iconst 0, 1) := getB' kX12_readsClause 86 rfl
theorem dX12_readsClause_152 : decode cX12_readsClause 152 = .ok (.ireturn, 1) := getB' kX12_readsClause 87 rfl
theorem dX12_readsClause_153 : decode cX12_readsClause 153 = .ok (.aload_n 0, 1) := getB' kX12_readsClause 88 rfl
theorem dX12_readsClause_154 : decode cX12_readsClause 154 = .ok (.getfield 106, 3) := getB' kX12_readsClause 89 rfl
theorem dX12_readsClause_157 : decode cX12_readsClause 157 = .ok (.iload_n 2, 1) := getB' kX12_readsClause 90 rfl
theorem dX12_readsClause_158 : decode cX12_readsClause 158 = .ok (.aload_n 0, 1) := getB' kX12_readsClause 91 rfl
theorem dX12_readsClause_159 : decode cX12_readsClause 159 = .ok (.getfield 459, 3) := getB' kX12_readsClause 92 rfl
theorem dX12_readsClause_162 : decode cX12_readsClause 162 = .ok (.iastore, 1) := getB' kX12_readsClause 93 rfl
theorem dX12_readsClause_163 : decode cX12_readsClause 163 = .ok (.aload_n 0, 1) := getB' kX12_readsClause 94 rfl
theorem dX12_readsClause_164 : decode cX12_readsClause 164 = .ok (.bipush 46, 2) := getB' kX12_readsClause 95 rfl
theorem dX12_readsClause_166 : decode cX12_readsClause 166 = .ok (.invokevirtual 532, 3) := getB' kX12_readsClause 96 rfl
theorem dX12_readsClause_169 : decode cX12_readsClause 169 = .ok (.ifCond .eq 22, 3) := getB' kX12_readsClause 97 rfl
theorem dX12_readsClause_172 : decode cX12_readsClause 172 = .ok (.aload_n 0, 1) := getB' kX12_readsClause 98 rfl
theorem dX12_readsClause_173 : decode cX12_readsClause 173 = .ok (.iload_n 1, 1) := getB' kX12_readsClause 99 rfl
theorem dX12_readsClause_174 : decode cX12_readsClause 174 = .ok (.bipush 107, 2) := getB' kX12_readsClause 100 rfl
theorem dX12_readsClause_176 : decode cX12_readsClause 176 = .ok (.if_icmp .ne 7, 3) := getB' kX12_readsClause 101 rfl
theorem dX12_readsClause_179 : decode cX12_readsClause 179 = .ok (.iconst 3, 1) := getB' kX12_readsClause 102 rfl
theorem dX12_readsClause_180 : decode cX12_readsClause 180 = .ok (.goto 5, 3) := getB' kX12_readsClause 103 rfl
theorem dX12_readsClause_183 : decode cX12_readsClause 183 = .ok (.bipush 11, 2) := getB' kX12_readsClause 104 rfl
theorem dX12_readsClause_185 : decode cX12_readsClause 185 = .ok (.invokevirtual 486, 3) := getB' kX12_readsClause 105 rfl
theorem dX12_readsClause_188 : decode cX12_readsClause 188 = .ok (.ifCond .ne 5, 3) := getB' kX12_readsClause 106 rfl
theorem dX12_readsClause_191 : decode cX12_readsClause 191 = .ok (.iconst 0, 1) := getB' kX12_readsClause 107 rfl
theorem dX12_readsClause_192 : decode cX12_readsClause 192 = .ok (.ireturn, 1) := getB' kX12_readsClause 108 rfl
theorem dX12_readsClause_193 : decode cX12_readsClause 193 = .ok (.aload_n 0, 1) := getB' kX12_readsClause 109 rfl
theorem dX12_readsClause_194 : decode cX12_readsClause 194 = .ok (.getfield 109, 3) := getB' kX12_readsClause 110 rfl
theorem dX12_readsClause_197 : decode cX12_readsClause 197 = .ok (.iload_n 2, 1) := getB' kX12_readsClause 111 rfl
theorem dX12_readsClause_198 : decode cX12_readsClause 198 = .ok (.aload_n 0, 1) := getB' kX12_readsClause 112 rfl
theorem dX12_readsClause_199 : decode cX12_readsClause 199 = .ok (.getfield 459, 3) := getB' kX12_readsClause 113 rfl
theorem dX12_readsClause_202 : decode cX12_readsClause 202 = .ok (.iastore, 1) := getB' kX12_readsClause 114 rfl
theorem dX12_readsClause_203 : decode cX12_readsClause 203 = .ok (.iload_n 1, 1) := getB' kX12_readsClause 115 rfl
theorem dX12_readsClause_204 : decode cX12_readsClause 204 = .ok (.bipush 107, 2) := getB' kX12_readsClause 116 rfl
theorem dX12_readsClause_206 : decode cX12_readsClause 206 = .ok (.if_icmp .ne 14, 3) := getB' kX12_readsClause 117 rfl
theorem dX12_readsClause_209 : decode cX12_readsClause 209 = .ok (.aload_n 0, 1) := getB' kX12_readsClause 118 rfl
theorem dX12_readsClause_210 : decode cX12_readsClause 210 = .ok (.bipush 61, 2) := getB' kX12_readsClause 119 rfl
theorem dX12_readsClause_212 : decode cX12_readsClause 212 = .ok (.invokevirtual 532, 3) := getB' kX12_readsClause 120 rfl
theorem dX12_readsClause_215 : decode cX12_readsClause 215 = .ok (.ifCond .ne 5, 3) := getB' kX12_readsClause 121 rfl
theorem dX12_readsClause_218 : decode cX12_readsClause 218 = .ok (.iconst 0, 1) := getB' kX12_readsClause 122 rfl
theorem dX12_readsClause_219 : decode cX12_readsClause 219 = .ok (.ireturn, 1) := getB' kX12_readsClause 123 rfl
theorem dX12_readsClause_220 : decode cX12_readsClause 220 = .ok (.iload_n 1, 1) := getB' kX12_readsClause 124 rfl
theorem dX12_readsClause_221 : decode cX12_readsClause 221 = .ok (.bipush 110, 2) := getB' kX12_readsClause 125 rfl
theorem dX12_readsClause_223 : decode cX12_readsClause 223 = .ok (.if_icmp .eq 33, 3) := getB' kX12_readsClause 126 rfl
theorem dX12_readsClause_226 : decode cX12_readsClause 226 = .ok (.iload_n 1, 1) := getB' kX12_readsClause 127 rfl
theorem dX12_readsClause_227 : decode cX12_readsClause 227 = .ok (.bipush 115, 2) := getB' kX12_readsClause 128 rfl
theorem dX12_readsClause_229 : decode cX12_readsClause 229 = .ok (.if_icmp .eq 27, 3) := getB' kX12_readsClause 129 rfl
theorem dX12_readsClause_232 : decode cX12_readsClause 232 = .ok (.iload_n 1, 1) := getB' kX12_readsClause 130 rfl
theorem dX12_readsClause_233 : decode cX12_readsClause 233 = .ok (.bipush 97, 2) := getB' kX12_readsClause 131 rfl
theorem dX12_readsClause_235 : decode cX12_readsClause 235 = .ok (.if_icmp .eq 21, 3) := getB' kX12_readsClause 132 rfl
theorem dX12_readsClause_238 : decode cX12_readsClause 238 = .ok (.iload_n 1, 1) := getB' kX12_readsClause 133 rfl
theorem dX12_readsClause_239 : decode cX12_readsClause 239 = .ok (.bipush 113, 2) := getB' kX12_readsClause 134 rfl
theorem dX12_readsClause_241 : decode cX12_readsClause 241 = .ok (.if_icmp .eq 15, 3) := getB' kX12_readsClause 135 rfl
theorem dX12_readsClause_244 : decode cX12_readsClause 244 = .ok (.iload_n 1, 1) := getB' kX12_readsClause 136 rfl
theorem dX12_readsClause_245 : decode cX12_readsClause 245 = .ok (.bipush 107, 2) := getB' kX12_readsClause 137 rfl
theorem dX12_readsClause_247 : decode cX12_readsClause 247 = .ok (.if_icmp .eq 9, 3) := getB' kX12_readsClause 138 rfl
theorem dX12_readsClause_250 : decode cX12_readsClause 250 = .ok (.iload_n 1, 1) := getB' kX12_readsClause 139 rfl
theorem dX12_readsClause_251 : decode cX12_readsClause 251 = .ok (.bipush 103, 2) := getB' kX12_readsClause 140 rfl
theorem dX12_readsClause_253 : decode cX12_readsClause 253 = .ok (.if_icmp .ne 25, 3) := getB' kX12_readsClause 141 rfl
theorem dX12_readsClause_256 : decode cX12_readsClause 256 = .ok (.aload_n 0, 1) := getB' kX12_readsClause 142 rfl
theorem dX12_readsClause_257 : decode cX12_readsClause 257 = .ok (.ldc_w 485, 3) := getB' kX12_readsClause 143 rfl
theorem dX12_readsClause_260 : decode cX12_readsClause 260 = .ok (.invokevirtual 486, 3) := getB' kX12_readsClause 144 rfl
theorem dX12_readsClause_263 : decode cX12_readsClause 263 = .ok (.ifCond .ne 5, 3) := getB' kX12_readsClause 145 rfl
theorem dX12_readsClause_266 : decode cX12_readsClause 266 = .ok (.iconst 0, 1) := getB' kX12_readsClause 146 rfl
theorem dX12_readsClause_267 : decode cX12_readsClause 267 = .ok (.ireturn, 1) := getB' kX12_readsClause 147 rfl
theorem dX12_readsClause_268 : decode cX12_readsClause 268 = .ok (.aload_n 0, 1) := getB' kX12_readsClause 148 rfl
theorem dX12_readsClause_269 : decode cX12_readsClause 269 = .ok (.getfield 103, 3) := getB' kX12_readsClause 149 rfl
theorem dX12_readsClause_272 : decode cX12_readsClause 272 = .ok (.iload_n 2, 1) := getB' kX12_readsClause 150 rfl
theorem dX12_readsClause_273 : decode cX12_readsClause 273 = .ok (.aload_n 0, 1) := getB' kX12_readsClause 151 rfl
theorem dX12_readsClause_274 : decode cX12_readsClause 274 = .ok (.getfield 459, 3) := getB' kX12_readsClause 152 rfl
theorem dX12_readsClause_277 : decode cX12_readsClause 277 = .ok (.iastore, 1) := getB' kX12_readsClause 153 rfl
theorem dX12_readsClause_278 : decode cX12_readsClause 278 = .ok (.aload_n 0, 1) := getB' kX12_readsClause 154 rfl
theorem dX12_readsClause_279 : decode cX12_readsClause 279 = .ok (.aload_n 0, 1) := getB' kX12_readsClause 155 rfl
theorem dX12_readsClause_280 : decode cX12_readsClause 280 = .ok (.getfield 526, 3) := getB' kX12_readsClause 156 rfl
theorem dX12_readsClause_283 : decode cX12_readsClause 283 = .ok (.iconst 1, 1) := getB' kX12_readsClause 157 rfl
theorem dX12_readsClause_284 : decode cX12_readsClause 284 = .ok (.iadd, 1) := getB' kX12_readsClause 158 rfl
theorem dX12_readsClause_285 : decode cX12_readsClause 285 = .ok (.putfield 526, 3) := getB' kX12_readsClause 159 rfl
theorem dX12_readsClause_288 : decode cX12_readsClause 288 = .ok (.iconst 1, 1) := getB' kX12_readsClause 160 rfl
theorem dX12_readsClause_289 : decode cX12_readsClause 289 = .ok (.ireturn, 1) := getB' kX12_readsClause 161 rfl
def LX12_text : List (Nat × Instr × Nat) := [(0, .iload_n 1, 1), (1, .invokestatic 409, 3), (4, .ifCond .eq 42, 3), (7, .iload_n 2, 1), (8, .iload_n 1, 1), (9, .sipush 3599, 3), (12, .invokestatic 371, 3), (15, .ifCond .eq 31, 3), (18, .iload_n 3, 1), (19, .iconst 1, 1), (20, .sipush 200, 3), (23, .invokestatic 371, 3), (26, .ifCond .eq 20, 3), (29, .iload_n 3, 1), (30, .aload_n 0, 1), (31, .getfield 436, 3), (34, .if_icmp .gt 12, 3), (37, .aload_n 0, 1), (38, .getfield 535, 3), (41, .bipush 20, 2), (43, .if_icmp .ne 5, 3), (46, .iconst (-1), 1), (47, .ireturn, 1), (48, .aload_n 0, 1), (49, .iconst 0, 1), (50, .putfield 443, 3), (53, .aload_n 0, 1), (54, .iload_n 3, 1), (55, .putfield 446, 3), (58, .aload_n 0, 1), (59, .iconst 0, 1), (60, .putfield 466, 3), (63, .aload_n 0, 1), (64, .iconst 0, 1), (65, .putfield 526, 3), (68, .aload_n 0, 1), (69, .invokevirtual 538, 3), (72, .istore 4, 2), (74, .iload 4, 2), (76, .ifCond .eq 40, 3), (79, .aload_n 0, 1), (80, .getfield 443, 3), (83, .aload_n 0, 1), (84, .getfield 446, 3), (87, .if_icmp .ge 29, 3), (90, .aload_n 0, 1), (91, .bipush 59, 2), (93, .invokevirtual 532, 3), (96, .ifCond .eq 14, 3), (99, .aload_n 0, 1), (100, .invokevirtual 538, 3), (103, .ifCond .eq 7, 3), (106, .iconst 1, 1), (107, .goto 4, 3), (110, .iconst 0, 1), (111, .istore 4, 2), (113, .goto (-39), 3), (116, .aload_n 0, 1), (117, .iconst 0, 1), (118, .putfield 436, 3), (121, .iload 4, 2), (123, .ifCond .ne 8, 3), (126, .aload_n 0, 1), (127, .getfield 453, 3), (130, .ireturn, 1), (131, .aload_n 0, 1), (132, .getfield 118, 3), (135, .aload_n 0, 1), (136, .getfield 535, 3), (139, .iload_n 1, 1), (140, .iastore, 1), (141, .aload_n 0, 1), (142, .getfield 121, 3), (145, .aload_n 0, 1), (146, .getfield 535, 3), (149, .iload_n 2, 1), (150, .iastore, 1), (151, .aload_n 0, 1), (152, .getfield 115, 3), (155, .aload_n 0, 1), (156, .getfield 535, 3), (159, .aload_n 0, 1), (160, .getfield 526, 3), (163, .iastore, 1), (164, .iconst 0, 1), (165, .istore 5, 2), (167, .iload 5, 2), (169, .aload_n 0, 1), (170, .getfield 466, 3), (173, .if_icmp .ge 32, 3), (176, .aload_n 0, 1), (177, .getfield 112, 3), (180, .sipush 220, 3), (183, .aload_n 0, 1), (184, .getfield 535, 3), (187, .imul, 1), (188, .iload 5, 2), (190, .iadd, 1), (191, .aload_n 0, 1), (192, .getfield 88, 3), (195, .iload 5, 2), (197, .iaload, 1), (198, .iastore, 1), (199, .iinc 5 1, 3), (202, .goto (-35), 3), (205, .iconst 0, 1), (206, .istore 5, 2), (208, .iload 5, 2), (210, .aload_n 0, 1), (211, .getfield 526, 3), (214, .if_icmp .ge 123, 3), (217, .bipush 12, 2), (219, .aload_n 0, 1), (220, .getfield 535, 3), (223, .imul, 1), (224, .iload 5, 2), (226, .iadd, 1), (227, .istore 6, 2), (229, .aload_n 0, 1), (230, .getfield 124, 3), (233, .iload 6, 2), (235, .aload_n 0, 1), (236, .getfield 94, 3), (239, .iload 5, 2), (241, .iaload, 1), (242, .iastore, 1), (243, .aload_n 0, 1), (244, .getfield 127, 3), (247, .iload 6, 2), (249, .sipush 220, 3), (252, .aload_n 0, 1), (253, .getfield 535, 3), (256, .imul, 1), (257, .aload_n 0, 1), (258, .getfield 97, 3), (261, .iload 5, 2), (263, .iaload, 1), (264, .iadd, 1), (265, .iastore, 1), (266, .aload_n 0, 1), (267, .getfield 130, 3), (270, .iload 6, 2), (272, .sipush 220, 3), (275, .aload_n 0, 1), (276, .getfield 535, 3), (279, .imul, 1), (280, .aload_n 0, 1), (281, .getfield 100, 3), (284, .iload 5, 2), (286, .iaload, 1), (287, .iadd, 1), (288, .iastore, 1), (289, .aload_n 0, 1), (290, .getfield 133, 3), (293, .iload 6, 2), (295, .aload_n 0, 1), (296, .getfield 103, 3), (299, .iload 5, 2), (301, .iaload, 1), (302, .iastore, 1), (303, .aload_n 0, 1), (304, .getfield 136, 3), (307, .iload 6, 2), (309, .aload_n 0, 1), (310, .getfield 106, 3), (313, .iload 5, 2), (315, .iaload, 1), (316, .iastore, 1), (317, .aload_n 0, 1), (318, .getfield 139, 3), (321, .iload 6, 2), (323, .aload_n 0, 1), (324, .getfield 109, 3), (327, .iload 5, 2), (329, .iaload, 1), (330, .iastore, 1), (331, .iinc 5 1, 3), (334, .goto (-126), 3), (337, .iconst 0, 1), (338, .istore 5, 2), (340, .iload 5, 2), (342, .bipush 9, 2), (344, .if_icmp .ge 25, 3), (347, .aload_n 0, 1), (348, .getfield 142, 3), (351, .bipush 20, 2), (353, .iload 5, 2), (355, .imul, 1), (356, .aload_n 0, 1), (357, .getfield 535, 3), (360, .iadd, 1), (361, .iconst (-1), 1), (362, .iastore, 1), (363, .iinc 5 1, 3), (366, .goto (-26), 3), (369, .aload_n 0, 1), (370, .aload_n 0, 1), (371, .getfield 535, 3), (374, .iconst 1, 1), (375, .iadd, 1), (376, .putfield 535, 3), (379, .aload_n 0, 1), (380, .getfield 535, 3), (383, .iconst 1, 1), (384, .isub, 1), (385, .ireturn, 1)]
theorem kX12_text : chkB cX12_text LX12_text = true := by decide +kernel
theorem dX12_text_0 : decode cX12_text 0 = .ok (.iload_n 1, 1) := getB' kX12_text 0 rfl
theorem dX12_text_1 : decode cX12_text 1 = .ok (.invokestatic 409, 3) := getB' kX12_text 1 rfl
theorem dX12_text_4 : decode cX12_text 4 = .ok (.ifCond .eq 42, 3) := getB' kX12_text 2 rfl
theorem dX12_text_7 : decode cX12_text 7 = .ok (.iload_n 2, 1) := getB' kX12_text 3 rfl
theorem dX12_text_8 : decode cX12_text 8 = .ok (.iload_n 1, 1) := getB' kX12_text 4 rfl
theorem dX12_text_9 : decode cX12_text 9 = .ok (.sipush 3599, 3) := getB' kX12_text 5 rfl
theorem dX12_text_12 : decode cX12_text 12 = .ok (.invokestatic 371, 3) := getB' kX12_text 6 rfl
theorem dX12_text_15 : decode cX12_text 15 = .ok (.ifCond .eq 31, 3) := getB' kX12_text 7 rfl
theorem dX12_text_18 : decode cX12_text 18 = .ok (.iload_n 3, 1) := getB' kX12_text 8 rfl
theorem dX12_text_19 : decode cX12_text 19 = .ok (.iconst 1, 1) := getB' kX12_text 9 rfl
theorem dX12_text_20 : decode cX12_text 20 = .ok (.sipush 200, 3) := getB' kX12_text 10 rfl
theorem dX12_text_23 : decode cX12_text 23 = .ok (.invokestatic 371, 3) := getB' kX12_text 11 rfl
theorem dX12_text_26 : decode cX12_text 26 = .ok (.ifCond .eq 20, 3) := getB' kX12_text 12 rfl
theorem dX12_text_29 : decode cX12_text 29 = .ok (.iload_n 3, 1) := getB' kX12_text 13 rfl
theorem dX12_text_30 : decode cX12_text 30 = .ok (.aload_n 0, 1) := getB' kX12_text 14 rfl
theorem dX12_text_31 : decode cX12_text 31 = .ok (.getfield 436, 3) := getB' kX12_text 15 rfl
theorem dX12_text_34 : decode cX12_text 34 = .ok (.if_icmp .gt 12, 3) := getB' kX12_text 16 rfl
theorem dX12_text_37 : decode cX12_text 37 = .ok (.aload_n 0, 1) := getB' kX12_text 17 rfl
theorem dX12_text_38 : decode cX12_text 38 = .ok (.getfield 535, 3) := getB' kX12_text 18 rfl
theorem dX12_text_41 : decode cX12_text 41 = .ok (.bipush 20, 2) := getB' kX12_text 19 rfl
theorem dX12_text_43 : decode cX12_text 43 = .ok (.if_icmp .ne 5, 3) := getB' kX12_text 20 rfl
theorem dX12_text_46 : decode cX12_text 46 = .ok (.iconst (-1), 1) := getB' kX12_text 21 rfl
theorem dX12_text_47 : decode cX12_text 47 = .ok (.ireturn, 1) := getB' kX12_text 22 rfl
theorem dX12_text_48 : decode cX12_text 48 = .ok (.aload_n 0, 1) := getB' kX12_text 23 rfl
theorem dX12_text_49 : decode cX12_text 49 = .ok (.iconst 0, 1) := getB' kX12_text 24 rfl
theorem dX12_text_50 : decode cX12_text 50 = .ok (.putfield 443, 3) := getB' kX12_text 25 rfl
theorem dX12_text_53 : decode cX12_text 53 = .ok (.aload_n 0, 1) := getB' kX12_text 26 rfl
theorem dX12_text_54 : decode cX12_text 54 = .ok (.iload_n 3, 1) := getB' kX12_text 27 rfl
theorem dX12_text_55 : decode cX12_text 55 = .ok (.putfield 446, 3) := getB' kX12_text 28 rfl
theorem dX12_text_58 : decode cX12_text 58 = .ok (.aload_n 0, 1) := getB' kX12_text 29 rfl
theorem dX12_text_59 : decode cX12_text 59 = .ok (.iconst 0, 1) := getB' kX12_text 30 rfl
theorem dX12_text_60 : decode cX12_text 60 = .ok (.putfield 466, 3) := getB' kX12_text 31 rfl
theorem dX12_text_63 : decode cX12_text 63 = .ok (.aload_n 0, 1) := getB' kX12_text 32 rfl
theorem dX12_text_64 : decode cX12_text 64 = .ok (.iconst 0, 1) := getB' kX12_text 33 rfl
theorem dX12_text_65 : decode cX12_text 65 = .ok (.putfield 526, 3) := getB' kX12_text 34 rfl
theorem dX12_text_68 : decode cX12_text 68 = .ok (.aload_n 0, 1) := getB' kX12_text 35 rfl
theorem dX12_text_69 : decode cX12_text 69 = .ok (.invokevirtual 538, 3) := getB' kX12_text 36 rfl
theorem dX12_text_72 : decode cX12_text 72 = .ok (.istore 4, 2) := getB' kX12_text 37 rfl
theorem dX12_text_74 : decode cX12_text 74 = .ok (.iload 4, 2) := getB' kX12_text 38 rfl
theorem dX12_text_76 : decode cX12_text 76 = .ok (.ifCond .eq 40, 3) := getB' kX12_text 39 rfl
theorem dX12_text_79 : decode cX12_text 79 = .ok (.aload_n 0, 1) := getB' kX12_text 40 rfl
theorem dX12_text_80 : decode cX12_text 80 = .ok (.getfield 443, 3) := getB' kX12_text 41 rfl
theorem dX12_text_83 : decode cX12_text 83 = .ok (.aload_n 0, 1) := getB' kX12_text 42 rfl
theorem dX12_text_84 : decode cX12_text 84 = .ok (.getfield 446, 3) := getB' kX12_text 43 rfl
theorem dX12_text_87 : decode cX12_text 87 = .ok (.if_icmp .ge 29, 3) := getB' kX12_text 44 rfl
theorem dX12_text_90 : decode cX12_text 90 = .ok (.aload_n 0, 1) := getB' kX12_text 45 rfl
theorem dX12_text_91 : decode cX12_text 91 = .ok (.bipush 59, 2) := getB' kX12_text 46 rfl
theorem dX12_text_93 : decode cX12_text 93 = .ok (.invokevirtual 532, 3) := getB' kX12_text 47 rfl
theorem dX12_text_96 : decode cX12_text 96 = .ok (.ifCond .eq 14, 3) := getB' kX12_text 48 rfl
theorem dX12_text_99 : decode cX12_text 99 = .ok (.aload_n 0, 1) := getB' kX12_text 49 rfl
theorem dX12_text_100 : decode cX12_text 100 = .ok (.invokevirtual 538, 3) := getB' kX12_text 50 rfl
theorem dX12_text_103 : decode cX12_text 103 = .ok (.ifCond .eq 7, 3) := getB' kX12_text 51 rfl
theorem dX12_text_106 : decode cX12_text 106 = .ok (.iconst 1, 1) := getB' kX12_text 52 rfl
theorem dX12_text_107 : decode cX12_text 107 = .ok (.goto 4, 3) := getB' kX12_text 53 rfl
theorem dX12_text_110 : decode cX12_text 110 = .ok (.iconst 0, 1) := getB' kX12_text 54 rfl
theorem dX12_text_111 : decode cX12_text 111 = .ok (.istore 4, 2) := getB' kX12_text 55 rfl
theorem dX12_text_113 : decode cX12_text 113 = .ok (.goto (-39), 3) := getB' kX12_text 56 rfl
theorem dX12_text_116 : decode cX12_text 116 = .ok (.aload_n 0, 1) := getB' kX12_text 57 rfl
theorem dX12_text_117 : decode cX12_text 117 = .ok (.iconst 0, 1) := getB' kX12_text 58 rfl
theorem dX12_text_118 : decode cX12_text 118 = .ok (.putfield 436, 3) := getB' kX12_text 59 rfl
theorem dX12_text_121 : decode cX12_text 121 = .ok (.iload 4, 2) := getB' kX12_text 60 rfl
theorem dX12_text_123 : decode cX12_text 123 = .ok (.ifCond .ne 8, 3) := getB' kX12_text 61 rfl
theorem dX12_text_126 : decode cX12_text 126 = .ok (.aload_n 0, 1) := getB' kX12_text 62 rfl
theorem dX12_text_127 : decode cX12_text 127 = .ok (.getfield 453, 3) := getB' kX12_text 63 rfl
theorem dX12_text_130 : decode cX12_text 130 = .ok (.ireturn, 1) := getB' kX12_text 64 rfl
theorem dX12_text_131 : decode cX12_text 131 = .ok (.aload_n 0, 1) := getB' kX12_text 65 rfl
theorem dX12_text_132 : decode cX12_text 132 = .ok (.getfield 118, 3) := getB' kX12_text 66 rfl
theorem dX12_text_135 : decode cX12_text 135 = .ok (.aload_n 0, 1) := getB' kX12_text 67 rfl
theorem dX12_text_136 : decode cX12_text 136 = .ok (.getfield 535, 3) := getB' kX12_text 68 rfl
theorem dX12_text_139 : decode cX12_text 139 = .ok (.iload_n 1, 1) := getB' kX12_text 69 rfl
theorem dX12_text_140 : decode cX12_text 140 = .ok (.iastore, 1) := getB' kX12_text 70 rfl
theorem dX12_text_141 : decode cX12_text 141 = .ok (.aload_n 0, 1) := getB' kX12_text 71 rfl
theorem dX12_text_142 : decode cX12_text 142 = .ok (.getfield 121, 3) := getB' kX12_text 72 rfl
theorem dX12_text_145 : decode cX12_text 145 = .ok (.aload_n 0, 1) := getB' kX12_text 73 rfl
theorem dX12_text_146 : decode cX12_text 146 = .ok (.getfield 535, 3) := getB' kX12_text 74 rfl
theorem dX12_text_149 : decode cX12_text 149 = .ok (.iload_n 2, 1) := getB' kX12_text 75 rfl
theorem dX12_text_150 : decode cX12_text 150 = .ok (.iastore, 1) := getB' kX12_text 76 rfl
theorem dX12_text_151 : decode cX12_text 151 = .ok (.aload_n 0, 1) := getB' kX12_text 77 rfl
theorem dX12_text_152 : decode cX12_text 152 = .ok (.getfield 115, 3) := getB' kX12_text 78 rfl
theorem dX12_text_155 : decode cX12_text 155 = .ok (.aload_n 0, 1) := getB' kX12_text 79 rfl
theorem dX12_text_156 : decode cX12_text 156 = .ok (.getfield 535, 3) := getB' kX12_text 80 rfl
theorem dX12_text_159 : decode cX12_text 159 = .ok (.aload_n 0, 1) := getB' kX12_text 81 rfl
theorem dX12_text_160 : decode cX12_text 160 = .ok (.getfield 526, 3) := getB' kX12_text 82 rfl
theorem dX12_text_163 : decode cX12_text 163 = .ok (.iastore, 1) := getB' kX12_text 83 rfl
theorem dX12_text_164 : decode cX12_text 164 = .ok (.iconst 0, 1) := getB' kX12_text 84 rfl
theorem dX12_text_165 : decode cX12_text 165 = .ok (.istore 5, 2) := getB' kX12_text 85 rfl
theorem dX12_text_167 : decode cX12_text 167 = .ok (.iload 5, 2) := getB' kX12_text 86 rfl
theorem dX12_text_169 : decode cX12_text 169 = .ok (.aload_n 0, 1) := getB' kX12_text 87 rfl
theorem dX12_text_170 : decode cX12_text 170 = .ok (.getfield 466, 3) := getB' kX12_text 88 rfl
theorem dX12_text_173 : decode cX12_text 173 = .ok (.if_icmp .ge 32, 3) := getB' kX12_text 89 rfl
theorem dX12_text_176 : decode cX12_text 176 = .ok (.aload_n 0, 1) := getB' kX12_text 90 rfl
theorem dX12_text_177 : decode cX12_text 177 = .ok (.getfield 112, 3) := getB' kX12_text 91 rfl
theorem dX12_text_180 : decode cX12_text 180 = .ok (.sipush 220, 3) := getB' kX12_text 92 rfl
theorem dX12_text_183 : decode cX12_text 183 = .ok (.aload_n 0, 1) := getB' kX12_text 93 rfl
theorem dX12_text_184 : decode cX12_text 184 = .ok (.getfield 535, 3) := getB' kX12_text 94 rfl
theorem dX12_text_187 : decode cX12_text 187 = .ok (.imul, 1) := getB' kX12_text 95 rfl
theorem dX12_text_188 : decode cX12_text 188 = .ok (.iload 5, 2) := getB' kX12_text 96 rfl
theorem dX12_text_190 : decode cX12_text 190 = .ok (.iadd, 1) := getB' kX12_text 97 rfl
theorem dX12_text_191 : decode cX12_text 191 = .ok (.aload_n 0, 1) := getB' kX12_text 98 rfl
theorem dX12_text_192 : decode cX12_text 192 = .ok (.getfield 88, 3) := getB' kX12_text 99 rfl
theorem dX12_text_195 : decode cX12_text 195 = .ok (.iload 5, 2) := getB' kX12_text 100 rfl
theorem dX12_text_197 : decode cX12_text 197 = .ok (.iaload, 1) := getB' kX12_text 101 rfl
theorem dX12_text_198 : decode cX12_text 198 = .ok (.iastore, 1) := getB' kX12_text 102 rfl
theorem dX12_text_199 : decode cX12_text 199 = .ok (.iinc 5 1, 3) := getB' kX12_text 103 rfl
theorem dX12_text_202 : decode cX12_text 202 = .ok (.goto (-35), 3) := getB' kX12_text 104 rfl
theorem dX12_text_205 : decode cX12_text 205 = .ok (.iconst 0, 1) := getB' kX12_text 105 rfl
theorem dX12_text_206 : decode cX12_text 206 = .ok (.istore 5, 2) := getB' kX12_text 106 rfl
theorem dX12_text_208 : decode cX12_text 208 = .ok (.iload 5, 2) := getB' kX12_text 107 rfl
theorem dX12_text_210 : decode cX12_text 210 = .ok (.aload_n 0, 1) := getB' kX12_text 108 rfl
theorem dX12_text_211 : decode cX12_text 211 = .ok (.getfield 526, 3) := getB' kX12_text 109 rfl
theorem dX12_text_214 : decode cX12_text 214 = .ok (.if_icmp .ge 123, 3) := getB' kX12_text 110 rfl
theorem dX12_text_217 : decode cX12_text 217 = .ok (.bipush 12, 2) := getB' kX12_text 111 rfl
theorem dX12_text_219 : decode cX12_text 219 = .ok (.aload_n 0, 1) := getB' kX12_text 112 rfl
theorem dX12_text_220 : decode cX12_text 220 = .ok (.getfield 535, 3) := getB' kX12_text 113 rfl
theorem dX12_text_223 : decode cX12_text 223 = .ok (.imul, 1) := getB' kX12_text 114 rfl
theorem dX12_text_224 : decode cX12_text 224 = .ok (.iload 5, 2) := getB' kX12_text 115 rfl
theorem dX12_text_226 : decode cX12_text 226 = .ok (.iadd, 1) := getB' kX12_text 116 rfl
theorem dX12_text_227 : decode cX12_text 227 = .ok (.istore 6, 2) := getB' kX12_text 117 rfl
theorem dX12_text_229 : decode cX12_text 229 = .ok (.aload_n 0, 1) := getB' kX12_text 118 rfl
theorem dX12_text_230 : decode cX12_text 230 = .ok (.getfield 124, 3) := getB' kX12_text 119 rfl
theorem dX12_text_233 : decode cX12_text 233 = .ok (.iload 6, 2) := getB' kX12_text 120 rfl
theorem dX12_text_235 : decode cX12_text 235 = .ok (.aload_n 0, 1) := getB' kX12_text 121 rfl
theorem dX12_text_236 : decode cX12_text 236 = .ok (.getfield 94, 3) := getB' kX12_text 122 rfl
theorem dX12_text_239 : decode cX12_text 239 = .ok (.iload 5, 2) := getB' kX12_text 123 rfl
theorem dX12_text_241 : decode cX12_text 241 = .ok (.iaload, 1) := getB' kX12_text 124 rfl
theorem dX12_text_242 : decode cX12_text 242 = .ok (.iastore, 1) := getB' kX12_text 125 rfl
theorem dX12_text_243 : decode cX12_text 243 = .ok (.aload_n 0, 1) := getB' kX12_text 126 rfl
theorem dX12_text_244 : decode cX12_text 244 = .ok (.getfield 127, 3) := getB' kX12_text 127 rfl
theorem dX12_text_247 : decode cX12_text 247 = .ok (.iload 6, 2) := getB' kX12_text 128 rfl
theorem dX12_text_249 : decode cX12_text 249 = .ok (.sipush 220, 3) := getB' kX12_text 129 rfl
theorem dX12_text_252 : decode cX12_text 252 = .ok (.aload_n 0, 1) := getB' kX12_text 130 rfl
theorem dX12_text_253 : decode cX12_text 253 = .ok (.getfield 535, 3) := getB' kX12_text 131 rfl
theorem dX12_text_256 : decode cX12_text 256 = .ok (.imul, 1) := getB' kX12_text 132 rfl
theorem dX12_text_257 : decode cX12_text 257 = .ok (.aload_n 0, 1) := getB' kX12_text 133 rfl
theorem dX12_text_258 : decode cX12_text 258 = .ok (.getfield 97, 3) := getB' kX12_text 134 rfl
theorem dX12_text_261 : decode cX12_text 261 = .ok (.iload 5, 2) := getB' kX12_text 135 rfl
theorem dX12_text_263 : decode cX12_text 263 = .ok (.iaload, 1) := getB' kX12_text 136 rfl
theorem dX12_text_264 : decode cX12_text 264 = .ok (.iadd, 1) := getB' kX12_text 137 rfl
theorem dX12_text_265 : decode cX12_text 265 = .ok (.iastore, 1) := getB' kX12_text 138 rfl
theorem dX12_text_266 : decode cX12_text 266 = .ok (.aload_n 0, 1) := getB' kX12_text 139 rfl
theorem dX12_text_267 : decode cX12_text 267 = .ok (.getfield 130, 3) := getB' kX12_text 140 rfl
theorem dX12_text_270 : decode cX12_text 270 = .ok (.iload 6, 2) := getB' kX12_text 141 rfl
theorem dX12_text_272 : decode cX12_text 272 = .ok (.sipush 220, 3) := getB' kX12_text 142 rfl
theorem dX12_text_275 : decode cX12_text 275 = .ok (.aload_n 0, 1) := getB' kX12_text 143 rfl
theorem dX12_text_276 : decode cX12_text 276 = .ok (.getfield 535, 3) := getB' kX12_text 144 rfl
theorem dX12_text_279 : decode cX12_text 279 = .ok (.imul, 1) := getB' kX12_text 145 rfl
theorem dX12_text_280 : decode cX12_text 280 = .ok (.aload_n 0, 1) := getB' kX12_text 146 rfl
theorem dX12_text_281 : decode cX12_text 281 = .ok (.getfield 100, 3) := getB' kX12_text 147 rfl
theorem dX12_text_284 : decode cX12_text 284 = .ok (.iload 5, 2) := getB' kX12_text 148 rfl
theorem dX12_text_286 : decode cX12_text 286 = .ok (.iaload, 1) := getB' kX12_text 149 rfl
theorem dX12_text_287 : decode cX12_text 287 = .ok (.iadd, 1) := getB' kX12_text 150 rfl
theorem dX12_text_288 : decode cX12_text 288 = .ok (.iastore, 1) := getB' kX12_text 151 rfl
theorem dX12_text_289 : decode cX12_text 289 = .ok (.aload_n 0, 1) := getB' kX12_text 152 rfl
theorem dX12_text_290 : decode cX12_text 290 = .ok (.getfield 133, 3) := getB' kX12_text 153 rfl
theorem dX12_text_293 : decode cX12_text 293 = .ok (.iload 6, 2) := getB' kX12_text 154 rfl
theorem dX12_text_295 : decode cX12_text 295 = .ok (.aload_n 0, 1) := getB' kX12_text 155 rfl
theorem dX12_text_296 : decode cX12_text 296 = .ok (.getfield 103, 3) := getB' kX12_text 156 rfl
theorem dX12_text_299 : decode cX12_text 299 = .ok (.iload 5, 2) := getB' kX12_text 157 rfl
theorem dX12_text_301 : decode cX12_text 301 = .ok (.iaload, 1) := getB' kX12_text 158 rfl
theorem dX12_text_302 : decode cX12_text 302 = .ok (.iastore, 1) := getB' kX12_text 159 rfl
theorem dX12_text_303 : decode cX12_text 303 = .ok (.aload_n 0, 1) := getB' kX12_text 160 rfl
theorem dX12_text_304 : decode cX12_text 304 = .ok (.getfield 136, 3) := getB' kX12_text 161 rfl
theorem dX12_text_307 : decode cX12_text 307 = .ok (.iload 6, 2) := getB' kX12_text 162 rfl
theorem dX12_text_309 : decode cX12_text 309 = .ok (.aload_n 0, 1) := getB' kX12_text 163 rfl
theorem dX12_text_310 : decode cX12_text 310 = .ok (.getfield 106, 3) := getB' kX12_text 164 rfl
theorem dX12_text_313 : decode cX12_text 313 = .ok (.iload 5, 2) := getB' kX12_text 165 rfl
theorem dX12_text_315 : decode cX12_text 315 = .ok (.iaload, 1) := getB' kX12_text 166 rfl
theorem dX12_text_316 : decode cX12_text 316 = .ok (.iastore, 1) := getB' kX12_text 167 rfl
theorem dX12_text_317 : decode cX12_text 317 = .ok (.aload_n 0, 1) := getB' kX12_text 168 rfl
theorem dX12_text_318 : decode cX12_text 318 = .ok (.getfield 139, 3) := getB' kX12_text 169 rfl
theorem dX12_text_321 : decode cX12_text 321 = .ok (.iload 6, 2) := getB' kX12_text 170 rfl
theorem dX12_text_323 : decode cX12_text 323 = .ok (.aload_n 0, 1) := getB' kX12_text 171 rfl
theorem dX12_text_324 : decode cX12_text 324 = .ok (.getfield 109, 3) := getB' kX12_text 172 rfl
theorem dX12_text_327 : decode cX12_text 327 = .ok (.iload 5, 2) := getB' kX12_text 173 rfl
theorem dX12_text_329 : decode cX12_text 329 = .ok (.iaload, 1) := getB' kX12_text 174 rfl
theorem dX12_text_330 : decode cX12_text 330 = .ok (.iastore, 1) := getB' kX12_text 175 rfl
theorem dX12_text_331 : decode cX12_text 331 = .ok (.iinc 5 1, 3) := getB' kX12_text 176 rfl
theorem dX12_text_334 : decode cX12_text 334 = .ok (.goto (-126), 3) := getB' kX12_text 177 rfl
theorem dX12_text_337 : decode cX12_text 337 = .ok (.iconst 0, 1) := getB' kX12_text 178 rfl
theorem dX12_text_338 : decode cX12_text 338 = .ok (.istore 5, 2) := getB' kX12_text 179 rfl
theorem dX12_text_340 : decode cX12_text 340 = .ok (.iload 5, 2) := getB' kX12_text 180 rfl
theorem dX12_text_342 : decode cX12_text 342 = .ok (.bipush 9, 2) := getB' kX12_text 181 rfl
theorem dX12_text_344 : decode cX12_text 344 = .ok (.if_icmp .ge 25, 3) := getB' kX12_text 182 rfl
theorem dX12_text_347 : decode cX12_text 347 = .ok (.aload_n 0, 1) := getB' kX12_text 183 rfl
theorem dX12_text_348 : decode cX12_text 348 = .ok (.getfield 142, 3) := getB' kX12_text 184 rfl
theorem dX12_text_351 : decode cX12_text 351 = .ok (.bipush 20, 2) := getB' kX12_text 185 rfl
theorem dX12_text_353 : decode cX12_text 353 = .ok (.iload 5, 2) := getB' kX12_text 186 rfl
theorem dX12_text_355 : decode cX12_text 355 = .ok (.imul, 1) := getB' kX12_text 187 rfl
theorem dX12_text_356 : decode cX12_text 356 = .ok (.aload_n 0, 1) := getB' kX12_text 188 rfl
theorem dX12_text_357 : decode cX12_text 357 = .ok (.getfield 535, 3) := getB' kX12_text 189 rfl
theorem dX12_text_360 : decode cX12_text 360 = .ok (.iadd, 1) := getB' kX12_text 190 rfl
theorem dX12_text_361 : decode cX12_text 361 = .ok (.iconst (-1), 1) := getB' kX12_text 191 rfl
theorem dX12_text_362 : decode cX12_text 362 = .ok (.iastore, 1) := getB' kX12_text 192 rfl
theorem dX12_text_363 : decode cX12_text 363 = .ok (.iinc 5 1, 3) := getB' kX12_text 193 rfl
theorem dX12_text_366 : decode cX12_text 366 = .ok (.goto (-26), 3) := getB' kX12_text 194 rfl
theorem dX12_text_369 : decode cX12_text 369 = .ok (.aload_n 0, 1) := getB' kX12_text 195 rfl
theorem dX12_text_370 : decode cX12_text 370 = .ok (.aload_n 0, 1) := getB' kX12_text 196 rfl
theorem dX12_text_371 : decode cX12_text 371 = .ok (.getfield 535, 3) := getB' kX12_text 197 rfl
theorem dX12_text_374 : decode cX12_text 374 = .ok (.iconst 1, 1) := getB' kX12_text 198 rfl
theorem dX12_text_375 : decode cX12_text 375 = .ok (.iadd, 1) := getB' kX12_text 199 rfl
theorem dX12_text_376 : decode cX12_text 376 = .ok (.putfield 535, 3) := getB' kX12_text 200 rfl
theorem dX12_text_379 : decode cX12_text 379 = .ok (.aload_n 0, 1) := getB' kX12_text 201 rfl
theorem dX12_text_380 : decode cX12_text 380 = .ok (.getfield 535, 3) := getB' kX12_text 202 rfl
theorem dX12_text_383 : decode cX12_text 383 = .ok (.iconst 1, 1) := getB' kX12_text 203 rfl
theorem dX12_text_384 : decode cX12_text 384 = .ok (.isub, 1) := getB' kX12_text 204 rfl
theorem dX12_text_385 : decode cX12_text 385 = .ok (.ireturn, 1) := getB' kX12_text 205 rfl
def LX12_isText : List (Nat × Instr × Nat) := [(0, .iload_n 1, 1), (1, .ifCond .lt 15, 3), (4, .iload_n 1, 1), (5, .aload_n 0, 1), (6, .getfield 535, 3), (9, .if_icmp .ge 7, 3), (12, .iconst 1, 1), (13, .goto 4, 3), (16, .iconst 0, 1), (17, .ireturn, 1)]
theorem kX12_isText : chkB cX12_isText LX12_isText = true := by decide +kernel
theorem dX12_isText_0 : decode cX12_isText 0 = .ok (.iload_n 1, 1) := getB' kX12_isText 0 rfl
theorem dX12_isText_1 : decode cX12_isText 1 = .ok (.ifCond .lt 15, 3) := getB' kX12_isText 1 rfl
theorem dX12_isText_4 : decode cX12_isText 4 = .ok (.iload_n 1, 1) := getB' kX12_isText 2 rfl
theorem dX12_isText_5 : decode cX12_isText 5 = .ok (.aload_n 0, 1) := getB' kX12_isText 3 rfl
theorem dX12_isText_6 : decode cX12_isText 6 = .ok (.getfield 535, 3) := getB' kX12_isText 4 rfl
theorem dX12_isText_9 : decode cX12_isText 9 = .ok (.if_icmp .ge 7, 3) := getB' kX12_isText 5 rfl
theorem dX12_isText_12 : decode cX12_isText 12 = .ok (.iconst 1, 1) := getB' kX12_isText 6 rfl
theorem dX12_isText_13 : decode cX12_isText 13 = .ok (.goto 4, 3) := getB' kX12_isText 7 rfl
theorem dX12_isText_16 : decode cX12_isText 16 = .ok (.iconst 0, 1) := getB' kX12_isText 8 rfl
theorem dX12_isText_17 : decode cX12_isText 17 = .ok (.ireturn, 1) := getB' kX12_isText 9 rfl
def LX12_isClause : List (Nat × Instr × Nat) := [(0, .aload_n 0, 1), (1, .iload_n 1, 1), (2, .invokevirtual 541, 3), (5, .ifCond .eq 21, 3), (8, .iload_n 2, 1), (9, .ifCond .lt 17, 3), (12, .iload_n 2, 1), (13, .aload_n 0, 1), (14, .getfield 115, 3), (17, .iload_n 1, 1), (18, .iaload, 1), (19, .if_icmp .ge 7, 3), (22, .iconst 1, 1), (23, .goto 4, 3), (26, .iconst 0, 1), (27, .ireturn, 1)]
theorem kX12_isClause : chkB cX12_isClause LX12_isClause = true := by decide +kernel
theorem dX12_isClause_0 : decode cX12_isClause 0 = .ok (.aload_n 0, 1) := getB' kX12_isClause 0 rfl
theorem dX12_isClause_1 : decode cX12_isClause 1 = .ok (.iload_n 1, 1) := getB' kX12_isClause 1 rfl
theorem dX12_isClause_2 : decode cX12_isClause 2 = .ok (.invokevirtual 541, 3) := getB' kX12_isClause 2 rfl
theorem dX12_isClause_5 : decode cX12_isClause 5 = .ok (.ifCond .eq 21, 3) := getB' kX12_isClause 3 rfl
theorem dX12_isClause_8 : decode cX12_isClause 8 = .ok (.iload_n 2, 1) := getB' kX12_isClause 4 rfl
theorem dX12_isClause_9 : decode cX12_isClause 9 = .ok (.ifCond .lt 17, 3) := getB' kX12_isClause 5 rfl
theorem dX12_isClause_12 : decode cX12_isClause 12 = .ok (.iload_n 2, 1) := getB' kX12_isClause 6 rfl
theorem dX12_isClause_13 : decode cX12_isClause 13 = .ok (.aload_n 0, 1) := getB' kX12_isClause 7 rfl
theorem dX12_isClause_14 : decode cX12_isClause 14 = .ok (.getfield 115, 3) := getB' kX12_isClause 8 rfl
theorem dX12_isClause_17 : decode cX12_isClause 17 = .ok (.iload_n 1, 1) := getB' kX12_isClause 9 rfl
theorem dX12_isClause_18 : decode cX12_isClause 18 = .ok (.iaload, 1) := getB' kX12_isClause 10 rfl
theorem dX12_isClause_19 : decode cX12_isClause 19 = .ok (.if_icmp .ge 7, 3) := getB' kX12_isClause 11 rfl
theorem dX12_isClause_22 : decode cX12_isClause 22 = .ok (.iconst 1, 1) := getB' kX12_isClause 12 rfl
theorem dX12_isClause_23 : decode cX12_isClause 23 = .ok (.goto 4, 3) := getB' kX12_isClause 13 rfl
theorem dX12_isClause_26 : decode cX12_isClause 26 = .ok (.iconst 0, 1) := getB' kX12_isClause 14 rfl
theorem dX12_isClause_27 : decode cX12_isClause 27 = .ok (.ireturn, 1) := getB' kX12_isClause 15 rfl
def LX12_yes : List (Nat × Instr × Nat) := [(0, .aload_n 0, 1), (1, .iload_n 1, 1), (2, .invokevirtual 406, 3), (5, .ifCond .eq 30, 3), (8, .aload_n 0, 1), (9, .iload_n 2, 1), (10, .invokevirtual 541, 3), (13, .ifCond .eq 22, 3), (16, .iload_n 2, 1), (17, .ifCond .eq 18, 3), (20, .aload_n 0, 1), (21, .getfield 142, 3), (24, .bipush 20, 2), (26, .iload_n 1, 1), (27, .imul, 1), (28, .iload_n 2, 1), (29, .iadd, 1), (30, .iaload, 1), (31, .iconst (-1), 1), (32, .if_icmp .eq 5, 3), (35, .iconst 0, 1), (36, .ireturn, 1), (37, .aload_n 0, 1), (38, .getfield 142, 3), (41, .bipush 20, 2), (43, .iload_n 1, 1), (44, .imul, 1), (45, .iload_n 2, 1), (46, .iadd, 1), (47, .aload_n 0, 1), (48, .getfield 396, 3), (51, .iastore, 1), (52, .iconst 1, 1), (53, .ireturn, 1)]
theorem kX12_yes : chkB cX12_yes LX12_yes = true := by decide +kernel
theorem dX12_yes_0 : decode cX12_yes 0 = .ok (.aload_n 0, 1) := getB' kX12_yes 0 rfl
theorem dX12_yes_1 : decode cX12_yes 1 = .ok (.iload_n 1, 1) := getB' kX12_yes 1 rfl
theorem dX12_yes_2 : decode cX12_yes 2 = .ok (.invokevirtual 406, 3) := getB' kX12_yes 2 rfl
theorem dX12_yes_5 : decode cX12_yes 5 = .ok (.ifCond .eq 30, 3) := getB' kX12_yes 3 rfl
theorem dX12_yes_8 : decode cX12_yes 8 = .ok (.aload_n 0, 1) := getB' kX12_yes 4 rfl
theorem dX12_yes_9 : decode cX12_yes 9 = .ok (.iload_n 2, 1) := getB' kX12_yes 5 rfl
theorem dX12_yes_10 : decode cX12_yes 10 = .ok (.invokevirtual 541, 3) := getB' kX12_yes 6 rfl
theorem dX12_yes_13 : decode cX12_yes 13 = .ok (.ifCond .eq 22, 3) := getB' kX12_yes 7 rfl
theorem dX12_yes_16 : decode cX12_yes 16 = .ok (.iload_n 2, 1) := getB' kX12_yes 8 rfl
theorem dX12_yes_17 : decode cX12_yes 17 = .ok (.ifCond .eq 18, 3) := getB' kX12_yes 9 rfl
theorem dX12_yes_20 : decode cX12_yes 20 = .ok (.aload_n 0, 1) := getB' kX12_yes 10 rfl
theorem dX12_yes_21 : decode cX12_yes 21 = .ok (.getfield 142, 3) := getB' kX12_yes 11 rfl
theorem dX12_yes_24 : decode cX12_yes 24 = .ok (.bipush 20, 2) := getB' kX12_yes 12 rfl
theorem dX12_yes_26 : decode cX12_yes 26 = .ok (.iload_n 1, 1) := getB' kX12_yes 13 rfl
theorem dX12_yes_27 : decode cX12_yes 27 = .ok (.imul, 1) := getB' kX12_yes 14 rfl
theorem dX12_yes_28 : decode cX12_yes 28 = .ok (.iload_n 2, 1) := getB' kX12_yes 15 rfl
theorem dX12_yes_29 : decode cX12_yes 29 = .ok (.iadd, 1) := getB' kX12_yes 16 rfl
theorem dX12_yes_30 : decode cX12_yes 30 = .ok (.iaload, 1) := getB' kX12_yes 17 rfl
theorem dX12_yes_31 : decode cX12_yes 31 = .ok (.iconst (-1), 1) := getB' kX12_yes 18 rfl
theorem dX12_yes_32 : decode cX12_yes 32 = .ok (.if_icmp .eq 5, 3) := getB' kX12_yes 19 rfl
theorem dX12_yes_35 : decode cX12_yes 35 = .ok (.iconst 0, 1) := getB' kX12_yes 20 rfl
theorem dX12_yes_36 : decode cX12_yes 36 = .ok (.ireturn, 1) := getB' kX12_yes 21 rfl
theorem dX12_yes_37 : decode cX12_yes 37 = .ok (.aload_n 0, 1) := getB' kX12_yes 22 rfl
theorem dX12_yes_38 : decode cX12_yes 38 = .ok (.getfield 142, 3) := getB' kX12_yes 23 rfl
theorem dX12_yes_41 : decode cX12_yes 41 = .ok (.bipush 20, 2) := getB' kX12_yes 24 rfl
theorem dX12_yes_43 : decode cX12_yes 43 = .ok (.iload_n 1, 1) := getB' kX12_yes 25 rfl
theorem dX12_yes_44 : decode cX12_yes 44 = .ok (.imul, 1) := getB' kX12_yes 26 rfl
theorem dX12_yes_45 : decode cX12_yes 45 = .ok (.iload_n 2, 1) := getB' kX12_yes 27 rfl
theorem dX12_yes_46 : decode cX12_yes 46 = .ok (.iadd, 1) := getB' kX12_yes 28 rfl
theorem dX12_yes_47 : decode cX12_yes 47 = .ok (.aload_n 0, 1) := getB' kX12_yes 29 rfl
theorem dX12_yes_48 : decode cX12_yes 48 = .ok (.getfield 396, 3) := getB' kX12_yes 30 rfl
theorem dX12_yes_51 : decode cX12_yes 51 = .ok (.iastore, 1) := getB' kX12_yes 31 rfl
theorem dX12_yes_52 : decode cX12_yes 52 = .ok (.iconst 1, 1) := getB' kX12_yes 32 rfl
theorem dX12_yes_53 : decode cX12_yes 53 = .ok (.ireturn, 1) := getB' kX12_yes 33 rfl
def LX12_reading : List (Nat × Instr × Nat) := [(0, .aload_n 0, 1), (1, .iload_n 1, 1), (2, .invokevirtual 406, 3), (5, .ifCond .eq 58, 3), (8, .aload_n 0, 1), (9, .iload_n 2, 1), (10, .iload_n 3, 1), (11, .invokevirtual 544, 3), (14, .ifCond .eq 49, 3), (17, .aload_n 0, 1), (18, .getfield 124, 3), (21, .bipush 12, 2), (23, .iload_n 2, 1), (24, .imul, 1), (25, .iload_n 3, 1), (26, .iadd, 1), (27, .iaload, 1), (28, .invokestatic 520, 3), (31, .ifCond .eq 32, 3), (34, .iload 4, 2), (36, .iconst 1, 1), (37, .bipush 100, 2), (39, .invokestatic 371, 3), (42, .ifCond .eq 21, 3), (45, .iload 4, 2), (47, .aload_n 0, 1), (48, .getfield 436, 3), (51, .if_icmp .gt 12, 3), (54, .aload_n 0, 1), (55, .getfield 547, 3), (58, .bipush 20, 2), (60, .if_icmp .ne 5, 3), (63, .iconst (-1), 1), (64, .ireturn, 1), (65, .aload_n 0, 1), (66, .iconst 0, 1), (67, .putfield 443, 3), (70, .aload_n 0, 1), (71, .iload 4, 2), (73, .putfield 446, 3), (76, .aload_n 0, 1), (77, .iconst 0, 1), (78, .putfield 466, 3), (81, .aload_n 0, 1), (82, .invokevirtual 529, 3), (85, .ifCond .eq 30, 3), (88, .aload_n 0, 1), (89, .getfield 443, 3), (92, .aload_n 0, 1), (93, .getfield 446, 3), (96, .if_icmp .eq 15, 3), (99, .aload_n 0, 1), (100, .iconst 1, 1), (101, .aload_n 0, 1), (102, .getfield 443, 3), (105, .invokevirtual 456, 3), (108, .ifCond .eq 7, 3), (111, .iconst 1, 1), (112, .goto 4, 3), (115, .iconst 0, 1), (116, .istore 5, 2), (118, .aload_n 0, 1), (119, .iconst 0, 1), (120, .putfield 436, 3), (123, .iload 5, 2), (125, .ifCond .ne 8, 3), (128, .aload_n 0, 1), (129, .getfield 453, 3), (132, .ireturn, 1), (133, .aload_n 0, 1), (134, .getfield 151, 3), (137, .aload_n 0, 1), (138, .getfield 547, 3), (141, .iload_n 1, 1), (142, .iastore, 1), (143, .aload_n 0, 1), (144, .getfield 154, 3), (147, .aload_n 0, 1), (148, .getfield 547, 3), (151, .bipush 12, 2), (153, .iload_n 2, 1), (154, .imul, 1), (155, .iload_n 3, 1), (156, .iadd, 1), (157, .iastore, 1), (158, .aload_n 0, 1), (159, .getfield 148, 3), (162, .aload_n 0, 1), (163, .getfield 547, 3), (166, .aload_n 0, 1), (167, .getfield 466, 3), (170, .iastore, 1), (171, .iconst 0, 1), (172, .istore 6, 2), (174, .iload 6, 2), (176, .aload_n 0, 1), (177, .getfield 466, 3), (180, .if_icmp .ge 31, 3), (183, .aload_n 0, 1), (184, .getfield 145, 3), (187, .bipush 110, 2), (189, .aload_n 0, 1), (190, .getfield 547, 3), (193, .imul, 1), (194, .iload 6, 2), (196, .iadd, 1), (197, .aload_n 0, 1), (198, .getfield 88, 3), (201, .iload 6, 2), (203, .iaload, 1), (204, .iastore, 1), (205, .iinc 6 1, 3), (208, .goto (-34), 3), (211, .aload_n 0, 1), (212, .aload_n 0, 1), (213, .getfield 547, 3), (216, .iconst 1, 1), (217, .iadd, 1), (218, .putfield 547, 3), (221, .iconst 0, 1), (222, .ireturn, 1)]
theorem kX12_reading : chkB cX12_reading LX12_reading = true := by decide +kernel
theorem dX12_reading_0 : decode cX12_reading 0 = .ok (.aload_n 0, 1) := getB' kX12_reading 0 rfl
theorem dX12_reading_1 : decode cX12_reading 1 = .ok (.iload_n 1, 1) := getB' kX12_reading 1 rfl
theorem dX12_reading_2 : decode cX12_reading 2 = .ok (.invokevirtual 406, 3) := getB' kX12_reading 2 rfl
theorem dX12_reading_5 : decode cX12_reading 5 = .ok (.ifCond .eq 58, 3) := getB' kX12_reading 3 rfl
theorem dX12_reading_8 : decode cX12_reading 8 = .ok (.aload_n 0, 1) := getB' kX12_reading 4 rfl
theorem dX12_reading_9 : decode cX12_reading 9 = .ok (.iload_n 2, 1) := getB' kX12_reading 5 rfl
theorem dX12_reading_10 : decode cX12_reading 10 = .ok (.iload_n 3, 1) := getB' kX12_reading 6 rfl
theorem dX12_reading_11 : decode cX12_reading 11 = .ok (.invokevirtual 544, 3) := getB' kX12_reading 7 rfl
theorem dX12_reading_14 : decode cX12_reading 14 = .ok (.ifCond .eq 49, 3) := getB' kX12_reading 8 rfl
theorem dX12_reading_17 : decode cX12_reading 17 = .ok (.aload_n 0, 1) := getB' kX12_reading 9 rfl
theorem dX12_reading_18 : decode cX12_reading 18 = .ok (.getfield 124, 3) := getB' kX12_reading 10 rfl
theorem dX12_reading_21 : decode cX12_reading 21 = .ok (.bipush 12, 2) := getB' kX12_reading 11 rfl
theorem dX12_reading_23 : decode cX12_reading 23 = .ok (.iload_n 2, 1) := getB' kX12_reading 12 rfl
theorem dX12_reading_24 : decode cX12_reading 24 = .ok (.imul, 1) := getB' kX12_reading 13 rfl
theorem dX12_reading_25 : decode cX12_reading 25 = .ok (.iload_n 3, 1) := getB' kX12_reading 14 rfl
theorem dX12_reading_26 : decode cX12_reading 26 = .ok (.iadd, 1) := getB' kX12_reading 15 rfl
theorem dX12_reading_27 : decode cX12_reading 27 = .ok (.iaload, 1) := getB' kX12_reading 16 rfl
theorem dX12_reading_28 : decode cX12_reading 28 = .ok (.invokestatic 520, 3) := getB' kX12_reading 17 rfl
theorem dX12_reading_31 : decode cX12_reading 31 = .ok (.ifCond .eq 32, 3) := getB' kX12_reading 18 rfl
theorem dX12_reading_34 : decode cX12_reading 34 = .ok (.iload 4, 2) := getB' kX12_reading 19 rfl
theorem dX12_reading_36 : decode cX12_reading 36 = .ok (.iconst 1, 1) := getB' kX12_reading 20 rfl
theorem dX12_reading_37 : decode cX12_reading 37 = .ok (.bipush 100, 2) := getB' kX12_reading 21 rfl
theorem dX12_reading_39 : decode cX12_reading 39 = .ok (.invokestatic 371, 3) := getB' kX12_reading 22 rfl
theorem dX12_reading_42 : decode cX12_reading 42 = .ok (.ifCond .eq 21, 3) := getB' kX12_reading 23 rfl
theorem dX12_reading_45 : decode cX12_reading 45 = .ok (.iload 4, 2) := getB' kX12_reading 24 rfl
theorem dX12_reading_47 : decode cX12_reading 47 = .ok (.aload_n 0, 1) := getB' kX12_reading 25 rfl
theorem dX12_reading_48 : decode cX12_reading 48 = .ok (.getfield 436, 3) := getB' kX12_reading 26 rfl
theorem dX12_reading_51 : decode cX12_reading 51 = .ok (.if_icmp .gt 12, 3) := getB' kX12_reading 27 rfl
theorem dX12_reading_54 : decode cX12_reading 54 = .ok (.aload_n 0, 1) := getB' kX12_reading 28 rfl
theorem dX12_reading_55 : decode cX12_reading 55 = .ok (.getfield 547, 3) := getB' kX12_reading 29 rfl
theorem dX12_reading_58 : decode cX12_reading 58 = .ok (.bipush 20, 2) := getB' kX12_reading 30 rfl
theorem dX12_reading_60 : decode cX12_reading 60 = .ok (.if_icmp .ne 5, 3) := getB' kX12_reading 31 rfl
theorem dX12_reading_63 : decode cX12_reading 63 = .ok (.iconst (-1), 1) := getB' kX12_reading 32 rfl
theorem dX12_reading_64 : decode cX12_reading 64 = .ok (.ireturn, 1) := getB' kX12_reading 33 rfl
theorem dX12_reading_65 : decode cX12_reading 65 = .ok (.aload_n 0, 1) := getB' kX12_reading 34 rfl
theorem dX12_reading_66 : decode cX12_reading 66 = .ok (.iconst 0, 1) := getB' kX12_reading 35 rfl
theorem dX12_reading_67 : decode cX12_reading 67 = .ok (.putfield 443, 3) := getB' kX12_reading 36 rfl
theorem dX12_reading_70 : decode cX12_reading 70 = .ok (.aload_n 0, 1) := getB' kX12_reading 37 rfl
theorem dX12_reading_71 : decode cX12_reading 71 = .ok (.iload 4, 2) := getB' kX12_reading 38 rfl
theorem dX12_reading_73 : decode cX12_reading 73 = .ok (.putfield 446, 3) := getB' kX12_reading 39 rfl
theorem dX12_reading_76 : decode cX12_reading 76 = .ok (.aload_n 0, 1) := getB' kX12_reading 40 rfl
theorem dX12_reading_77 : decode cX12_reading 77 = .ok (.iconst 0, 1) := getB' kX12_reading 41 rfl
theorem dX12_reading_78 : decode cX12_reading 78 = .ok (.putfield 466, 3) := getB' kX12_reading 42 rfl
theorem dX12_reading_81 : decode cX12_reading 81 = .ok (.aload_n 0, 1) := getB' kX12_reading 43 rfl
theorem dX12_reading_82 : decode cX12_reading 82 = .ok (.invokevirtual 529, 3) := getB' kX12_reading 44 rfl
theorem dX12_reading_85 : decode cX12_reading 85 = .ok (.ifCond .eq 30, 3) := getB' kX12_reading 45 rfl
theorem dX12_reading_88 : decode cX12_reading 88 = .ok (.aload_n 0, 1) := getB' kX12_reading 46 rfl
theorem dX12_reading_89 : decode cX12_reading 89 = .ok (.getfield 443, 3) := getB' kX12_reading 47 rfl
theorem dX12_reading_92 : decode cX12_reading 92 = .ok (.aload_n 0, 1) := getB' kX12_reading 48 rfl
theorem dX12_reading_93 : decode cX12_reading 93 = .ok (.getfield 446, 3) := getB' kX12_reading 49 rfl
theorem dX12_reading_96 : decode cX12_reading 96 = .ok (.if_icmp .eq 15, 3) := getB' kX12_reading 50 rfl
theorem dX12_reading_99 : decode cX12_reading 99 = .ok (.aload_n 0, 1) := getB' kX12_reading 51 rfl
theorem dX12_reading_100 : decode cX12_reading 100 = .ok (.iconst 1, 1) := getB' kX12_reading 52 rfl
theorem dX12_reading_101 : decode cX12_reading 101 = .ok (.aload_n 0, 1) := getB' kX12_reading 53 rfl
theorem dX12_reading_102 : decode cX12_reading 102 = .ok (.getfield 443, 3) := getB' kX12_reading 54 rfl
theorem dX12_reading_105 : decode cX12_reading 105 = .ok (.invokevirtual 456, 3) := getB' kX12_reading 55 rfl
theorem dX12_reading_108 : decode cX12_reading 108 = .ok (.ifCond .eq 7, 3) := getB' kX12_reading 56 rfl
theorem dX12_reading_111 : decode cX12_reading 111 = .ok (.iconst 1, 1) := getB' kX12_reading 57 rfl
theorem dX12_reading_112 : decode cX12_reading 112 = .ok (.goto 4, 3) := getB' kX12_reading 58 rfl
theorem dX12_reading_115 : decode cX12_reading 115 = .ok (.iconst 0, 1) := getB' kX12_reading 59 rfl
theorem dX12_reading_116 : decode cX12_reading 116 = .ok (.istore 5, 2) := getB' kX12_reading 60 rfl
theorem dX12_reading_118 : decode cX12_reading 118 = .ok (.aload_n 0, 1) := getB' kX12_reading 61 rfl
theorem dX12_reading_119 : decode cX12_reading 119 = .ok (.iconst 0, 1) := getB' kX12_reading 62 rfl
theorem dX12_reading_120 : decode cX12_reading 120 = .ok (.putfield 436, 3) := getB' kX12_reading 63 rfl
theorem dX12_reading_123 : decode cX12_reading 123 = .ok (.iload 5, 2) := getB' kX12_reading 64 rfl
theorem dX12_reading_125 : decode cX12_reading 125 = .ok (.ifCond .ne 8, 3) := getB' kX12_reading 65 rfl
theorem dX12_reading_128 : decode cX12_reading 128 = .ok (.aload_n 0, 1) := getB' kX12_reading 66 rfl
theorem dX12_reading_129 : decode cX12_reading 129 = .ok (.getfield 453, 3) := getB' kX12_reading 67 rfl
theorem dX12_reading_132 : decode cX12_reading 132 = .ok (.ireturn, 1) := getB' kX12_reading 68 rfl
theorem dX12_reading_133 : decode cX12_reading 133 = .ok (.aload_n 0, 1) := getB' kX12_reading 69 rfl
theorem dX12_reading_134 : decode cX12_reading 134 = .ok (.getfield 151, 3) := getB' kX12_reading 70 rfl
theorem dX12_reading_137 : decode cX12_reading 137 = .ok (.aload_n 0, 1) := getB' kX12_reading 71 rfl
theorem dX12_reading_138 : decode cX12_reading 138 = .ok (.getfield 547, 3) := getB' kX12_reading 72 rfl
theorem dX12_reading_141 : decode cX12_reading 141 = .ok (.iload_n 1, 1) := getB' kX12_reading 73 rfl
theorem dX12_reading_142 : decode cX12_reading 142 = .ok (.iastore, 1) := getB' kX12_reading 74 rfl
theorem dX12_reading_143 : decode cX12_reading 143 = .ok (.aload_n 0, 1) := getB' kX12_reading 75 rfl
theorem dX12_reading_144 : decode cX12_reading 144 = .ok (.getfield 154, 3) := getB' kX12_reading 76 rfl
theorem dX12_reading_147 : decode cX12_reading 147 = .ok (.aload_n 0, 1) := getB' kX12_reading 77 rfl
theorem dX12_reading_148 : decode cX12_reading 148 = .ok (.getfield 547, 3) := getB' kX12_reading 78 rfl
theorem dX12_reading_151 : decode cX12_reading 151 = .ok (.bipush 12, 2) := getB' kX12_reading 79 rfl
theorem dX12_reading_153 : decode cX12_reading 153 = .ok (.iload_n 2, 1) := getB' kX12_reading 80 rfl
theorem dX12_reading_154 : decode cX12_reading 154 = .ok (.imul, 1) := getB' kX12_reading 81 rfl
theorem dX12_reading_155 : decode cX12_reading 155 = .ok (.iload_n 3, 1) := getB' kX12_reading 82 rfl
theorem dX12_reading_156 : decode cX12_reading 156 = .ok (.iadd, 1) := getB' kX12_reading 83 rfl
theorem dX12_reading_157 : decode cX12_reading 157 = .ok (.iastore, 1) := getB' kX12_reading 84 rfl
theorem dX12_reading_158 : decode cX12_reading 158 = .ok (.aload_n 0, 1) := getB' kX12_reading 85 rfl
theorem dX12_reading_159 : decode cX12_reading 159 = .ok (.getfield 148, 3) := getB' kX12_reading 86 rfl
theorem dX12_reading_162 : decode cX12_reading 162 = .ok (.aload_n 0, 1) := getB' kX12_reading 87 rfl
theorem dX12_reading_163 : decode cX12_reading 163 = .ok (.getfield 547, 3) := getB' kX12_reading 88 rfl
theorem dX12_reading_166 : decode cX12_reading 166 = .ok (.aload_n 0, 1) := getB' kX12_reading 89 rfl
theorem dX12_reading_167 : decode cX12_reading 167 = .ok (.getfield 466, 3) := getB' kX12_reading 90 rfl
theorem dX12_reading_170 : decode cX12_reading 170 = .ok (.iastore, 1) := getB' kX12_reading 91 rfl
theorem dX12_reading_171 : decode cX12_reading 171 = .ok (.iconst 0, 1) := getB' kX12_reading 92 rfl
theorem dX12_reading_172 : decode cX12_reading 172 = .ok (.istore 6, 2) := getB' kX12_reading 93 rfl
theorem dX12_reading_174 : decode cX12_reading 174 = .ok (.iload 6, 2) := getB' kX12_reading 94 rfl
theorem dX12_reading_176 : decode cX12_reading 176 = .ok (.aload_n 0, 1) := getB' kX12_reading 95 rfl
theorem dX12_reading_177 : decode cX12_reading 177 = .ok (.getfield 466, 3) := getB' kX12_reading 96 rfl
theorem dX12_reading_180 : decode cX12_reading 180 = .ok (.if_icmp .ge 31, 3) := getB' kX12_reading 97 rfl
theorem dX12_reading_183 : decode cX12_reading 183 = .ok (.aload_n 0, 1) := getB' kX12_reading 98 rfl
theorem dX12_reading_184 : decode cX12_reading 184 = .ok (.getfield 145, 3) := getB' kX12_reading 99 rfl
theorem dX12_reading_187 : decode cX12_reading 187 = .ok (.bipush 110, 2) := getB' kX12_reading 100 rfl
theorem dX12_reading_189 : decode cX12_reading 189 = .ok (.aload_n 0, 1) := getB' kX12_reading 101 rfl
theorem dX12_reading_190 : decode cX12_reading 190 = .ok (.getfield 547, 3) := getB' kX12_reading 102 rfl
theorem dX12_reading_193 : decode cX12_reading 193 = .ok (.imul, 1) := getB' kX12_reading 103 rfl
theorem dX12_reading_194 : decode cX12_reading 194 = .ok (.iload 6, 2) := getB' kX12_reading 104 rfl
theorem dX12_reading_196 : decode cX12_reading 196 = .ok (.iadd, 1) := getB' kX12_reading 105 rfl
theorem dX12_reading_197 : decode cX12_reading 197 = .ok (.aload_n 0, 1) := getB' kX12_reading 106 rfl
theorem dX12_reading_198 : decode cX12_reading 198 = .ok (.getfield 88, 3) := getB' kX12_reading 107 rfl
theorem dX12_reading_201 : decode cX12_reading 201 = .ok (.iload 6, 2) := getB' kX12_reading 108 rfl
theorem dX12_reading_203 : decode cX12_reading 203 = .ok (.iaload, 1) := getB' kX12_reading 109 rfl
theorem dX12_reading_204 : decode cX12_reading 204 = .ok (.iastore, 1) := getB' kX12_reading 110 rfl
theorem dX12_reading_205 : decode cX12_reading 205 = .ok (.iinc 6 1, 3) := getB' kX12_reading 111 rfl
theorem dX12_reading_208 : decode cX12_reading 208 = .ok (.goto (-34), 3) := getB' kX12_reading 112 rfl
theorem dX12_reading_211 : decode cX12_reading 211 = .ok (.aload_n 0, 1) := getB' kX12_reading 113 rfl
theorem dX12_reading_212 : decode cX12_reading 212 = .ok (.aload_n 0, 1) := getB' kX12_reading 114 rfl
theorem dX12_reading_213 : decode cX12_reading 213 = .ok (.getfield 547, 3) := getB' kX12_reading 115 rfl
theorem dX12_reading_216 : decode cX12_reading 216 = .ok (.iconst 1, 1) := getB' kX12_reading 116 rfl
theorem dX12_reading_217 : decode cX12_reading 217 = .ok (.iadd, 1) := getB' kX12_reading 117 rfl
theorem dX12_reading_218 : decode cX12_reading 218 = .ok (.putfield 547, 3) := getB' kX12_reading 118 rfl
theorem dX12_reading_221 : decode cX12_reading 221 = .ok (.iconst 0, 1) := getB' kX12_reading 119 rfl
theorem dX12_reading_222 : decode cX12_reading 222 = .ok (.ireturn, 1) := getB' kX12_reading 120 rfl
