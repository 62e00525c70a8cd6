def LX11_goDown_0 : List (Nat × Instr × Nat) := [(0, .aload_n 0, 1), (1, .aload_n 0, 1), (2, .getfield 79, 3), (5, .iload_n 1, 1), (6, .iconst 0, 1), (7, .invokevirtual 209, 3), (10, .iconst 4, 1), (11, .invokevirtual 169, 3), (14, .astore_n 2, 1), (15, .aload_n 2, 1), (16, .ifnonnull 4, 3), (19, .return_, 1)]
theorem kX11_goDown_0 : chkB cX11_goDown LX11_goDown_0 = true := by decide +kernel
theorem dX11_goDown_0 : decode cX11_goDown 0 = .ok (.aload_n 0, 1) := getB' kX11_goDown_0 0 rfl
theorem dX11_goDown_1 : decode cX11_goDown 1 = .ok (.aload_n 0, 1) := getB' kX11_goDown_0 1 rfl
theorem dX11_goDown_2 : decode cX11_goDown 2 = .ok (.getfield 79, 3) := getB' kX11_goDown_0 2 rfl
theorem dX11_goDown_5 : decode cX11_goDown 5 = .ok (.iload_n 1, 1) := getB' kX11_goDown_0 3 rfl
theorem dX11_goDown_6 : decode cX11_goDown 6 = .ok (.iconst 0, 1) := getB' kX11_goDown_0 4 rfl
theorem dX11_goDown_7 : decode cX11_goDown 7 = .ok (.invokevirtual 209, 3) := getB' kX11_goDown_0 5 rfl
theorem dX11_goDown_10 : decode cX11_goDown 10 = .ok (.iconst 4, 1) := getB' kX11_goDown_0 6 rfl
theorem dX11_goDown_11 : decode cX11_goDown 11 = .ok (.invokevirtual 169, 3) := getB' kX11_goDown_0 7 rfl
theorem dX11_goDown_14 : decode cX11_goDown 14 = .ok (.astore_n 2, 1) := getB' kX11_goDown_0 8 rfl
theorem dX11_goDown_15 : decode cX11_goDown 15 = .ok (.aload_n 2, 1) := getB' kX11_goDown_0 9 rfl
theorem dX11_goDown_16 : decode cX11_goDown 16 = .ok (.ifnonnull 4, 3) := getB' kX11_goDown_0 10 rfl
theorem dX11_goDown_19 : decode cX11_goDown 19 = .ok (.return_, 1) := getB' kX11_goDown_0 11 rfl
def LX11_goDown_1 : List (Nat × Instr × Nat) := [(20, .aload_n 0, 1), (21, .getfield 79, 3), (24, .iload_n 1, 1), (25, .iconst 2, 1), (26, .invokevirtual 209, 3), (29, .istore_n 3, 1), (30, .iload_n 3, 1), (31, .sipush 500, 3), (34, .idiv, 1), (35, .bipush 9, 2), (37, .invokestatic 479, 3), (40, .istore 4, 2)]
theorem kX11_goDown_1 : chkB cX11_goDown LX11_goDown_1 = true := by decide +kernel
theorem dX11_goDown_20 : decode cX11_goDown 20 = .ok (.aload_n 0, 1) := getB' kX11_goDown_1 0 rfl
theorem dX11_goDown_21 : decode cX11_goDown 21 = .ok (.getfield 79, 3) := getB' kX11_goDown_1 1 rfl
theorem dX11_goDown_24 : decode cX11_goDown 24 = .ok (.iload_n 1, 1) := getB' kX11_goDown_1 2 rfl
theorem dX11_goDown_25 : decode cX11_goDown 25 = .ok (.iconst 2, 1) := getB' kX11_goDown_1 3 rfl
theorem dX11_goDown_26 : decode cX11_goDown 26 = .ok (.invokevirtual 209, 3) := getB' kX11_goDown_1 4 rfl
theorem dX11_goDown_29 : decode cX11_goDown 29 = .ok (.istore_n 3, 1) := getB' kX11_goDown_1 5 rfl
theorem dX11_goDown_30 : decode cX11_goDown 30 = .ok (.iload_n 3, 1) := getB' kX11_goDown_1 6 rfl
theorem dX11_goDown_31 : decode cX11_goDown 31 = .ok (.sipush 500, 3) := getB' kX11_goDown_1 7 rfl
theorem dX11_goDown_34 : decode cX11_goDown 34 = .ok (.idiv, 1) := getB' kX11_goDown_1 8 rfl
theorem dX11_goDown_35 : decode cX11_goDown 35 = .ok (.bipush 9, 2) := getB' kX11_goDown_1 9 rfl
theorem dX11_goDown_37 : decode cX11_goDown 37 = .ok (.invokestatic 479, 3) := getB' kX11_goDown_1 10 rfl
theorem dX11_goDown_40 : decode cX11_goDown 40 = .ok (.istore 4, 2) := getB' kX11_goDown_1 11 rfl
def LX11_goDown_2 : List (Nat × Instr × Nat) := [(42, .aload_n 2, 1), (43, .invokevirtual 482, 3), (46, .aload_n 0, 1), (47, .getfield 94, 3), (50, .bipush 10, 2), (52, .invokestatic 253, 3), (55, .isub, 1), (56, .istore 5, 2), (58, .iload_n 3, 1), (59, .aload_n 0, 1), (60, .getfield 94, 3), (63, .iload 4, 2)]
theorem kX11_goDown_2 : chkB cX11_goDown LX11_goDown_2 = true := by decide +kernel
theorem dX11_goDown_42 : decode cX11_goDown 42 = .ok (.aload_n 2, 1) := getB' kX11_goDown_2 0 rfl
theorem dX11_goDown_43 : decode cX11_goDown 43 = .ok (.invokevirtual 482, 3) := getB' kX11_goDown_2 1 rfl
theorem dX11_goDown_46 : decode cX11_goDown 46 = .ok (.aload_n 0, 1) := getB' kX11_goDown_2 2 rfl
theorem dX11_goDown_47 : decode cX11_goDown 47 = .ok (.getfield 94, 3) := getB' kX11_goDown_2 3 rfl
theorem dX11_goDown_50 : decode cX11_goDown 50 = .ok (.bipush 10, 2) := getB' kX11_goDown_2 4 rfl
theorem dX11_goDown_52 : decode cX11_goDown 52 = .ok (.invokestatic 253, 3) := getB' kX11_goDown_2 5 rfl
theorem dX11_goDown_55 : decode cX11_goDown 55 = .ok (.isub, 1) := getB' kX11_goDown_2 6 rfl
theorem dX11_goDown_56 : decode cX11_goDown 56 = .ok (.istore 5, 2) := getB' kX11_goDown_2 7 rfl
theorem dX11_goDown_58 : decode cX11_goDown 58 = .ok (.iload_n 3, 1) := getB' kX11_goDown_2 8 rfl
theorem dX11_goDown_59 : decode cX11_goDown 59 = .ok (.aload_n 0, 1) := getB' kX11_goDown_2 9 rfl
theorem dX11_goDown_60 : decode cX11_goDown 60 = .ok (.getfield 94, 3) := getB' kX11_goDown_2 10 rfl
theorem dX11_goDown_63 : decode cX11_goDown 63 = .ok (.iload 4, 2) := getB' kX11_goDown_2 11 rfl
def LX11_goDown_3 : List (Nat × Instr × Nat) := [(65, .invokestatic 253, 3), (68, .iadd, 1), (69, .iload 5, 2), (71, .invokestatic 479, 3), (74, .istore 6, 2), (76, .aload_n 0, 1), (77, .getfield 79, 3), (80, .iload_n 1, 1), (81, .iconst 2, 1), (82, .iload_n 3, 1), (83, .iload 6, 2), (85, .invokestatic 296, 3)]
theorem kX11_goDown_3 : chkB cX11_goDown LX11_goDown_3 = true := by decide +kernel
theorem dX11_goDown_65 : decode cX11_goDown 65 = .ok (.invokestatic 253, 3) := getB' kX11_goDown_3 0 rfl
theorem dX11_goDown_68 : decode cX11_goDown 68 = .ok (.iadd, 1) := getB' kX11_goDown_3 1 rfl
theorem dX11_goDown_69 : decode cX11_goDown 69 = .ok (.iload 5, 2) := getB' kX11_goDown_3 2 rfl
theorem dX11_goDown_71 : decode cX11_goDown 71 = .ok (.invokestatic 479, 3) := getB' kX11_goDown_3 3 rfl
theorem dX11_goDown_74 : decode cX11_goDown 74 = .ok (.istore 6, 2) := getB' kX11_goDown_3 4 rfl
theorem dX11_goDown_76 : decode cX11_goDown 76 = .ok (.aload_n 0, 1) := getB' kX11_goDown_3 5 rfl
theorem dX11_goDown_77 : decode cX11_goDown 77 = .ok (.getfield 79, 3) := getB' kX11_goDown_3 6 rfl
theorem dX11_goDown_80 : decode cX11_goDown 80 = .ok (.iload_n 1, 1) := getB' kX11_goDown_3 7 rfl
theorem dX11_goDown_81 : decode cX11_goDown 81 = .ok (.iconst 2, 1) := getB' kX11_goDown_3 8 rfl
theorem dX11_goDown_82 : decode cX11_goDown 82 = .ok (.iload_n 3, 1) := getB' kX11_goDown_3 9 rfl
theorem dX11_goDown_83 : decode cX11_goDown 83 = .ok (.iload 6, 2) := getB' kX11_goDown_3 10 rfl
theorem dX11_goDown_85 : decode cX11_goDown 85 = .ok (.invokestatic 296, 3) := getB' kX11_goDown_3 11 rfl
def LX11_goDown_4 : List (Nat × Instr × Nat) := [(88, .invokevirtual 485, 3), (91, .return_, 1)]
theorem kX11_goDown_4 : chkB cX11_goDown LX11_goDown_4 = true := by decide +kernel
theorem dX11_goDown_88 : decode cX11_goDown 88 = .ok (.invokevirtual 485, 3) := getB' kX11_goDown_4 0 rfl
theorem dX11_goDown_91 : decode cX11_goDown 91 = .ok (.return_, 1) := getB' kX11_goDown_4 1 rfl
def LX11_admitParties_0 : List (Nat × Instr × Nat) := [(0, .iconst 0, 1), (1, .istore_n 1, 1), (2, .iload_n 1, 1), (3, .aload_n 0, 1), (4, .getfield 36, 3), (7, .if_icmp .ge 82, 3), (10, .aload_n 0, 1), (11, .iload_n 1, 1), (12, .invokevirtual 151, 3), (15, .astore_n 2, 1), (16, .aload_n 2, 1), (17, .ifnull 66, 3)]
theorem kX11_admitParties_0 : chkB cX11_admitParties LX11_admitParties_0 = true := by decide +kernel
theorem dX11_admitParties_0 : decode cX11_admitParties 0 = .ok (.iconst 0, 1) := getB' kX11_admitParties_0 0 rfl
theorem dX11_admitParties_1 : decode cX11_admitParties 1 = .ok (.istore_n 1, 1) := getB' kX11_admitParties_0 1 rfl
theorem dX11_admitParties_2 : decode cX11_admitParties 2 = .ok (.iload_n 1, 1) := getB' kX11_admitParties_0 2 rfl
theorem dX11_admitParties_3 : decode cX11_admitParties 3 = .ok (.aload_n 0, 1) := getB' kX11_admitParties_0 3 rfl
theorem dX11_admitParties_4 : decode cX11_admitParties 4 = .ok (.getfield 36, 3) := getB' kX11_admitParties_0 4 rfl
theorem dX11_admitParties_7 : decode cX11_admitParties 7 = .ok (.if_icmp .ge 82, 3) := getB' kX11_admitParties_0 5 rfl
theorem dX11_admitParties_10 : decode cX11_admitParties 10 = .ok (.aload_n 0, 1) := getB' kX11_admitParties_0 6 rfl
theorem dX11_admitParties_11 : decode cX11_admitParties 11 = .ok (.iload_n 1, 1) := getB' kX11_admitParties_0 7 rfl
theorem dX11_admitParties_12 : decode cX11_admitParties 12 = .ok (.invokevirtual 151, 3) := getB' kX11_admitParties_0 8 rfl
theorem dX11_admitParties_15 : decode cX11_admitParties 15 = .ok (.astore_n 2, 1) := getB' kX11_admitParties_0 9 rfl
theorem dX11_admitParties_16 : decode cX11_admitParties 16 = .ok (.aload_n 2, 1) := getB' kX11_admitParties_0 10 rfl
theorem dX11_admitParties_17 : decode cX11_admitParties 17 = .ok (.ifnull 66, 3) := getB' kX11_admitParties_0 11 rfl
def LX11_admitParties_1 : List (Nat × Instr × Nat) := [(20, .aload_n 2, 1), (21, .getfield 341, 3), (24, .iconst (-1), 1), (25, .if_icmp .eq 6, 3), (28, .goto 55, 3), (31, .aload_n 0, 1), (32, .getfield 19, 3), (35, .iload_n 1, 1), (36, .aload_n 2, 1), (37, .aload_n 0, 1), (38, .getfield 12, 3), (41, .getfield 145, 3)]
theorem kX11_admitParties_1 : chkB cX11_admitParties LX11_admitParties_1 = true := by decide +kernel
theorem dX11_admitParties_20 : decode cX11_admitParties 20 = .ok (.aload_n 2, 1) := getB' kX11_admitParties_1 0 rfl
theorem dX11_admitParties_21 : decode cX11_admitParties 21 = .ok (.getfield 341, 3) := getB' kX11_admitParties_1 1 rfl
theorem dX11_admitParties_24 : decode cX11_admitParties 24 = .ok (.iconst (-1), 1) := getB' kX11_admitParties_1 2 rfl
theorem dX11_admitParties_25 : decode cX11_admitParties 25 = .ok (.if_icmp .eq 6, 3) := getB' kX11_admitParties_1 3 rfl
theorem dX11_admitParties_28 : decode cX11_admitParties 28 = .ok (.goto 55, 3) := getB' kX11_admitParties_1 4 rfl
theorem dX11_admitParties_31 : decode cX11_admitParties 31 = .ok (.aload_n 0, 1) := getB' kX11_admitParties_1 5 rfl
theorem dX11_admitParties_32 : decode cX11_admitParties 32 = .ok (.getfield 19, 3) := getB' kX11_admitParties_1 6 rfl
theorem dX11_admitParties_35 : decode cX11_admitParties 35 = .ok (.iload_n 1, 1) := getB' kX11_admitParties_1 7 rfl
theorem dX11_admitParties_36 : decode cX11_admitParties 36 = .ok (.aload_n 2, 1) := getB' kX11_admitParties_1 8 rfl
theorem dX11_admitParties_37 : decode cX11_admitParties 37 = .ok (.aload_n 0, 1) := getB' kX11_admitParties_1 9 rfl
theorem dX11_admitParties_38 : decode cX11_admitParties 38 = .ok (.getfield 12, 3) := getB' kX11_admitParties_1 10 rfl
theorem dX11_admitParties_41 : decode cX11_admitParties 41 = .ok (.getfield 145, 3) := getB' kX11_admitParties_1 11 rfl
def LX11_admitParties_2 : List (Nat × Instr × Nat) := [(44, .invokevirtual 279, 3), (47, .aload_n 0, 1), (48, .getfield 19, 3), (51, .bipush 113, 2), (53, .iconst 0, 1), (54, .iconst 0, 1), (55, .invokevirtual 292, 3), (58, .istore_n 3, 1), (59, .iload_n 3, 1), (60, .iconst (-1), 1), (61, .if_icmp .eq 22, 3), (64, .aload_n 2, 1)]
theorem kX11_admitParties_2 : chkB cX11_admitParties LX11_admitParties_2 = true := by decide +kernel
theorem dX11_admitParties_44 : decode cX11_admitParties 44 = .ok (.invokevirtual 279, 3) := getB' kX11_admitParties_2 0 rfl
theorem dX11_admitParties_47 : decode cX11_admitParties 47 = .ok (.aload_n 0, 1) := getB' kX11_admitParties_2 1 rfl
theorem dX11_admitParties_48 : decode cX11_admitParties 48 = .ok (.getfield 19, 3) := getB' kX11_admitParties_2 2 rfl
theorem dX11_admitParties_51 : decode cX11_admitParties 51 = .ok (.bipush 113, 2) := getB' kX11_admitParties_2 3 rfl
theorem dX11_admitParties_53 : decode cX11_admitParties 53 = .ok (.iconst 0, 1) := getB' kX11_admitParties_2 4 rfl
theorem dX11_admitParties_54 : decode cX11_admitParties 54 = .ok (.iconst 0, 1) := getB' kX11_admitParties_2 5 rfl
theorem dX11_admitParties_55 : decode cX11_admitParties 55 = .ok (.invokevirtual 292, 3) := getB' kX11_admitParties_2 6 rfl
theorem dX11_admitParties_58 : decode cX11_admitParties 58 = .ok (.istore_n 3, 1) := getB' kX11_admitParties_2 7 rfl
theorem dX11_admitParties_59 : decode cX11_admitParties 59 = .ok (.iload_n 3, 1) := getB' kX11_admitParties_2 8 rfl
theorem dX11_admitParties_60 : decode cX11_admitParties 60 = .ok (.iconst (-1), 1) := getB' kX11_admitParties_2 9 rfl
theorem dX11_admitParties_61 : decode cX11_admitParties 61 = .ok (.if_icmp .eq 22, 3) := getB' kX11_admitParties_2 10 rfl
theorem dX11_admitParties_64 : decode cX11_admitParties 64 = .ok (.aload_n 2, 1) := getB' kX11_admitParties_2 11 rfl
def LX11_admitParties_3 : List (Nat × Instr × Nat) := [(65, .getfield 464, 3), (68, .iload_n 3, 1), (69, .if_icmp .lt 14, 3), (72, .aload_n 2, 1), (73, .aload_n 0, 1), (74, .getfield 12, 3), (77, .getfield 145, 3), (80, .putfield 341, 3), (83, .iinc 1 1, 3), (86, .goto (-84), 3), (89, .return_, 1)]
theorem kX11_admitParties_3 : chkB cX11_admitParties LX11_admitParties_3 = true := by decide +kernel
theorem dX11_admitParties_65 : decode cX11_admitParties 65 = .ok (.getfield 464, 3) := getB' kX11_admitParties_3 0 rfl
theorem dX11_admitParties_68 : decode cX11_admitParties 68 = .ok (.iload_n 3, 1) := getB' kX11_admitParties_3 1 rfl
theorem dX11_admitParties_69 : decode cX11_admitParties 69 = .ok (.if_icmp .lt 14, 3) := getB' kX11_admitParties_3 2 rfl
theorem dX11_admitParties_72 : decode cX11_admitParties 72 = .ok (.aload_n 2, 1) := getB' kX11_admitParties_3 3 rfl
theorem dX11_admitParties_73 : decode cX11_admitParties 73 = .ok (.aload_n 0, 1) := getB' kX11_admitParties_3 4 rfl
theorem dX11_admitParties_74 : decode cX11_admitParties 74 = .ok (.getfield 12, 3) := getB' kX11_admitParties_3 5 rfl
theorem dX11_admitParties_77 : decode cX11_admitParties 77 = .ok (.getfield 145, 3) := getB' kX11_admitParties_3 6 rfl
theorem dX11_admitParties_80 : decode cX11_admitParties 80 = .ok (.putfield 341, 3) := getB' kX11_admitParties_3 7 rfl
theorem dX11_admitParties_83 : decode cX11_admitParties 83 = .ok (.iinc 1 1, 3) := getB' kX11_admitParties_3 8 rfl
theorem dX11_admitParties_86 : decode cX11_admitParties 86 = .ok (.goto (-84), 3) := getB' kX11_admitParties_3 9 rfl
theorem dX11_admitParties_89 : decode cX11_admitParties 89 = .ok (.return_, 1) := getB' kX11_admitParties_3 10 rfl
def LX11_passStation_0 : List (Nat × Instr × Nat) := [(0, .aload_n 0, 1), (1, .iload_n 1, 1), (2, .invokevirtual 195, 3), (5, .astore_n 2, 1), (6, .aload_n 2, 1), (7, .ifnonnull 4, 3), (10, .return_, 1), (11, .aload_n 0, 1), (12, .getfield 12, 3), (15, .aload_n 0, 1), (16, .getfield 12, 3), (19, .getfield 145, 3)]
theorem kX11_passStation_0 : chkB cX11_passStation LX11_passStation_0 = true := by decide +kernel
theorem dX11_passStation_0 : decode cX11_passStation 0 = .ok (.aload_n 0, 1) := getB' kX11_passStation_0 0 rfl
theorem dX11_passStation_1 : decode cX11_passStation 1 = .ok (.iload_n 1, 1) := getB' kX11_passStation_0 1 rfl
theorem dX11_passStation_2 : decode cX11_passStation 2 = .ok (.invokevirtual 195, 3) := getB' kX11_passStation_0 2 rfl
theorem dX11_passStation_5 : decode cX11_passStation 5 = .ok (.astore_n 2, 1) := getB' kX11_passStation_0 3 rfl
theorem dX11_passStation_6 : decode cX11_passStation 6 = .ok (.aload_n 2, 1) := getB' kX11_passStation_0 4 rfl
theorem dX11_passStation_7 : decode cX11_passStation 7 = .ok (.ifnonnull 4, 3) := getB' kX11_passStation_0 5 rfl
theorem dX11_passStation_10 : decode cX11_passStation 10 = .ok (.return_, 1) := getB' kX11_passStation_0 6 rfl
theorem dX11_passStation_11 : decode cX11_passStation 11 = .ok (.aload_n 0, 1) := getB' kX11_passStation_0 7 rfl
theorem dX11_passStation_12 : decode cX11_passStation 12 = .ok (.getfield 12, 3) := getB' kX11_passStation_0 8 rfl
theorem dX11_passStation_15 : decode cX11_passStation 15 = .ok (.aload_n 0, 1) := getB' kX11_passStation_0 9 rfl
theorem dX11_passStation_16 : decode cX11_passStation 16 = .ok (.getfield 12, 3) := getB' kX11_passStation_0 10 rfl
theorem dX11_passStation_19 : decode cX11_passStation 19 = .ok (.getfield 145, 3) := getB' kX11_passStation_0 11 rfl
def LX11_passStation_1 : List (Nat × Instr × Nat) := [(22, .invokevirtual 381, 3), (25, .istore_n 3, 1), (26, .aload_n 0, 1), (27, .aload_n 2, 1), (28, .aload_n 2, 1), (29, .getfield 183, 3), (32, .bipush 9, 2), (34, .iadd, 1), (35, .bipush 10, 2), (37, .idiv, 1), (38, .iload_n 3, 1), (39, .ifCond .eq 7, 3)]
theorem kX11_passStation_1 : chkB cX11_passStation LX11_passStation_1 = true := by decide +kernel
theorem dX11_passStation_22 : decode cX11_passStation 22 = .ok (.invokevirtual 381, 3) := getB' kX11_passStation_1 0 rfl
theorem dX11_passStation_25 : decode cX11_passStation 25 = .ok (.istore_n 3, 1) := getB' kX11_passStation_1 1 rfl
theorem dX11_passStation_26 : decode cX11_passStation 26 = .ok (.aload_n 0, 1) := getB' kX11_passStation_1 2 rfl
theorem dX11_passStation_27 : decode cX11_passStation 27 = .ok (.aload_n 2, 1) := getB' kX11_passStation_1 3 rfl
theorem dX11_passStation_28 : decode cX11_passStation 28 = .ok (.aload_n 2, 1) := getB' kX11_passStation_1 4 rfl
theorem dX11_passStation_29 : decode cX11_passStation 29 = .ok (.getfield 183, 3) := getB' kX11_passStation_1 5 rfl
theorem dX11_passStation_32 : decode cX11_passStation 32 = .ok (.bipush 9, 2) := getB' kX11_passStation_1 6 rfl
theorem dX11_passStation_34 : decode cX11_passStation 34 = .ok (.iadd, 1) := getB' kX11_passStation_1 7 rfl
theorem dX11_passStation_35 : decode cX11_passStation 35 = .ok (.bipush 10, 2) := getB' kX11_passStation_1 8 rfl
theorem dX11_passStation_37 : decode cX11_passStation 37 = .ok (.idiv, 1) := getB' kX11_passStation_1 9 rfl
theorem dX11_passStation_38 : decode cX11_passStation 38 = .ok (.iload_n 3, 1) := getB' kX11_passStation_1 10 rfl
theorem dX11_passStation_39 : decode cX11_passStation 39 = .ok (.ifCond .eq 7, 3) := getB' kX11_passStation_1 11 rfl
def LX11_passStation_2 : List (Nat × Instr × Nat) := [(42, .iconst 2, 1), (43, .goto 4, 3), (46, .iconst 1, 1), (47, .imul, 1), (48, .invokevirtual 487, 3), (51, .aload_n 2, 1), (52, .getfield 183, 3), (55, .bipush 49, 2), (57, .iadd, 1), (58, .bipush 50, 2), (60, .idiv, 1), (61, .istore 4, 2)]
theorem kX11_passStation_2 : chkB cX11_passStation LX11_passStation_2 = true := by decide +kernel
theorem dX11_passStation_42 : decode cX11_passStation 42 = .ok (.iconst 2, 1) := getB' kX11_passStation_2 0 rfl
theorem dX11_passStation_43 : decode cX11_passStation 43 = .ok (.goto 4, 3) := getB' kX11_passStation_2 1 rfl
theorem dX11_passStation_46 : decode cX11_passStation 46 = .ok (.iconst 1, 1) := getB' kX11_passStation_2 2 rfl
theorem dX11_passStation_47 : decode cX11_passStation 47 = .ok (.imul, 1) := getB' kX11_passStation_2 3 rfl
theorem dX11_passStation_48 : decode cX11_passStation 48 = .ok (.invokevirtual 487, 3) := getB' kX11_passStation_2 4 rfl
theorem dX11_passStation_51 : decode cX11_passStation 51 = .ok (.aload_n 2, 1) := getB' kX11_passStation_2 5 rfl
theorem dX11_passStation_52 : decode cX11_passStation 52 = .ok (.getfield 183, 3) := getB' kX11_passStation_2 6 rfl
theorem dX11_passStation_55 : decode cX11_passStation 55 = .ok (.bipush 49, 2) := getB' kX11_passStation_2 7 rfl
theorem dX11_passStation_57 : decode cX11_passStation 57 = .ok (.iadd, 1) := getB' kX11_passStation_2 8 rfl
theorem dX11_passStation_58 : decode cX11_passStation 58 = .ok (.bipush 50, 2) := getB' kX11_passStation_2 9 rfl
theorem dX11_passStation_60 : decode cX11_passStation 60 = .ok (.idiv, 1) := getB' kX11_passStation_2 10 rfl
theorem dX11_passStation_61 : decode cX11_passStation 61 = .ok (.istore 4, 2) := getB' kX11_passStation_2 11 rfl
def LX11_passStation_3 : List (Nat × Instr × Nat) := [(63, .aload_n 2, 1), (64, .getfield 491, 3), (67, .iload_n 3, 1), (68, .ifCond .eq 7, 3), (71, .iconst 3, 1), (72, .goto 4, 3), (75, .iconst 0, 1), (76, .iload 4, 2), (78, .invokestatic 476, 3), (81, .aload_n 0, 1), (82, .iconst 4, 1), (83, .iload 4, 2)]
theorem kX11_passStation_3 : chkB cX11_passStation LX11_passStation_3 = true := by decide +kernel
theorem dX11_passStation_63 : decode cX11_passStation 63 = .ok (.aload_n 2, 1) := getB' kX11_passStation_3 0 rfl
theorem dX11_passStation_64 : decode cX11_passStation 64 = .ok (.getfield 491, 3) := getB' kX11_passStation_3 1 rfl
theorem dX11_passStation_67 : decode cX11_passStation 67 = .ok (.iload_n 3, 1) := getB' kX11_passStation_3 2 rfl
theorem dX11_passStation_68 : decode cX11_passStation 68 = .ok (.ifCond .eq 7, 3) := getB' kX11_passStation_3 3 rfl
theorem dX11_passStation_71 : decode cX11_passStation 71 = .ok (.iconst 3, 1) := getB' kX11_passStation_3 4 rfl
theorem dX11_passStation_72 : decode cX11_passStation 72 = .ok (.goto 4, 3) := getB' kX11_passStation_3 5 rfl
theorem dX11_passStation_75 : decode cX11_passStation 75 = .ok (.iconst 0, 1) := getB' kX11_passStation_3 6 rfl
theorem dX11_passStation_76 : decode cX11_passStation 76 = .ok (.iload 4, 2) := getB' kX11_passStation_3 7 rfl
theorem dX11_passStation_78 : decode cX11_passStation 78 = .ok (.invokestatic 476, 3) := getB' kX11_passStation_3 8 rfl
theorem dX11_passStation_81 : decode cX11_passStation 81 = .ok (.aload_n 0, 1) := getB' kX11_passStation_3 9 rfl
theorem dX11_passStation_82 : decode cX11_passStation 82 = .ok (.iconst 4, 1) := getB' kX11_passStation_3 10 rfl
theorem dX11_passStation_83 : decode cX11_passStation 83 = .ok (.iload 4, 2) := getB' kX11_passStation_3 11 rfl
def LX11_passStation_4 : List (Nat × Instr × Nat) := [(85, .invokevirtual 192, 3), (88, .aload_n 0, 1), (89, .getfield 12, 3), (92, .aload_n 2, 1), (93, .getfield 344, 3), (96, .aload_n 0, 1), (97, .getfield 12, 3), (100, .getfield 145, 3), (103, .aload_n 2, 1), (104, .getfield 189, 3), (107, .isub, 1), (108, .invokevirtual 494, 3)]
theorem kX11_passStation_4 : chkB cX11_passStation LX11_passStation_4 = true := by decide +kernel
theorem dX11_passStation_85 : decode cX11_passStation 85 = .ok (.invokevirtual 192, 3) := getB' kX11_passStation_4 0 rfl
theorem dX11_passStation_88 : decode cX11_passStation 88 = .ok (.aload_n 0, 1) := getB' kX11_passStation_4 1 rfl
theorem dX11_passStation_89 : decode cX11_passStation 89 = .ok (.getfield 12, 3) := getB' kX11_passStation_4 2 rfl
theorem dX11_passStation_92 : decode cX11_passStation 92 = .ok (.aload_n 2, 1) := getB' kX11_passStation_4 3 rfl
theorem dX11_passStation_93 : decode cX11_passStation 93 = .ok (.getfield 344, 3) := getB' kX11_passStation_4 4 rfl
theorem dX11_passStation_96 : decode cX11_passStation 96 = .ok (.aload_n 0, 1) := getB' kX11_passStation_4 5 rfl
theorem dX11_passStation_97 : decode cX11_passStation 97 = .ok (.getfield 12, 3) := getB' kX11_passStation_4 6 rfl
theorem dX11_passStation_100 : decode cX11_passStation 100 = .ok (.getfield 145, 3) := getB' kX11_passStation_4 7 rfl
theorem dX11_passStation_103 : decode cX11_passStation 103 = .ok (.aload_n 2, 1) := getB' kX11_passStation_4 8 rfl
theorem dX11_passStation_104 : decode cX11_passStation 104 = .ok (.getfield 189, 3) := getB' kX11_passStation_4 9 rfl
theorem dX11_passStation_107 : decode cX11_passStation 107 = .ok (.isub, 1) := getB' kX11_passStation_4 10 rfl
theorem dX11_passStation_108 : decode cX11_passStation 108 = .ok (.invokevirtual 494, 3) := getB' kX11_passStation_4 11 rfl
def LX11_passStation_5 : List (Nat × Instr × Nat) := [(111, .ifCond .eq 9, 3), (114, .aload_n 0, 1), (115, .iload_n 1, 1), (116, .aload_n 2, 1), (117, .invokevirtual 497, 3), (120, .return_, 1)]
theorem kX11_passStation_5 : chkB cX11_passStation LX11_passStation_5 = true := by decide +kernel
theorem dX11_passStation_111 : decode cX11_passStation 111 = .ok (.ifCond .eq 9, 3) := getB' kX11_passStation_5 0 rfl
theorem dX11_passStation_114 : decode cX11_passStation 114 = .ok (.aload_n 0, 1) := getB' kX11_passStation_5 1 rfl
theorem dX11_passStation_115 : decode cX11_passStation 115 = .ok (.iload_n 1, 1) := getB' kX11_passStation_5 2 rfl
theorem dX11_passStation_116 : decode cX11_passStation 116 = .ok (.aload_n 2, 1) := getB' kX11_passStation_5 3 rfl
theorem dX11_passStation_117 : decode cX11_passStation 117 = .ok (.invokevirtual 497, 3) := getB' kX11_passStation_5 4 rfl
theorem dX11_passStation_120 : decode cX11_passStation 120 = .ok (.return_, 1) := getB' kX11_passStation_5 5 rfl
def LX11_burn_0 : List (Nat × Instr × Nat) := [(0, .iload_n 2, 1), (1, .aload_n 1, 1), (2, .getfield 186, 3), (5, .invokestatic 479, 3), (8, .istore_n 3, 1), (9, .aload_n 1, 1), (10, .dup, 1), (11, .getfield 186, 3), (14, .iload_n 3, 1), (15, .isub, 1), (16, .putfield 186, 3), (19, .aload_n 0, 1)]
theorem kX11_burn_0 : chkB cX11_burn LX11_burn_0 = true := by decide +kernel
theorem dX11_burn_0 : decode cX11_burn 0 = .ok (.iload_n 2, 1) := getB' kX11_burn_0 0 rfl
theorem dX11_burn_1 : decode cX11_burn 1 = .ok (.aload_n 1, 1) := getB' kX11_burn_0 1 rfl
theorem dX11_burn_2 : decode cX11_burn 2 = .ok (.getfield 186, 3) := getB' kX11_burn_0 2 rfl
theorem dX11_burn_5 : decode cX11_burn 5 = .ok (.invokestatic 479, 3) := getB' kX11_burn_0 3 rfl
theorem dX11_burn_8 : decode cX11_burn 8 = .ok (.istore_n 3, 1) := getB' kX11_burn_0 4 rfl
theorem dX11_burn_9 : decode cX11_burn 9 = .ok (.aload_n 1, 1) := getB' kX11_burn_0 5 rfl
theorem dX11_burn_10 : decode cX11_burn 10 = .ok (.dup, 1) := getB' kX11_burn_0 6 rfl
theorem dX11_burn_11 : decode cX11_burn 11 = .ok (.getfield 186, 3) := getB' kX11_burn_0 7 rfl
theorem dX11_burn_14 : decode cX11_burn 14 = .ok (.iload_n 3, 1) := getB' kX11_burn_0 8 rfl
theorem dX11_burn_15 : decode cX11_burn 15 = .ok (.isub, 1) := getB' kX11_burn_0 9 rfl
theorem dX11_burn_16 : decode cX11_burn 16 = .ok (.putfield 186, 3) := getB' kX11_burn_0 10 rfl
theorem dX11_burn_19 : decode cX11_burn 19 = .ok (.aload_n 0, 1) := getB' kX11_burn_0 11 rfl
def LX11_burn_1 : List (Nat × Instr × Nat) := [(20, .iconst 1, 1), (21, .iload_n 3, 1), (22, .invokevirtual 192, 3), (25, .aload_n 1, 1), (26, .iload_n 3, 1), (27, .iload_n 2, 1), (28, .if_icmp .ge 12, 3), (31, .aload_n 1, 1), (32, .getfield 501, 3), (35, .iconst 1, 1), (36, .iadd, 1), (37, .goto 4, 3)]
theorem kX11_burn_1 : chkB cX11_burn LX11_burn_1 = true := by decide +kernel
theorem dX11_burn_20 : decode cX11_burn 20 = .ok (.iconst 1, 1) := getB' kX11_burn_1 0 rfl
theorem dX11_burn_21 : decode cX11_burn 21 = .ok (.iload_n 3, 1) := getB' kX11_burn_1 1 rfl
theorem dX11_burn_22 : decode cX11_burn 22 = .ok (.invokevirtual 192, 3) := getB' kX11_burn_1 2 rfl
theorem dX11_burn_25 : decode cX11_burn 25 = .ok (.aload_n 1, 1) := getB' kX11_burn_1 3 rfl
theorem dX11_burn_26 : decode cX11_burn 26 = .ok (.iload_n 3, 1) := getB' kX11_burn_1 4 rfl
theorem dX11_burn_27 : decode cX11_burn 27 = .ok (.iload_n 2, 1) := getB' kX11_burn_1 5 rfl
theorem dX11_burn_28 : decode cX11_burn 28 = .ok (.if_icmp .ge 12, 3) := getB' kX11_burn_1 6 rfl
theorem dX11_burn_31 : decode cX11_burn 31 = .ok (.aload_n 1, 1) := getB' kX11_burn_1 7 rfl
theorem dX11_burn_32 : decode cX11_burn 32 = .ok (.getfield 501, 3) := getB' kX11_burn_1 8 rfl
theorem dX11_burn_35 : decode cX11_burn 35 = .ok (.iconst 1, 1) := getB' kX11_burn_1 9 rfl
theorem dX11_burn_36 : decode cX11_burn 36 = .ok (.iadd, 1) := getB' kX11_burn_1 10 rfl
theorem dX11_burn_37 : decode cX11_burn 37 = .ok (.goto 4, 3) := getB' kX11_burn_1 11 rfl
def LX11_burn_2 : List (Nat × Instr × Nat) := [(40, .iconst 0, 1), (41, .putfield 501, 3), (44, .aload_n 1, 1), (45, .getfield 501, 3), (48, .bipush 10, 2), (50, .if_icmp .ne 8, 3), (53, .aload_n 0, 1), (54, .aload_n 1, 1), (55, .invokevirtual 504, 3), (58, .return_, 1)]
theorem kX11_burn_2 : chkB cX11_burn LX11_burn_2 = true := by decide +kernel
theorem dX11_burn_40 : decode cX11_burn 40 = .ok (.iconst 0, 1) := getB' kX11_burn_2 0 rfl
theorem dX11_burn_41 : decode cX11_burn 41 = .ok (.putfield 501, 3) := getB' kX11_burn_2 1 rfl
theorem dX11_burn_44 : decode cX11_burn 44 = .ok (.aload_n 1, 1) := getB' kX11_burn_2 2 rfl
theorem dX11_burn_45 : decode cX11_burn 45 = .ok (.getfield 501, 3) := getB' kX11_burn_2 3 rfl
theorem dX11_burn_48 : decode cX11_burn 48 = .ok (.bipush 10, 2) := getB' kX11_burn_2 4 rfl
theorem dX11_burn_50 : decode cX11_burn 50 = .ok (.if_icmp .ne 8, 3) := getB' kX11_burn_2 5 rfl
theorem dX11_burn_53 : decode cX11_burn 53 = .ok (.aload_n 0, 1) := getB' kX11_burn_2 6 rfl
theorem dX11_burn_54 : decode cX11_burn 54 = .ok (.aload_n 1, 1) := getB' kX11_burn_2 7 rfl
theorem dX11_burn_55 : decode cX11_burn 55 = .ok (.invokevirtual 504, 3) := getB' kX11_burn_2 8 rfl
theorem dX11_burn_58 : decode cX11_burn 58 = .ok (.return_, 1) := getB' kX11_burn_2 9 rfl
def LX11_sendPeopleHome : List (Nat × Instr × Nat) := [(0, .aload_n 0, 1), (1, .bipush 7, 2), (3, .aload_n 1, 1), (4, .getfield 183, 3), (7, .invokevirtual 192, 3), (10, .aload_n 1, 1), (11, .iconst 0, 1), (12, .putfield 183, 3), (15, .return_, 1)]
theorem kX11_sendPeopleHome : chkB cX11_sendPeopleHome LX11_sendPeopleHome = true := by decide +kernel
theorem dX11_sendPeopleHome_0 : decode cX11_sendPeopleHome 0 = .ok (.aload_n 0, 1) := getB' kX11_sendPeopleHome 0 rfl
theorem dX11_sendPeopleHome_1 : decode cX11_sendPeopleHome 1 = .ok (.bipush 7, 2) := getB' kX11_sendPeopleHome 1 rfl
theorem dX11_sendPeopleHome_3 : decode cX11_sendPeopleHome 3 = .ok (.aload_n 1, 1) := getB' kX11_sendPeopleHome 2 rfl
theorem dX11_sendPeopleHome_4 : decode cX11_sendPeopleHome 4 = .ok (.getfield 183, 3) := getB' kX11_sendPeopleHome 3 rfl
theorem dX11_sendPeopleHome_7 : decode cX11_sendPeopleHome 7 = .ok (.invokevirtual 192, 3) := getB' kX11_sendPeopleHome 4 rfl
theorem dX11_sendPeopleHome_10 : decode cX11_sendPeopleHome 10 = .ok (.aload_n 1, 1) := getB' kX11_sendPeopleHome 5 rfl
theorem dX11_sendPeopleHome_11 : decode cX11_sendPeopleHome 11 = .ok (.iconst 0, 1) := getB' kX11_sendPeopleHome 6 rfl
theorem dX11_sendPeopleHome_12 : decode cX11_sendPeopleHome 12 = .ok (.putfield 183, 3) := getB' kX11_sendPeopleHome 7 rfl
theorem dX11_sendPeopleHome_15 : decode cX11_sendPeopleHome 15 = .ok (.return_, 1) := getB' kX11_sendPeopleHome 8 rfl
def LX11_carry_0 : List (Nat × Instr × Nat) := [(0, .aload_n 0, 1), (1, .getfield 12, 3), (4, .getfield 129, 3), (7, .aload_n 2, 1), (8, .getfield 344, 3), (11, .invokestatic 253, 3), (14, .istore_n 3, 1), (15, .aload_n 0, 1), (16, .getfield 12, 3), (19, .aload_n 2, 1), (20, .getfield 344, 3), (23, .iload_n 3, 1)]
theorem kX11_carry_0 : chkB cX11_carry LX11_carry_0 = true := by decide +kernel
theorem dX11_carry_0 : decode cX11_carry 0 = .ok (.aload_n 0, 1) := getB' kX11_carry_0 0 rfl
theorem dX11_carry_1 : decode cX11_carry 1 = .ok (.getfield 12, 3) := getB' kX11_carry_0 1 rfl
theorem dX11_carry_4 : decode cX11_carry 4 = .ok (.getfield 129, 3) := getB' kX11_carry_0 2 rfl
theorem dX11_carry_7 : decode cX11_carry 7 = .ok (.aload_n 2, 1) := getB' kX11_carry_0 3 rfl
theorem dX11_carry_8 : decode cX11_carry 8 = .ok (.getfield 344, 3) := getB' kX11_carry_0 4 rfl
theorem dX11_carry_11 : decode cX11_carry 11 = .ok (.invokestatic 253, 3) := getB' kX11_carry_0 5 rfl
theorem dX11_carry_14 : decode cX11_carry 14 = .ok (.istore_n 3, 1) := getB' kX11_carry_0 6 rfl
theorem dX11_carry_15 : decode cX11_carry 15 = .ok (.aload_n 0, 1) := getB' kX11_carry_0 7 rfl
theorem dX11_carry_16 : decode cX11_carry 16 = .ok (.getfield 12, 3) := getB' kX11_carry_0 8 rfl
theorem dX11_carry_19 : decode cX11_carry 19 = .ok (.aload_n 2, 1) := getB' kX11_carry_0 9 rfl
theorem dX11_carry_20 : decode cX11_carry 20 = .ok (.getfield 344, 3) := getB' kX11_carry_0 10 rfl
theorem dX11_carry_23 : decode cX11_carry 23 = .ok (.iload_n 3, 1) := getB' kX11_carry_0 11 rfl
def LX11_carry_1 : List (Nat × Instr × Nat) := [(24, .invokevirtual 508, 3), (27, .istore 4, 2), (29, .aload_n 0, 1), (30, .getfield 12, 3), (33, .iload 4, 2), (35, .invokevirtual 179, 3), (38, .ifCond .ne 7, 3), (41, .iconst 1, 1), (42, .goto 4, 3), (45, .iconst 0, 1), (46, .istore 5, 2), (48, .iconst 0, 1)]
theorem kX11_carry_1 : chkB cX11_carry LX11_carry_1 = true := by decide +kernel
theorem dX11_carry_24 : decode cX11_carry 24 = .ok (.invokevirtual 508, 3) := getB' kX11_carry_1 0 rfl
theorem dX11_carry_27 : decode cX11_carry 27 = .ok (.istore 4, 2) := getB' kX11_carry_1 1 rfl
theorem dX11_carry_29 : decode cX11_carry 29 = .ok (.aload_n 0, 1) := getB' kX11_carry_1 2 rfl
theorem dX11_carry_30 : decode cX11_carry 30 = .ok (.getfield 12, 3) := getB' kX11_carry_1 3 rfl
theorem dX11_carry_33 : decode cX11_carry 33 = .ok (.iload 4, 2) := getB' kX11_carry_1 4 rfl
theorem dX11_carry_35 : decode cX11_carry 35 = .ok (.invokevirtual 179, 3) := getB' kX11_carry_1 5 rfl
theorem dX11_carry_38 : decode cX11_carry 38 = .ok (.ifCond .ne 7, 3) := getB' kX11_carry_1 6 rfl
theorem dX11_carry_41 : decode cX11_carry 41 = .ok (.iconst 1, 1) := getB' kX11_carry_1 7 rfl
theorem dX11_carry_42 : decode cX11_carry 42 = .ok (.goto 4, 3) := getB' kX11_carry_1 8 rfl
theorem dX11_carry_45 : decode cX11_carry 45 = .ok (.iconst 0, 1) := getB' kX11_carry_1 9 rfl
theorem dX11_carry_46 : decode cX11_carry 46 = .ok (.istore 5, 2) := getB' kX11_carry_1 10 rfl
theorem dX11_carry_48 : decode cX11_carry 48 = .ok (.iconst 0, 1) := getB' kX11_carry_1 11 rfl
def LX11_carry_2 : List (Nat × Instr × Nat) := [(49, .istore 6, 2), (51, .iload 6, 2), (53, .aload_n 0, 1), (54, .getfield 46, 3), (57, .if_icmp .ge 59, 3), (60, .aload_n 0, 1), (61, .iload 6, 2), (63, .iconst 2, 1), (64, .invokevirtual 169, 3), (67, .astore 7, 2), (69, .aload 7, 2), (71, .ifnull 39, 3)]
theorem kX11_carry_2 : chkB cX11_carry LX11_carry_2 = true := by decide +kernel
theorem dX11_carry_49 : decode cX11_carry 49 = .ok (.istore 6, 2) := getB' kX11_carry_2 0 rfl
theorem dX11_carry_51 : decode cX11_carry 51 = .ok (.iload 6, 2) := getB' kX11_carry_2 1 rfl
theorem dX11_carry_53 : decode cX11_carry 53 = .ok (.aload_n 0, 1) := getB' kX11_carry_2 2 rfl
theorem dX11_carry_54 : decode cX11_carry 54 = .ok (.getfield 46, 3) := getB' kX11_carry_2 3 rfl
theorem dX11_carry_57 : decode cX11_carry 57 = .ok (.if_icmp .ge 59, 3) := getB' kX11_carry_2 4 rfl
theorem dX11_carry_60 : decode cX11_carry 60 = .ok (.aload_n 0, 1) := getB' kX11_carry_2 5 rfl
theorem dX11_carry_61 : decode cX11_carry 61 = .ok (.iload 6, 2) := getB' kX11_carry_2 6 rfl
theorem dX11_carry_63 : decode cX11_carry 63 = .ok (.iconst 2, 1) := getB' kX11_carry_2 7 rfl
theorem dX11_carry_64 : decode cX11_carry 64 = .ok (.invokevirtual 169, 3) := getB' kX11_carry_2 8 rfl
theorem dX11_carry_67 : decode cX11_carry 67 = .ok (.astore 7, 2) := getB' kX11_carry_2 9 rfl
theorem dX11_carry_69 : decode cX11_carry 69 = .ok (.aload 7, 2) := getB' kX11_carry_2 10 rfl
theorem dX11_carry_71 : decode cX11_carry 71 = .ok (.ifnull 39, 3) := getB' kX11_carry_2 11 rfl
def LX11_carry_3 : List (Nat × Instr × Nat) := [(74, .aload 7, 2), (76, .getfield 176, 3), (79, .iload_n 1, 1), (80, .if_icmp .ne 30, 3), (83, .aload 7, 2), (85, .getfield 511, 3), (88, .ifCond .ne 22, 3), (91, .aload_n 0, 1), (92, .aload 7, 2), (94, .iload 4, 2), (96, .iconst (-1), 1), (97, .if_icmp .ne 7, 3)]
theorem kX11_carry_3 : chkB cX11_carry LX11_carry_3 = true := by decide +kernel
theorem dX11_carry_74 : decode cX11_carry 74 = .ok (.aload 7, 2) := getB' kX11_carry_3 0 rfl
theorem dX11_carry_76 : decode cX11_carry 76 = .ok (.getfield 176, 3) := getB' kX11_carry_3 1 rfl
theorem dX11_carry_79 : decode cX11_carry 79 = .ok (.iload_n 1, 1) := getB' kX11_carry_3 2 rfl
theorem dX11_carry_80 : decode cX11_carry 80 = .ok (.if_icmp .ne 30, 3) := getB' kX11_carry_3 3 rfl
theorem dX11_carry_83 : decode cX11_carry 83 = .ok (.aload 7, 2) := getB' kX11_carry_3 4 rfl
theorem dX11_carry_85 : decode cX11_carry 85 = .ok (.getfield 511, 3) := getB' kX11_carry_3 5 rfl
theorem dX11_carry_88 : decode cX11_carry 88 = .ok (.ifCond .ne 22, 3) := getB' kX11_carry_3 6 rfl
theorem dX11_carry_91 : decode cX11_carry 91 = .ok (.aload_n 0, 1) := getB' kX11_carry_3 7 rfl
theorem dX11_carry_92 : decode cX11_carry 92 = .ok (.aload 7, 2) := getB' kX11_carry_3 8 rfl
theorem dX11_carry_94 : decode cX11_carry 94 = .ok (.iload 4, 2) := getB' kX11_carry_3 9 rfl
theorem dX11_carry_96 : decode cX11_carry 96 = .ok (.iconst (-1), 1) := getB' kX11_carry_3 10 rfl
theorem dX11_carry_97 : decode cX11_carry 97 = .ok (.if_icmp .ne 7, 3) := getB' kX11_carry_3 11 rfl
def LX11_carry_4 : List (Nat × Instr × Nat) := [(100, .iconst (-1), 1), (101, .goto 4, 3), (104, .iload_n 3, 1), (105, .iload 5, 2), (107, .invokevirtual 515, 3), (110, .iinc 6 1, 3), (113, .goto (-62), 3), (116, .iload 4, 2), (118, .iconst (-1), 1), (119, .if_icmp .eq 20, 3), (122, .aload_n 2, 1), (123, .iload 4, 2)]
theorem kX11_carry_4 : chkB cX11_carry LX11_carry_4 = true := by decide +kernel
theorem dX11_carry_100 : decode cX11_carry 100 = .ok (.iconst (-1), 1) := getB' kX11_carry_4 0 rfl
theorem dX11_carry_101 : decode cX11_carry 101 = .ok (.goto 4, 3) := getB' kX11_carry_4 1 rfl
theorem dX11_carry_104 : decode cX11_carry 104 = .ok (.iload_n 3, 1) := getB' kX11_carry_4 2 rfl
theorem dX11_carry_105 : decode cX11_carry 105 = .ok (.iload 5, 2) := getB' kX11_carry_4 3 rfl
theorem dX11_carry_107 : decode cX11_carry 107 = .ok (.invokevirtual 515, 3) := getB' kX11_carry_4 4 rfl
theorem dX11_carry_110 : decode cX11_carry 110 = .ok (.iinc 6 1, 3) := getB' kX11_carry_4 5 rfl
theorem dX11_carry_113 : decode cX11_carry 113 = .ok (.goto (-62), 3) := getB' kX11_carry_4 6 rfl
theorem dX11_carry_116 : decode cX11_carry 116 = .ok (.iload 4, 2) := getB' kX11_carry_4 7 rfl
theorem dX11_carry_118 : decode cX11_carry 118 = .ok (.iconst (-1), 1) := getB' kX11_carry_4 8 rfl
theorem dX11_carry_119 : decode cX11_carry 119 = .ok (.if_icmp .eq 20, 3) := getB' kX11_carry_4 9 rfl
theorem dX11_carry_122 : decode cX11_carry 122 = .ok (.aload_n 2, 1) := getB' kX11_carry_4 10 rfl
theorem dX11_carry_123 : decode cX11_carry 123 = .ok (.iload 4, 2) := getB' kX11_carry_4 11 rfl
def LX11_carry_5 : List (Nat × Instr × Nat) := [(125, .putfield 344, 3), (128, .aload_n 2, 1), (129, .aload_n 0, 1), (130, .getfield 12, 3), (133, .getfield 145, 3), (136, .putfield 189, 3), (139, .iload 5, 2), (141, .ifCond .eq 8, 3), (144, .aload_n 0, 1), (145, .aload_n 2, 1), (146, .invokevirtual 519, 3), (149, .return_, 1)]
theorem kX11_carry_5 : chkB cX11_carry LX11_carry_5 = true := by decide +kernel
theorem dX11_carry_125 : decode cX11_carry 125 = .ok (.putfield 344, 3) := getB' kX11_carry_5 0 rfl
theorem dX11_carry_128 : decode cX11_carry 128 = .ok (.aload_n 2, 1) := getB' kX11_carry_5 1 rfl
theorem dX11_carry_129 : decode cX11_carry 129 = .ok (.aload_n 0, 1) := getB' kX11_carry_5 2 rfl
theorem dX11_carry_130 : decode cX11_carry 130 = .ok (.getfield 12, 3) := getB' kX11_carry_5 3 rfl
theorem dX11_carry_133 : decode cX11_carry 133 = .ok (.getfield 145, 3) := getB' kX11_carry_5 4 rfl
theorem dX11_carry_136 : decode cX11_carry 136 = .ok (.putfield 189, 3) := getB' kX11_carry_5 5 rfl
theorem dX11_carry_139 : decode cX11_carry 139 = .ok (.iload 5, 2) := getB' kX11_carry_5 6 rfl
theorem dX11_carry_141 : decode cX11_carry 141 = .ok (.ifCond .eq 8, 3) := getB' kX11_carry_5 7 rfl
theorem dX11_carry_144 : decode cX11_carry 144 = .ok (.aload_n 0, 1) := getB' kX11_carry_5 8 rfl
theorem dX11_carry_145 : decode cX11_carry 145 = .ok (.aload_n 2, 1) := getB' kX11_carry_5 9 rfl
theorem dX11_carry_146 : decode cX11_carry 146 = .ok (.invokevirtual 519, 3) := getB' kX11_carry_5 10 rfl
theorem dX11_carry_149 : decode cX11_carry 149 = .ok (.return_, 1) := getB' kX11_carry_5 11 rfl
def LX11_carryField_0 : List (Nat × Instr × Nat) := [(0, .aload_n 0, 1), (1, .getfield 12, 3), (4, .aload_n 1, 1), (5, .getfield 344, 3), (8, .iload_n 2, 1), (9, .invokevirtual 508, 3), (12, .istore 4, 2), (14, .iload_n 3, 1), (15, .ifCond .ne 15, 3), (18, .aload_n 0, 1), (19, .getfield 12, 3), (22, .iload 4, 2)]
theorem kX11_carryField_0 : chkB cX11_carryField LX11_carryField_0 = true := by decide +kernel
theorem dX11_carryField_0 : decode cX11_carryField 0 = .ok (.aload_n 0, 1) := getB' kX11_carryField_0 0 rfl
theorem dX11_carryField_1 : decode cX11_carryField 1 = .ok (.getfield 12, 3) := getB' kX11_carryField_0 1 rfl
theorem dX11_carryField_4 : decode cX11_carryField 4 = .ok (.aload_n 1, 1) := getB' kX11_carryField_0 2 rfl
theorem dX11_carryField_5 : decode cX11_carryField 5 = .ok (.getfield 344, 3) := getB' kX11_carryField_0 3 rfl
theorem dX11_carryField_8 : decode cX11_carryField 8 = .ok (.iload_n 2, 1) := getB' kX11_carryField_0 4 rfl
theorem dX11_carryField_9 : decode cX11_carryField 9 = .ok (.invokevirtual 508, 3) := getB' kX11_carryField_0 5 rfl
theorem dX11_carryField_12 : decode cX11_carryField 12 = .ok (.istore 4, 2) := getB' kX11_carryField_0 6 rfl
theorem dX11_carryField_14 : decode cX11_carryField 14 = .ok (.iload_n 3, 1) := getB' kX11_carryField_0 7 rfl
theorem dX11_carryField_15 : decode cX11_carryField 15 = .ok (.ifCond .ne 15, 3) := getB' kX11_carryField_0 8 rfl
theorem dX11_carryField_18 : decode cX11_carryField 18 = .ok (.aload_n 0, 1) := getB' kX11_carryField_0 9 rfl
theorem dX11_carryField_19 : decode cX11_carryField 19 = .ok (.getfield 12, 3) := getB' kX11_carryField_0 10 rfl
theorem dX11_carryField_22 : decode cX11_carryField 22 = .ok (.iload 4, 2) := getB' kX11_carryField_0 11 rfl
def LX11_carryField_1 : List (Nat × Instr × Nat) := [(24, .invokevirtual 179, 3), (27, .ifCond .ne 8, 3), (30, .aload_n 1, 1), (31, .iconst 1, 1), (32, .putfield 511, 3), (35, .iload 4, 2), (37, .iconst (-1), 1), (38, .if_icmp .eq 9, 3), (41, .aload_n 1, 1), (42, .iload 4, 2), (44, .putfield 344, 3), (47, .return_, 1)]
theorem kX11_carryField_1 : chkB cX11_carryField LX11_carryField_1 = true := by decide +kernel
theorem dX11_carryField_24 : decode cX11_carryField 24 = .ok (.invokevirtual 179, 3) := getB' kX11_carryField_1 0 rfl
theorem dX11_carryField_27 : decode cX11_carryField 27 = .ok (.ifCond .ne 8, 3) := getB' kX11_carryField_1 1 rfl
theorem dX11_carryField_30 : decode cX11_carryField 30 = .ok (.aload_n 1, 1) := getB' kX11_carryField_1 2 rfl
theorem dX11_carryField_31 : decode cX11_carryField 31 = .ok (.iconst 1, 1) := getB' kX11_carryField_1 3 rfl
theorem dX11_carryField_32 : decode cX11_carryField 32 = .ok (.putfield 511, 3) := getB' kX11_carryField_1 4 rfl
theorem dX11_carryField_35 : decode cX11_carryField 35 = .ok (.iload 4, 2) := getB' kX11_carryField_1 5 rfl
theorem dX11_carryField_37 : decode cX11_carryField 37 = .ok (.iconst (-1), 1) := getB' kX11_carryField_1 6 rfl
theorem dX11_carryField_38 : decode cX11_carryField 38 = .ok (.if_icmp .eq 9, 3) := getB' kX11_carryField_1 7 rfl
theorem dX11_carryField_41 : decode cX11_carryField 41 = .ok (.aload_n 1, 1) := getB' kX11_carryField_1 8 rfl
theorem dX11_carryField_42 : decode cX11_carryField 42 = .ok (.iload 4, 2) := getB' kX11_carryField_1 9 rfl
theorem dX11_carryField_44 : decode cX11_carryField 44 = .ok (.putfield 344, 3) := getB' kX11_carryField_1 10 rfl
theorem dX11_carryField_47 : decode cX11_carryField 47 = .ok (.return_, 1) := getB' kX11_carryField_1 11 rfl
def LX11_loseStation_0 : List (Nat × Instr × Nat) := [(0, .aload_n 1, 1), (1, .iconst 1, 1), (2, .putfield 511, 3), (5, .aload_n 0, 1), (6, .iconst 2, 1), (7, .aload_n 1, 1), (8, .getfield 186, 3), (11, .invokevirtual 192, 3), (14, .aload_n 0, 1), (15, .iconst 2, 1), (16, .aload_n 1, 1), (17, .getfield 421, 3)]
theorem kX11_loseStation_0 : chkB cX11_loseStation LX11_loseStation_0 = true := by decide +kernel
theorem dX11_loseStation_0 : decode cX11_loseStation 0 = .ok (.aload_n 1, 1) := getB' kX11_loseStation_0 0 rfl
theorem dX11_loseStation_1 : decode cX11_loseStation 1 = .ok (.iconst 1, 1) := getB' kX11_loseStation_0 1 rfl
theorem dX11_loseStation_2 : decode cX11_loseStation 2 = .ok (.putfield 511, 3) := getB' kX11_loseStation_0 2 rfl
theorem dX11_loseStation_5 : decode cX11_loseStation 5 = .ok (.aload_n 0, 1) := getB' kX11_loseStation_0 3 rfl
theorem dX11_loseStation_6 : decode cX11_loseStation 6 = .ok (.iconst 2, 1) := getB' kX11_loseStation_0 4 rfl
theorem dX11_loseStation_7 : decode cX11_loseStation 7 = .ok (.aload_n 1, 1) := getB' kX11_loseStation_0 5 rfl
theorem dX11_loseStation_8 : decode cX11_loseStation 8 = .ok (.getfield 186, 3) := getB' kX11_loseStation_0 6 rfl
theorem dX11_loseStation_11 : decode cX11_loseStation 11 = .ok (.invokevirtual 192, 3) := getB' kX11_loseStation_0 7 rfl
theorem dX11_loseStation_14 : decode cX11_loseStation 14 = .ok (.aload_n 0, 1) := getB' kX11_loseStation_0 8 rfl
theorem dX11_loseStation_15 : decode cX11_loseStation 15 = .ok (.iconst 2, 1) := getB' kX11_loseStation_0 9 rfl
theorem dX11_loseStation_16 : decode cX11_loseStation 16 = .ok (.aload_n 1, 1) := getB' kX11_loseStation_0 10 rfl
theorem dX11_loseStation_17 : decode cX11_loseStation 17 = .ok (.getfield 421, 3) := getB' kX11_loseStation_0 11 rfl
def LX11_loseStation_1 : List (Nat × Instr × Nat) := [(20, .invokevirtual 192, 3), (23, .aload_n 1, 1), (24, .iconst 0, 1), (25, .putfield 186, 3), (28, .aload_n 1, 1), (29, .iconst 0, 1), (30, .putfield 421, 3), (33, .iconst 0, 1), (34, .istore_n 2, 1), (35, .iload_n 2, 1), (36, .iconst 4, 1), (37, .if_icmp .ge 31, 3)]
theorem kX11_loseStation_1 : chkB cX11_loseStation LX11_loseStation_1 = true := by decide +kernel
theorem dX11_loseStation_20 : decode cX11_loseStation 20 = .ok (.invokevirtual 192, 3) := getB' kX11_loseStation_1 0 rfl
theorem dX11_loseStation_23 : decode cX11_loseStation 23 = .ok (.aload_n 1, 1) := getB' kX11_loseStation_1 1 rfl
theorem dX11_loseStation_24 : decode cX11_loseStation 24 = .ok (.iconst 0, 1) := getB' kX11_loseStation_1 2 rfl
theorem dX11_loseStation_25 : decode cX11_loseStation 25 = .ok (.putfield 186, 3) := getB' kX11_loseStation_1 3 rfl
theorem dX11_loseStation_28 : decode cX11_loseStation 28 = .ok (.aload_n 1, 1) := getB' kX11_loseStation_1 4 rfl
theorem dX11_loseStation_29 : decode cX11_loseStation 29 = .ok (.iconst 0, 1) := getB' kX11_loseStation_1 5 rfl
theorem dX11_loseStation_30 : decode cX11_loseStation 30 = .ok (.putfield 421, 3) := getB' kX11_loseStation_1 6 rfl
theorem dX11_loseStation_33 : decode cX11_loseStation 33 = .ok (.iconst 0, 1) := getB' kX11_loseStation_1 7 rfl
theorem dX11_loseStation_34 : decode cX11_loseStation 34 = .ok (.istore_n 2, 1) := getB' kX11_loseStation_1 8 rfl
theorem dX11_loseStation_35 : decode cX11_loseStation 35 = .ok (.iload_n 2, 1) := getB' kX11_loseStation_1 9 rfl
theorem dX11_loseStation_36 : decode cX11_loseStation 36 = .ok (.iconst 4, 1) := getB' kX11_loseStation_1 10 rfl
theorem dX11_loseStation_37 : decode cX11_loseStation 37 = .ok (.if_icmp .ge 31, 3) := getB' kX11_loseStation_1 11 rfl
def LX11_loseStation_2 : List (Nat × Instr × Nat) := [(40, .aload_n 0, 1), (41, .iconst 5, 1), (42, .aload_n 1, 1), (43, .getfield 491, 3), (46, .iload_n 2, 1), (47, .invokestatic 253, 3), (50, .invokevirtual 192, 3), (53, .aload_n 1, 1), (54, .getfield 491, 3), (57, .iload_n 2, 1), (58, .iconst 0, 1), (59, .invokestatic 108, 3)]
theorem kX11_loseStation_2 : chkB cX11_loseStation LX11_loseStation_2 = true := by decide +kernel
theorem dX11_loseStation_40 : decode cX11_loseStation 40 = .ok (.aload_n 0, 1) := getB' kX11_loseStation_2 0 rfl
theorem dX11_loseStation_41 : decode cX11_loseStation 41 = .ok (.iconst 5, 1) := getB' kX11_loseStation_2 1 rfl
theorem dX11_loseStation_42 : decode cX11_loseStation 42 = .ok (.aload_n 1, 1) := getB' kX11_loseStation_2 2 rfl
theorem dX11_loseStation_43 : decode cX11_loseStation 43 = .ok (.getfield 491, 3) := getB' kX11_loseStation_2 3 rfl
theorem dX11_loseStation_46 : decode cX11_loseStation 46 = .ok (.iload_n 2, 1) := getB' kX11_loseStation_2 4 rfl
theorem dX11_loseStation_47 : decode cX11_loseStation 47 = .ok (.invokestatic 253, 3) := getB' kX11_loseStation_2 5 rfl
theorem dX11_loseStation_50 : decode cX11_loseStation 50 = .ok (.invokevirtual 192, 3) := getB' kX11_loseStation_2 6 rfl
theorem dX11_loseStation_53 : decode cX11_loseStation 53 = .ok (.aload_n 1, 1) := getB' kX11_loseStation_2 7 rfl
theorem dX11_loseStation_54 : decode cX11_loseStation 54 = .ok (.getfield 491, 3) := getB' kX11_loseStation_2 8 rfl
theorem dX11_loseStation_57 : decode cX11_loseStation 57 = .ok (.iload_n 2, 1) := getB' kX11_loseStation_2 9 rfl
theorem dX11_loseStation_58 : decode cX11_loseStation 58 = .ok (.iconst 0, 1) := getB' kX11_loseStation_2 10 rfl
theorem dX11_loseStation_59 : decode cX11_loseStation 59 = .ok (.invokestatic 108, 3) := getB' kX11_loseStation_2 11 rfl
def LX11_loseStation_3 : List (Nat × Instr × Nat) := [(62, .iinc 2 1, 3), (65, .goto (-30), 3), (68, .aload_n 0, 1), (69, .aload_n 1, 1), (70, .invokevirtual 504, 3), (73, .return_, 1)]
theorem kX11_loseStation_3 : chkB cX11_loseStation LX11_loseStation_3 = true := by decide +kernel
theorem dX11_loseStation_62 : decode cX11_loseStation 62 = .ok (.iinc 2 1, 3) := getB' kX11_loseStation_3 0 rfl
theorem dX11_loseStation_65 : decode cX11_loseStation 65 = .ok (.goto (-30), 3) := getB' kX11_loseStation_3 1 rfl
theorem dX11_loseStation_68 : decode cX11_loseStation 68 = .ok (.aload_n 0, 1) := getB' kX11_loseStation_3 2 rfl
theorem dX11_loseStation_69 : decode cX11_loseStation 69 = .ok (.aload_n 1, 1) := getB' kX11_loseStation_3 3 rfl
theorem dX11_loseStation_70 : decode cX11_loseStation 70 = .ok (.invokevirtual 504, 3) := getB' kX11_loseStation_3 4 rfl
theorem dX11_loseStation_73 : decode cX11_loseStation 73 = .ok (.return_, 1) := getB' kX11_loseStation_3 5 rfl
def LX11_passShip_0 : List (Nat × Instr × Nat) := [(0, .aload_n 1, 1), (1, .ifnonnull 4, 3), (4, .return_, 1), (5, .aload_n 1, 1), (6, .getfield 410, 3), (9, .iconst 2, 1), (10, .if_icmp .eq 25, 3), (13, .aload_n 1, 1), (14, .getfield 410, 3), (17, .iconst 1, 1), (18, .if_icmp .ne 25, 3), (21, .aload_n 1, 1)]
theorem kX11_passShip_0 : chkB cX11_passShip LX11_passShip_0 = true := by decide +kernel
theorem dX11_passShip_0 : decode cX11_passShip 0 = .ok (.aload_n 1, 1) := getB' kX11_passShip_0 0 rfl
theorem dX11_passShip_1 : decode cX11_passShip 1 = .ok (.ifnonnull 4, 3) := getB' kX11_passShip_0 1 rfl
theorem dX11_passShip_4 : decode cX11_passShip 4 = .ok (.return_, 1) := getB' kX11_passShip_0 2 rfl
theorem dX11_passShip_5 : decode cX11_passShip 5 = .ok (.aload_n 1, 1) := getB' kX11_passShip_0 3 rfl
theorem dX11_passShip_6 : decode cX11_passShip 6 = .ok (.getfield 410, 3) := getB' kX11_passShip_0 4 rfl
theorem dX11_passShip_9 : decode cX11_passShip 9 = .ok (.iconst 2, 1) := getB' kX11_passShip_0 5 rfl
theorem dX11_passShip_10 : decode cX11_passShip 10 = .ok (.if_icmp .eq 25, 3) := getB' kX11_passShip_0 6 rfl
theorem dX11_passShip_13 : decode cX11_passShip 13 = .ok (.aload_n 1, 1) := getB' kX11_passShip_0 7 rfl
theorem dX11_passShip_14 : decode cX11_passShip 14 = .ok (.getfield 410, 3) := getB' kX11_passShip_0 8 rfl
theorem dX11_passShip_17 : decode cX11_passShip 17 = .ok (.iconst 1, 1) := getB' kX11_passShip_0 9 rfl
theorem dX11_passShip_18 : decode cX11_passShip 18 = .ok (.if_icmp .ne 25, 3) := getB' kX11_passShip_0 10 rfl
theorem dX11_passShip_21 : decode cX11_passShip 21 = .ok (.aload_n 1, 1) := getB' kX11_passShip_0 11 rfl
def LX11_passShip_1 : List (Nat × Instr × Nat) := [(22, .getfield 522, 3), (25, .aload_n 0, 1), (26, .getfield 12, 3), (29, .getfield 145, 3), (32, .if_icmp .ne 11, 3), (35, .aload_n 0, 1), (36, .aload_n 1, 1), (37, .invokevirtual 525, 3), (40, .goto 30, 3), (43, .aload_n 1, 1), (44, .getfield 410, 3), (47, .iconst 3, 1)]
theorem kX11_passShip_1 : chkB cX11_passShip LX11_passShip_1 = true := by decide +kernel
theorem dX11_passShip_22 : decode cX11_passShip 22 = .ok (.getfield 522, 3) := getB' kX11_passShip_1 0 rfl
theorem dX11_passShip_25 : decode cX11_passShip 25 = .ok (.aload_n 0, 1) := getB' kX11_passShip_1 1 rfl
theorem dX11_passShip_26 : decode cX11_passShip 26 = .ok (.getfield 12, 3) := getB' kX11_passShip_1 2 rfl
theorem dX11_passShip_29 : decode cX11_passShip 29 = .ok (.getfield 145, 3) := getB' kX11_passShip_1 3 rfl
theorem dX11_passShip_32 : decode cX11_passShip 32 = .ok (.if_icmp .ne 11, 3) := getB' kX11_passShip_1 4 rfl
theorem dX11_passShip_35 : decode cX11_passShip 35 = .ok (.aload_n 0, 1) := getB' kX11_passShip_1 5 rfl
theorem dX11_passShip_36 : decode cX11_passShip 36 = .ok (.aload_n 1, 1) := getB' kX11_passShip_1 6 rfl
theorem dX11_passShip_37 : decode cX11_passShip 37 = .ok (.invokevirtual 525, 3) := getB' kX11_passShip_1 7 rfl
theorem dX11_passShip_40 : decode cX11_passShip 40 = .ok (.goto 30, 3) := getB' kX11_passShip_1 8 rfl
theorem dX11_passShip_43 : decode cX11_passShip 43 = .ok (.aload_n 1, 1) := getB' kX11_passShip_1 9 rfl
theorem dX11_passShip_44 : decode cX11_passShip 44 = .ok (.getfield 410, 3) := getB' kX11_passShip_1 10 rfl
theorem dX11_passShip_47 : decode cX11_passShip 47 = .ok (.iconst 3, 1) := getB' kX11_passShip_1 11 rfl
def LX11_passShip_2 : List (Nat × Instr × Nat) := [(48, .if_icmp .ne 22, 3), (51, .aload_n 1, 1), (52, .getfield 522, 3), (55, .aload_n 0, 1), (56, .getfield 12, 3), (59, .getfield 145, 3), (62, .if_icmp .ne 8, 3), (65, .aload_n 0, 1), (66, .aload_n 1, 1), (67, .invokevirtual 528, 3), (70, .return_, 1)]
theorem kX11_passShip_2 : chkB cX11_passShip LX11_passShip_2 = true := by decide +kernel
theorem dX11_passShip_48 : decode cX11_passShip 48 = .ok (.if_icmp .ne 22, 3) := getB' kX11_passShip_2 0 rfl
theorem dX11_passShip_51 : decode cX11_passShip 51 = .ok (.aload_n 1, 1) := getB' kX11_passShip_2 1 rfl
theorem dX11_passShip_52 : decode cX11_passShip 52 = .ok (.getfield 522, 3) := getB' kX11_passShip_2 2 rfl
theorem dX11_passShip_55 : decode cX11_passShip 55 = .ok (.aload_n 0, 1) := getB' kX11_passShip_2 3 rfl
theorem dX11_passShip_56 : decode cX11_passShip 56 = .ok (.getfield 12, 3) := getB' kX11_passShip_2 4 rfl
theorem dX11_passShip_59 : decode cX11_passShip 59 = .ok (.getfield 145, 3) := getB' kX11_passShip_2 5 rfl
theorem dX11_passShip_62 : decode cX11_passShip 62 = .ok (.if_icmp .ne 8, 3) := getB' kX11_passShip_2 6 rfl
theorem dX11_passShip_65 : decode cX11_passShip 65 = .ok (.aload_n 0, 1) := getB' kX11_passShip_2 7 rfl
theorem dX11_passShip_66 : decode cX11_passShip 66 = .ok (.aload_n 1, 1) := getB' kX11_passShip_2 8 rfl
theorem dX11_passShip_67 : decode cX11_passShip 67 = .ok (.invokevirtual 528, 3) := getB' kX11_passShip_2 9 rfl
theorem dX11_passShip_70 : decode cX11_passShip 70 = .ok (.return_, 1) := getB' kX11_passShip_2 10 rfl
def LX11_meetIce_0 : List (Nat × Instr × Nat) := [(0, .aload_n 0, 1), (1, .getfield 12, 3), (4, .aload_n 1, 1), (5, .getfield 531, 3), (8, .aload_n 0, 1), (9, .getfield 12, 3), (12, .getfield 145, 3), (15, .invokevirtual 534, 3), (18, .aload_n 1, 1), (19, .getfield 537, 3), (22, .if_icmp .gt 20, 3), (25, .aload_n 0, 1)]
theorem kX11_meetIce_0 : chkB cX11_meetIce LX11_meetIce_0 = true := by decide +kernel
theorem dX11_meetIce_0 : decode cX11_meetIce 0 = .ok (.aload_n 0, 1) := getB' kX11_meetIce_0 0 rfl
theorem dX11_meetIce_1 : decode cX11_meetIce 1 = .ok (.getfield 12, 3) := getB' kX11_meetIce_0 1 rfl
theorem dX11_meetIce_4 : decode cX11_meetIce 4 = .ok (.aload_n 1, 1) := getB' kX11_meetIce_0 2 rfl
theorem dX11_meetIce_5 : decode cX11_meetIce 5 = .ok (.getfield 531, 3) := getB' kX11_meetIce_0 3 rfl
theorem dX11_meetIce_8 : decode cX11_meetIce 8 = .ok (.aload_n 0, 1) := getB' kX11_meetIce_0 4 rfl
theorem dX11_meetIce_9 : decode cX11_meetIce 9 = .ok (.getfield 12, 3) := getB' kX11_meetIce_0 5 rfl
theorem dX11_meetIce_12 : decode cX11_meetIce 12 = .ok (.getfield 145, 3) := getB' kX11_meetIce_0 6 rfl
theorem dX11_meetIce_15 : decode cX11_meetIce 15 = .ok (.invokevirtual 534, 3) := getB' kX11_meetIce_0 7 rfl
theorem dX11_meetIce_18 : decode cX11_meetIce 18 = .ok (.aload_n 1, 1) := getB' kX11_meetIce_0 8 rfl
theorem dX11_meetIce_19 : decode cX11_meetIce 19 = .ok (.getfield 537, 3) := getB' kX11_meetIce_0 9 rfl
theorem dX11_meetIce_22 : decode cX11_meetIce 22 = .ok (.if_icmp .gt 20, 3) := getB' kX11_meetIce_0 10 rfl
theorem dX11_meetIce_25 : decode cX11_meetIce 25 = .ok (.aload_n 0, 1) := getB' kX11_meetIce_0 11 rfl
def LX11_meetIce_1 : List (Nat × Instr × Nat) := [(26, .aload_n 1, 1), (27, .invokevirtual 540, 3), (30, .aload_n 1, 1), (31, .aload_n 0, 1), (32, .getfield 12, 3), (35, .getfield 145, 3), (38, .invokevirtual 543, 3), (41, .return_, 1), (42, .aload_n 1, 1), (43, .iconst 2, 1), (44, .putfield 410, 3), (47, .aload_n 1, 1)]
theorem kX11_meetIce_1 : chkB cX11_meetIce LX11_meetIce_1 = true := by decide +kernel
theorem dX11_meetIce_26 : decode cX11_meetIce 26 = .ok (.aload_n 1, 1) := getB' kX11_meetIce_1 0 rfl
theorem dX11_meetIce_27 : decode cX11_meetIce 27 = .ok (.invokevirtual 540, 3) := getB' kX11_meetIce_1 1 rfl
theorem dX11_meetIce_30 : decode cX11_meetIce 30 = .ok (.aload_n 1, 1) := getB' kX11_meetIce_1 2 rfl
theorem dX11_meetIce_31 : decode cX11_meetIce 31 = .ok (.aload_n 0, 1) := getB' kX11_meetIce_1 3 rfl
theorem dX11_meetIce_32 : decode cX11_meetIce 32 = .ok (.getfield 12, 3) := getB' kX11_meetIce_1 4 rfl
theorem dX11_meetIce_35 : decode cX11_meetIce 35 = .ok (.getfield 145, 3) := getB' kX11_meetIce_1 5 rfl
theorem dX11_meetIce_38 : decode cX11_meetIce 38 = .ok (.invokevirtual 543, 3) := getB' kX11_meetIce_1 6 rfl
theorem dX11_meetIce_41 : decode cX11_meetIce 41 = .ok (.return_, 1) := getB' kX11_meetIce_1 7 rfl
theorem dX11_meetIce_42 : decode cX11_meetIce 42 = .ok (.aload_n 1, 1) := getB' kX11_meetIce_1 8 rfl
theorem dX11_meetIce_43 : decode cX11_meetIce 43 = .ok (.iconst 2, 1) := getB' kX11_meetIce_1 9 rfl
theorem dX11_meetIce_44 : decode cX11_meetIce 44 = .ok (.putfield 410, 3) := getB' kX11_meetIce_1 10 rfl
theorem dX11_meetIce_47 : decode cX11_meetIce 47 = .ok (.aload_n 1, 1) := getB' kX11_meetIce_1 11 rfl
def LX11_meetIce_2 : List (Nat × Instr × Nat) := [(48, .dup, 1), (49, .getfield 546, 3), (52, .iconst 1, 1), (53, .iadd, 1), (54, .putfield 546, 3), (57, .aload_n 1, 1), (58, .getfield 546, 3), (61, .bipush 60, 2), (63, .if_icmp .lt 14, 3), (66, .aload_n 1, 1), (67, .aload_n 0, 1), (68, .getfield 12, 3)]
theorem kX11_meetIce_2 : chkB cX11_meetIce LX11_meetIce_2 = true := by decide +kernel
theorem dX11_meetIce_48 : decode cX11_meetIce 48 = .ok (.dup, 1) := getB' kX11_meetIce_2 0 rfl
theorem dX11_meetIce_49 : decode cX11_meetIce 49 = .ok (.getfield 546, 3) := getB' kX11_meetIce_2 1 rfl
theorem dX11_meetIce_52 : decode cX11_meetIce 52 = .ok (.iconst 1, 1) := getB' kX11_meetIce_2 2 rfl
theorem dX11_meetIce_53 : decode cX11_meetIce 53 = .ok (.iadd, 1) := getB' kX11_meetIce_2 3 rfl
theorem dX11_meetIce_54 : decode cX11_meetIce 54 = .ok (.putfield 546, 3) := getB' kX11_meetIce_2 4 rfl
theorem dX11_meetIce_57 : decode cX11_meetIce 57 = .ok (.aload_n 1, 1) := getB' kX11_meetIce_2 5 rfl
theorem dX11_meetIce_58 : decode cX11_meetIce 58 = .ok (.getfield 546, 3) := getB' kX11_meetIce_2 6 rfl
theorem dX11_meetIce_61 : decode cX11_meetIce 61 = .ok (.bipush 60, 2) := getB' kX11_meetIce_2 7 rfl
theorem dX11_meetIce_63 : decode cX11_meetIce 63 = .ok (.if_icmp .lt 14, 3) := getB' kX11_meetIce_2 8 rfl
theorem dX11_meetIce_66 : decode cX11_meetIce 66 = .ok (.aload_n 1, 1) := getB' kX11_meetIce_2 9 rfl
theorem dX11_meetIce_67 : decode cX11_meetIce 67 = .ok (.aload_n 0, 1) := getB' kX11_meetIce_2 10 rfl
theorem dX11_meetIce_68 : decode cX11_meetIce 68 = .ok (.getfield 12, 3) := getB' kX11_meetIce_2 11 rfl
def LX11_meetIce_3 : List (Nat × Instr × Nat) := [(71, .getfield 145, 3), (74, .invokevirtual 543, 3), (77, .return_, 1)]
theorem kX11_meetIce_3 : chkB cX11_meetIce LX11_meetIce_3 = true := by decide +kernel
theorem dX11_meetIce_71 : decode cX11_meetIce 71 = .ok (.getfield 145, 3) := getB' kX11_meetIce_3 0 rfl
theorem dX11_meetIce_74 : decode cX11_meetIce 74 = .ok (.invokevirtual 543, 3) := getB' kX11_meetIce_3 1 rfl
theorem dX11_meetIce_77 : decode cX11_meetIce 77 = .ok (.return_, 1) := getB' kX11_meetIce_3 2 rfl
def LX11_unload_0 : List (Nat × Instr × Nat) := [(0, .aload_n 0, 1), (1, .aload_n 1, 1), (2, .getfield 549, 3), (5, .invokevirtual 195, 3), (8, .astore_n 2, 1), (9, .aload_n 2, 1), (10, .ifnull 17, 3), (13, .aload_n 0, 1), (14, .getfield 12, 3), (17, .aload_n 2, 1), (18, .getfield 344, 3), (21, .invokevirtual 413, 3)]
theorem kX11_unload_0 : chkB cX11_unload LX11_unload_0 = true := by decide +kernel
theorem dX11_unload_0 : decode cX11_unload 0 = .ok (.aload_n 0, 1) := getB' kX11_unload_0 0 rfl
theorem dX11_unload_1 : decode cX11_unload 1 = .ok (.aload_n 1, 1) := getB' kX11_unload_0 1 rfl
theorem dX11_unload_2 : decode cX11_unload 2 = .ok (.getfield 549, 3) := getB' kX11_unload_0 2 rfl
theorem dX11_unload_5 : decode cX11_unload 5 = .ok (.invokevirtual 195, 3) := getB' kX11_unload_0 3 rfl
theorem dX11_unload_8 : decode cX11_unload 8 = .ok (.astore_n 2, 1) := getB' kX11_unload_0 4 rfl
theorem dX11_unload_9 : decode cX11_unload 9 = .ok (.aload_n 2, 1) := getB' kX11_unload_0 5 rfl
theorem dX11_unload_10 : decode cX11_unload 10 = .ok (.ifnull 17, 3) := getB' kX11_unload_0 6 rfl
theorem dX11_unload_13 : decode cX11_unload 13 = .ok (.aload_n 0, 1) := getB' kX11_unload_0 7 rfl
theorem dX11_unload_14 : decode cX11_unload 14 = .ok (.getfield 12, 3) := getB' kX11_unload_0 8 rfl
theorem dX11_unload_17 : decode cX11_unload 17 = .ok (.aload_n 2, 1) := getB' kX11_unload_0 9 rfl
theorem dX11_unload_18 : decode cX11_unload 18 = .ok (.getfield 344, 3) := getB' kX11_unload_0 10 rfl
theorem dX11_unload_21 : decode cX11_unload 21 = .ok (.invokevirtual 413, 3) := getB' kX11_unload_0 11 rfl
def LX11_unload_1 : List (Nat × Instr × Nat) := [(24, .ifCond .ne 4, 3), (27, .return_, 1), (28, .aload_n 2, 1), (29, .dup, 1), (30, .getfield 186, 3), (33, .aload_n 1, 1), (34, .getfield 552, 3), (37, .iadd, 1), (38, .putfield 186, 3), (41, .aload_n 1, 1), (42, .iconst 0, 1), (43, .putfield 552, 3)]
theorem kX11_unload_1 : chkB cX11_unload LX11_unload_1 = true := by decide +kernel
theorem dX11_unload_24 : decode cX11_unload 24 = .ok (.ifCond .ne 4, 3) := getB' kX11_unload_1 0 rfl
theorem dX11_unload_27 : decode cX11_unload 27 = .ok (.return_, 1) := getB' kX11_unload_1 1 rfl
theorem dX11_unload_28 : decode cX11_unload 28 = .ok (.aload_n 2, 1) := getB' kX11_unload_1 2 rfl
theorem dX11_unload_29 : decode cX11_unload 29 = .ok (.dup, 1) := getB' kX11_unload_1 3 rfl
theorem dX11_unload_30 : decode cX11_unload 30 = .ok (.getfield 186, 3) := getB' kX11_unload_1 4 rfl
theorem dX11_unload_33 : decode cX11_unload 33 = .ok (.aload_n 1, 1) := getB' kX11_unload_1 5 rfl
theorem dX11_unload_34 : decode cX11_unload 34 = .ok (.getfield 552, 3) := getB' kX11_unload_1 6 rfl
theorem dX11_unload_37 : decode cX11_unload 37 = .ok (.iadd, 1) := getB' kX11_unload_1 7 rfl
theorem dX11_unload_38 : decode cX11_unload 38 = .ok (.putfield 186, 3) := getB' kX11_unload_1 8 rfl
theorem dX11_unload_41 : decode cX11_unload 41 = .ok (.aload_n 1, 1) := getB' kX11_unload_1 9 rfl
theorem dX11_unload_42 : decode cX11_unload 42 = .ok (.iconst 0, 1) := getB' kX11_unload_1 10 rfl
theorem dX11_unload_43 : decode cX11_unload 43 = .ok (.putfield 552, 3) := getB' kX11_unload_1 11 rfl
def LX11_unload_2 : List (Nat × Instr × Nat) := [(46, .iconst 3, 1), (47, .istore_n 3, 1), (48, .iload_n 3, 1), (49, .ifCond .lt 53, 3), (52, .aload_n 1, 1), (53, .getfield 407, 3), (56, .aload_n 1, 1), (57, .getfield 553, 3), (60, .isub, 1), (61, .aload_n 2, 1), (62, .getfield 491, 3), (65, .iload_n 3, 1)]
theorem kX11_unload_2 : chkB cX11_unload LX11_unload_2 = true := by decide +kernel
theorem dX11_unload_46 : decode cX11_unload 46 = .ok (.iconst 3, 1) := getB' kX11_unload_2 0 rfl
theorem dX11_unload_47 : decode cX11_unload 47 = .ok (.istore_n 3, 1) := getB' kX11_unload_2 1 rfl
theorem dX11_unload_48 : decode cX11_unload 48 = .ok (.iload_n 3, 1) := getB' kX11_unload_2 2 rfl
theorem dX11_unload_49 : decode cX11_unload 49 = .ok (.ifCond .lt 53, 3) := getB' kX11_unload_2 3 rfl
theorem dX11_unload_52 : decode cX11_unload 52 = .ok (.aload_n 1, 1) := getB' kX11_unload_2 4 rfl
theorem dX11_unload_53 : decode cX11_unload 53 = .ok (.getfield 407, 3) := getB' kX11_unload_2 5 rfl
theorem dX11_unload_56 : decode cX11_unload 56 = .ok (.aload_n 1, 1) := getB' kX11_unload_2 6 rfl
theorem dX11_unload_57 : decode cX11_unload 57 = .ok (.getfield 553, 3) := getB' kX11_unload_2 7 rfl
theorem dX11_unload_60 : decode cX11_unload 60 = .ok (.isub, 1) := getB' kX11_unload_2 8 rfl
theorem dX11_unload_61 : decode cX11_unload 61 = .ok (.aload_n 2, 1) := getB' kX11_unload_2 9 rfl
theorem dX11_unload_62 : decode cX11_unload 62 = .ok (.getfield 491, 3) := getB' kX11_unload_2 10 rfl
theorem dX11_unload_65 : decode cX11_unload 65 = .ok (.iload_n 3, 1) := getB' kX11_unload_2 11 rfl
def LX11_unload_3 : List (Nat × Instr × Nat) := [(66, .invokestatic 253, 3), (69, .invokestatic 479, 3), (72, .istore 4, 2), (74, .aload_n 2, 1), (75, .getfield 491, 3), (78, .iload_n 3, 1), (79, .iload 4, 2), (81, .ineg, 1), (82, .invokestatic 476, 3), (85, .aload_n 1, 1), (86, .dup, 1), (87, .getfield 553, 3)]
theorem kX11_unload_3 : chkB cX11_unload LX11_unload_3 = true := by decide +kernel
theorem dX11_unload_66 : decode cX11_unload 66 = .ok (.invokestatic 253, 3) := getB' kX11_unload_3 0 rfl
theorem dX11_unload_69 : decode cX11_unload 69 = .ok (.invokestatic 479, 3) := getB' kX11_unload_3 1 rfl
theorem dX11_unload_72 : decode cX11_unload 72 = .ok (.istore 4, 2) := getB' kX11_unload_3 2 rfl
theorem dX11_unload_74 : decode cX11_unload 74 = .ok (.aload_n 2, 1) := getB' kX11_unload_3 3 rfl
theorem dX11_unload_75 : decode cX11_unload 75 = .ok (.getfield 491, 3) := getB' kX11_unload_3 4 rfl
theorem dX11_unload_78 : decode cX11_unload 78 = .ok (.iload_n 3, 1) := getB' kX11_unload_3 5 rfl
theorem dX11_unload_79 : decode cX11_unload 79 = .ok (.iload 4, 2) := getB' kX11_unload_3 6 rfl
theorem dX11_unload_81 : decode cX11_unload 81 = .ok (.ineg, 1) := getB' kX11_unload_3 7 rfl
theorem dX11_unload_82 : decode cX11_unload 82 = .ok (.invokestatic 476, 3) := getB' kX11_unload_3 8 rfl
theorem dX11_unload_85 : decode cX11_unload 85 = .ok (.aload_n 1, 1) := getB' kX11_unload_3 9 rfl
theorem dX11_unload_86 : decode cX11_unload 86 = .ok (.dup, 1) := getB' kX11_unload_3 10 rfl
theorem dX11_unload_87 : decode cX11_unload 87 = .ok (.getfield 553, 3) := getB' kX11_unload_3 11 rfl
def LX11_unload_4 : List (Nat × Instr × Nat) := [(90, .iload 4, 2), (92, .iadd, 1), (93, .putfield 553, 3), (96, .iinc 3 (-1), 3), (99, .goto (-51), 3), (102, .return_, 1)]
theorem kX11_unload_4 : chkB cX11_unload LX11_unload_4 = true := by decide +kernel
theorem dX11_unload_90 : decode cX11_unload 90 = .ok (.iload 4, 2) := getB' kX11_unload_4 0 rfl
theorem dX11_unload_92 : decode cX11_unload 92 = .ok (.iadd, 1) := getB' kX11_unload_4 1 rfl
theorem dX11_unload_93 : decode cX11_unload 93 = .ok (.putfield 553, 3) := getB' kX11_unload_4 2 rfl
theorem dX11_unload_96 : decode cX11_unload 96 = .ok (.iinc 3 (-1), 3) := getB' kX11_unload_4 3 rfl
theorem dX11_unload_99 : decode cX11_unload 99 = .ok (.goto (-51), 3) := getB' kX11_unload_4 4 rfl
theorem dX11_unload_102 : decode cX11_unload 102 = .ok (.return_, 1) := getB' kX11_unload_4 5 rfl
def LX11_comeHome_0 : List (Nat × Instr × Nat) := [(0, .aload_n 0, 1), (1, .iconst 3, 1), (2, .aload_n 1, 1), (3, .getfield 552, 3), (6, .invokevirtual 192, 3), (9, .aload_n 0, 1), (10, .bipush 6, 2), (12, .aload_n 1, 1), (13, .getfield 553, 3), (16, .invokevirtual 192, 3), (19, .aload_n 1, 1), (20, .iconst 0, 1)]
theorem kX11_comeHome_0 : chkB cX11_comeHome LX11_comeHome_0 = true := by decide +kernel
theorem dX11_comeHome_0 : decode cX11_comeHome 0 = .ok (.aload_n 0, 1) := getB' kX11_comeHome_0 0 rfl
theorem dX11_comeHome_1 : decode cX11_comeHome 1 = .ok (.iconst 3, 1) := getB' kX11_comeHome_0 1 rfl
theorem dX11_comeHome_2 : decode cX11_comeHome 2 = .ok (.aload_n 1, 1) := getB' kX11_comeHome_0 2 rfl
theorem dX11_comeHome_3 : decode cX11_comeHome 3 = .ok (.getfield 552, 3) := getB' kX11_comeHome_0 3 rfl
theorem dX11_comeHome_6 : decode cX11_comeHome 6 = .ok (.invokevirtual 192, 3) := getB' kX11_comeHome_0 4 rfl
theorem dX11_comeHome_9 : decode cX11_comeHome 9 = .ok (.aload_n 0, 1) := getB' kX11_comeHome_0 5 rfl
theorem dX11_comeHome_10 : decode cX11_comeHome 10 = .ok (.bipush 6, 2) := getB' kX11_comeHome_0 6 rfl
theorem dX11_comeHome_12 : decode cX11_comeHome 12 = .ok (.aload_n 1, 1) := getB' kX11_comeHome_0 7 rfl
theorem dX11_comeHome_13 : decode cX11_comeHome 13 = .ok (.getfield 553, 3) := getB' kX11_comeHome_0 8 rfl
theorem dX11_comeHome_16 : decode cX11_comeHome 16 = .ok (.invokevirtual 192, 3) := getB' kX11_comeHome_0 9 rfl
theorem dX11_comeHome_19 : decode cX11_comeHome 19 = .ok (.aload_n 1, 1) := getB' kX11_comeHome_0 10 rfl
theorem dX11_comeHome_20 : decode cX11_comeHome 20 = .ok (.iconst 0, 1) := getB' kX11_comeHome_0 11 rfl
def LX11_comeHome_1 : List (Nat × Instr × Nat) := [(21, .putfield 552, 3), (24, .aload_n 1, 1), (25, .iconst 0, 1), (26, .putfield 553, 3), (29, .aload_n 1, 1), (30, .iconst 0, 1), (31, .putfield 410, 3), (34, .return_, 1)]
theorem kX11_comeHome_1 : chkB cX11_comeHome LX11_comeHome_1 = true := by decide +kernel
theorem dX11_comeHome_21 : decode cX11_comeHome 21 = .ok (.putfield 552, 3) := getB' kX11_comeHome_1 0 rfl
theorem dX11_comeHome_24 : decode cX11_comeHome 24 = .ok (.aload_n 1, 1) := getB' kX11_comeHome_1 1 rfl
theorem dX11_comeHome_25 : decode cX11_comeHome 25 = .ok (.iconst 0, 1) := getB' kX11_comeHome_1 2 rfl
theorem dX11_comeHome_26 : decode cX11_comeHome 26 = .ok (.putfield 553, 3) := getB' kX11_comeHome_1 3 rfl
theorem dX11_comeHome_29 : decode cX11_comeHome 29 = .ok (.aload_n 1, 1) := getB' kX11_comeHome_1 4 rfl
theorem dX11_comeHome_30 : decode cX11_comeHome 30 = .ok (.iconst 0, 1) := getB' kX11_comeHome_1 5 rfl
theorem dX11_comeHome_31 : decode cX11_comeHome 31 = .ok (.putfield 410, 3) := getB' kX11_comeHome_1 6 rfl
theorem dX11_comeHome_34 : decode cX11_comeHome 34 = .ok (.return_, 1) := getB' kX11_comeHome_1 7 rfl
def LX11_passSledge_0 : List (Nat × Instr × Nat) := [(0, .aload_n 0, 1), (1, .getfield 72, 3), (4, .iload_n 1, 1), (5, .iconst 4, 1), (6, .invokevirtual 209, 3), (9, .ifCond .eq 22, 3), (12, .aload_n 0, 1), (13, .getfield 72, 3), (16, .iload_n 1, 1), (17, .iconst 2, 1), (18, .invokevirtual 209, 3), (21, .aload_n 0, 1)]
theorem kX11_passSledge_0 : chkB cX11_passSledge LX11_passSledge_0 = true := by decide +kernel
theorem dX11_passSledge_0 : decode cX11_passSledge 0 = .ok (.aload_n 0, 1) := getB' kX11_passSledge_0 0 rfl
theorem dX11_passSledge_1 : decode cX11_passSledge 1 = .ok (.getfield 72, 3) := getB' kX11_passSledge_0 1 rfl
theorem dX11_passSledge_4 : decode cX11_passSledge 4 = .ok (.iload_n 1, 1) := getB' kX11_passSledge_0 2 rfl
theorem dX11_passSledge_5 : decode cX11_passSledge 5 = .ok (.iconst 4, 1) := getB' kX11_passSledge_0 3 rfl
theorem dX11_passSledge_6 : decode cX11_passSledge 6 = .ok (.invokevirtual 209, 3) := getB' kX11_passSledge_0 4 rfl
theorem dX11_passSledge_9 : decode cX11_passSledge 9 = .ok (.ifCond .eq 22, 3) := getB' kX11_passSledge_0 5 rfl
theorem dX11_passSledge_12 : decode cX11_passSledge 12 = .ok (.aload_n 0, 1) := getB' kX11_passSledge_0 6 rfl
theorem dX11_passSledge_13 : decode cX11_passSledge 13 = .ok (.getfield 72, 3) := getB' kX11_passSledge_0 7 rfl
theorem dX11_passSledge_16 : decode cX11_passSledge 16 = .ok (.iload_n 1, 1) := getB' kX11_passSledge_0 8 rfl
theorem dX11_passSledge_17 : decode cX11_passSledge 17 = .ok (.iconst 2, 1) := getB' kX11_passSledge_0 9 rfl
theorem dX11_passSledge_18 : decode cX11_passSledge 18 = .ok (.invokevirtual 209, 3) := getB' kX11_passSledge_0 10 rfl
theorem dX11_passSledge_21 : decode cX11_passSledge 21 = .ok (.aload_n 0, 1) := getB' kX11_passSledge_0 11 rfl
def LX11_passSledge_1 : List (Nat × Instr × Nat) := [(22, .getfield 12, 3), (25, .getfield 145, 3), (28, .if_icmp .eq 4, 3), (31, .return_, 1), (32, .aload_n 0, 1), (33, .getfield 72, 3), (36, .iload_n 1, 1), (37, .iconst 4, 1), (38, .iconst 0, 1), (39, .invokevirtual 485, 3), (42, .aload_n 0, 1), (43, .getfield 72, 3)]
theorem kX11_passSledge_1 : chkB cX11_passSledge LX11_passSledge_1 = true := by decide +kernel
theorem dX11_passSledge_22 : decode cX11_passSledge 22 = .ok (.getfield 12, 3) := getB' kX11_passSledge_1 0 rfl
theorem dX11_passSledge_25 : decode cX11_passSledge 25 = .ok (.getfield 145, 3) := getB' kX11_passSledge_1 1 rfl
theorem dX11_passSledge_28 : decode cX11_passSledge 28 = .ok (.if_icmp .eq 4, 3) := getB' kX11_passSledge_1 2 rfl
theorem dX11_passSledge_31 : decode cX11_passSledge 31 = .ok (.return_, 1) := getB' kX11_passSledge_1 3 rfl
theorem dX11_passSledge_32 : decode cX11_passSledge 32 = .ok (.aload_n 0, 1) := getB' kX11_passSledge_1 4 rfl
theorem dX11_passSledge_33 : decode cX11_passSledge 33 = .ok (.getfield 72, 3) := getB' kX11_passSledge_1 5 rfl
theorem dX11_passSledge_36 : decode cX11_passSledge 36 = .ok (.iload_n 1, 1) := getB' kX11_passSledge_1 6 rfl
theorem dX11_passSledge_37 : decode cX11_passSledge 37 = .ok (.iconst 4, 1) := getB' kX11_passSledge_1 7 rfl
theorem dX11_passSledge_38 : decode cX11_passSledge 38 = .ok (.iconst 0, 1) := getB' kX11_passSledge_1 8 rfl
theorem dX11_passSledge_39 : decode cX11_passSledge 39 = .ok (.invokevirtual 485, 3) := getB' kX11_passSledge_1 9 rfl
theorem dX11_passSledge_42 : decode cX11_passSledge 42 = .ok (.aload_n 0, 1) := getB' kX11_passSledge_1 10 rfl
theorem dX11_passSledge_43 : decode cX11_passSledge 43 = .ok (.getfield 72, 3) := getB' kX11_passSledge_1 11 rfl
def LX11_passSledge_2 : List (Nat × Instr × Nat) := [(46, .iload_n 1, 1), (47, .iconst 3, 1), (48, .invokevirtual 209, 3), (51, .istore_n 2, 1), (52, .aload_n 0, 1), (53, .aload_n 0, 1), (54, .getfield 72, 3), (57, .iload_n 1, 1), (58, .iconst 0, 1), (59, .invokevirtual 209, 3), (62, .invokevirtual 195, 3), (65, .astore_n 3, 1)]
theorem kX11_passSledge_2 : chkB cX11_passSledge LX11_passSledge_2 = true := by decide +kernel
theorem dX11_passSledge_46 : decode cX11_passSledge 46 = .ok (.iload_n 1, 1) := getB' kX11_passSledge_2 0 rfl
theorem dX11_passSledge_47 : decode cX11_passSledge 47 = .ok (.iconst 3, 1) := getB' kX11_passSledge_2 1 rfl
theorem dX11_passSledge_48 : decode cX11_passSledge 48 = .ok (.invokevirtual 209, 3) := getB' kX11_passSledge_2 2 rfl
theorem dX11_passSledge_51 : decode cX11_passSledge 51 = .ok (.istore_n 2, 1) := getB' kX11_passSledge_2 3 rfl
theorem dX11_passSledge_52 : decode cX11_passSledge 52 = .ok (.aload_n 0, 1) := getB' kX11_passSledge_2 4 rfl
theorem dX11_passSledge_53 : decode cX11_passSledge 53 = .ok (.aload_n 0, 1) := getB' kX11_passSledge_2 5 rfl
theorem dX11_passSledge_54 : decode cX11_passSledge 54 = .ok (.getfield 72, 3) := getB' kX11_passSledge_2 6 rfl
theorem dX11_passSledge_57 : decode cX11_passSledge 57 = .ok (.iload_n 1, 1) := getB' kX11_passSledge_2 7 rfl
theorem dX11_passSledge_58 : decode cX11_passSledge 58 = .ok (.iconst 0, 1) := getB' kX11_passSledge_2 8 rfl
theorem dX11_passSledge_59 : decode cX11_passSledge 59 = .ok (.invokevirtual 209, 3) := getB' kX11_passSledge_2 9 rfl
theorem dX11_passSledge_62 : decode cX11_passSledge 62 = .ok (.invokevirtual 195, 3) := getB' kX11_passSledge_2 10 rfl
theorem dX11_passSledge_65 : decode cX11_passSledge 65 = .ok (.astore_n 3, 1) := getB' kX11_passSledge_2 11 rfl
def LX11_passSledge_3 : List (Nat × Instr × Nat) := [(66, .aload_n 3, 1), (67, .ifnull 32, 3), (70, .aload_n 3, 1), (71, .getfield 344, 3), (74, .aload_n 0, 1), (75, .getfield 72, 3), (78, .iload_n 1, 1), (79, .iconst 1, 1), (80, .invokevirtual 209, 3), (83, .if_icmp .ne 16, 3), (86, .aload_n 3, 1), (87, .dup, 1)]
theorem kX11_passSledge_3 : chkB cX11_passSledge LX11_passSledge_3 = true := by decide +kernel
theorem dX11_passSledge_66 : decode cX11_passSledge 66 = .ok (.aload_n 3, 1) := getB' kX11_passSledge_3 0 rfl
theorem dX11_passSledge_67 : decode cX11_passSledge 67 = .ok (.ifnull 32, 3) := getB' kX11_passSledge_3 1 rfl
theorem dX11_passSledge_70 : decode cX11_passSledge 70 = .ok (.aload_n 3, 1) := getB' kX11_passSledge_3 2 rfl
theorem dX11_passSledge_71 : decode cX11_passSledge 71 = .ok (.getfield 344, 3) := getB' kX11_passSledge_3 3 rfl
theorem dX11_passSledge_74 : decode cX11_passSledge 74 = .ok (.aload_n 0, 1) := getB' kX11_passSledge_3 4 rfl
theorem dX11_passSledge_75 : decode cX11_passSledge 75 = .ok (.getfield 72, 3) := getB' kX11_passSledge_3 5 rfl
theorem dX11_passSledge_78 : decode cX11_passSledge 78 = .ok (.iload_n 1, 1) := getB' kX11_passSledge_3 6 rfl
theorem dX11_passSledge_79 : decode cX11_passSledge 79 = .ok (.iconst 1, 1) := getB' kX11_passSledge_3 7 rfl
theorem dX11_passSledge_80 : decode cX11_passSledge 80 = .ok (.invokevirtual 209, 3) := getB' kX11_passSledge_3 8 rfl
theorem dX11_passSledge_83 : decode cX11_passSledge 83 = .ok (.if_icmp .ne 16, 3) := getB' kX11_passSledge_3 9 rfl
theorem dX11_passSledge_86 : decode cX11_passSledge 86 = .ok (.aload_n 3, 1) := getB' kX11_passSledge_3 10 rfl
theorem dX11_passSledge_87 : decode cX11_passSledge 87 = .ok (.dup, 1) := getB' kX11_passSledge_3 11 rfl
def LX11_passSledge_4 : List (Nat × Instr × Nat) := [(88, .getfield 186, 3), (91, .iload_n 2, 1), (92, .iadd, 1), (93, .putfield 186, 3), (96, .goto 9, 3), (99, .aload_n 0, 1), (100, .iconst 2, 1), (101, .iload_n 2, 1), (102, .invokevirtual 192, 3), (105, .return_, 1)]
theorem kX11_passSledge_4 : chkB cX11_passSledge LX11_passSledge_4 = true := by decide +kernel
theorem dX11_passSledge_88 : decode cX11_passSledge 88 = .ok (.getfield 186, 3) := getB' kX11_passSledge_4 0 rfl
theorem dX11_passSledge_91 : decode cX11_passSledge 91 = .ok (.iload_n 2, 1) := getB' kX11_passSledge_4 1 rfl
theorem dX11_passSledge_92 : decode cX11_passSledge 92 = .ok (.iadd, 1) := getB' kX11_passSledge_4 2 rfl
theorem dX11_passSledge_93 : decode cX11_passSledge 93 = .ok (.putfield 186, 3) := getB' kX11_passSledge_4 3 rfl
theorem dX11_passSledge_96 : decode cX11_passSledge 96 = .ok (.goto 9, 3) := getB' kX11_passSledge_4 4 rfl
theorem dX11_passSledge_99 : decode cX11_passSledge 99 = .ok (.aload_n 0, 1) := getB' kX11_passSledge_4 5 rfl
theorem dX11_passSledge_100 : decode cX11_passSledge 100 = .ok (.iconst 2, 1) := getB' kX11_passSledge_4 6 rfl
theorem dX11_passSledge_101 : decode cX11_passSledge 101 = .ok (.iload_n 2, 1) := getB' kX11_passSledge_4 7 rfl
theorem dX11_passSledge_102 : decode cX11_passSledge 102 = .ok (.invokevirtual 192, 3) := getB' kX11_passSledge_4 8 rfl
theorem dX11_passSledge_105 : decode cX11_passSledge 105 = .ok (.return_, 1) := getB' kX11_passSledge_4 9 rfl
def LX11_sound_0 : List (Nat × Instr × Nat) := [(0, .aload_n 0, 1), (1, .iload_n 1, 1), (2, .iconst 4, 1), (3, .invokevirtual 169, 3), (6, .astore 4, 2), (8, .aload 4, 2), (10, .ifnull 25, 3), (13, .iload_n 2, 1), (14, .iconst 1, 1), (15, .sipush 5000, 3), (18, .invokestatic 112, 3), (21, .ifCond .eq 14, 3)]
theorem kX11_sound_0 : chkB cX11_sound LX11_sound_0 = true := by decide +kernel
theorem dX11_sound_0 : decode cX11_sound 0 = .ok (.aload_n 0, 1) := getB' kX11_sound_0 0 rfl
theorem dX11_sound_1 : decode cX11_sound 1 = .ok (.iload_n 1, 1) := getB' kX11_sound_0 1 rfl
theorem dX11_sound_2 : decode cX11_sound 2 = .ok (.iconst 4, 1) := getB' kX11_sound_0 2 rfl
theorem dX11_sound_3 : decode cX11_sound 3 = .ok (.invokevirtual 169, 3) := getB' kX11_sound_0 3 rfl
theorem dX11_sound_6 : decode cX11_sound 6 = .ok (.astore 4, 2) := getB' kX11_sound_0 4 rfl
theorem dX11_sound_8 : decode cX11_sound 8 = .ok (.aload 4, 2) := getB' kX11_sound_0 5 rfl
theorem dX11_sound_10 : decode cX11_sound 10 = .ok (.ifnull 25, 3) := getB' kX11_sound_0 6 rfl
theorem dX11_sound_13 : decode cX11_sound 13 = .ok (.iload_n 2, 1) := getB' kX11_sound_0 7 rfl
theorem dX11_sound_14 : decode cX11_sound 14 = .ok (.iconst 1, 1) := getB' kX11_sound_0 8 rfl
theorem dX11_sound_15 : decode cX11_sound 15 = .ok (.sipush 5000, 3) := getB' kX11_sound_0 9 rfl
theorem dX11_sound_18 : decode cX11_sound 18 = .ok (.invokestatic 112, 3) := getB' kX11_sound_0 10 rfl
theorem dX11_sound_21 : decode cX11_sound 21 = .ok (.ifCond .eq 14, 3) := getB' kX11_sound_0 11 rfl
def LX11_sound_1 : List (Nat × Instr × Nat) := [(24, .iload_n 3, 1), (25, .iconst 0, 1), (26, .sipush 1000, 3), (29, .invokestatic 112, 3), (32, .ifCond .ne 5, 3), (35, .iconst 0, 1), (36, .ireturn, 1), (37, .aload 4, 2), (39, .iload_n 2, 1), (40, .iload_n 3, 1), (41, .invokevirtual 556, 3), (44, .ireturn, 1)]
theorem kX11_sound_1 : chkB cX11_sound LX11_sound_1 = true := by decide +kernel
theorem dX11_sound_24 : decode cX11_sound 24 = .ok (.iload_n 3, 1) := getB' kX11_sound_1 0 rfl
theorem dX11_sound_25 : decode cX11_sound 25 = .ok (.iconst 0, 1) := getB' kX11_sound_1 1 rfl
theorem dX11_sound_26 : decode cX11_sound 26 = .ok (.sipush 1000, 3) := getB' kX11_sound_1 2 rfl
theorem dX11_sound_29 : decode cX11_sound 29 = .ok (.invokestatic 112, 3) := getB' kX11_sound_1 3 rfl
theorem dX11_sound_32 : decode cX11_sound 32 = .ok (.ifCond .ne 5, 3) := getB' kX11_sound_1 4 rfl
theorem dX11_sound_35 : decode cX11_sound 35 = .ok (.iconst 0, 1) := getB' kX11_sound_1 5 rfl
theorem dX11_sound_36 : decode cX11_sound 36 = .ok (.ireturn, 1) := getB' kX11_sound_1 6 rfl
theorem dX11_sound_37 : decode cX11_sound 37 = .ok (.aload 4, 2) := getB' kX11_sound_1 7 rfl
theorem dX11_sound_39 : decode cX11_sound 39 = .ok (.iload_n 2, 1) := getB' kX11_sound_1 8 rfl
theorem dX11_sound_40 : decode cX11_sound 40 = .ok (.iload_n 3, 1) := getB' kX11_sound_1 9 rfl
theorem dX11_sound_41 : decode cX11_sound 41 = .ok (.invokevirtual 556, 3) := getB' kX11_sound_1 10 rfl
theorem dX11_sound_44 : decode cX11_sound 44 = .ok (.ireturn, 1) := getB' kX11_sound_1 11 rfl
def LX11_sure : List (Nat × Instr × Nat) := [(0, .aload_n 0, 1), (1, .iload_n 1, 1), (2, .iconst 4, 1), (3, .invokevirtual 169, 3), (6, .astore_n 2, 1), (7, .aload_n 2, 1), (8, .ifnonnull 7, 3), (11, .iconst (-1), 1), (12, .goto 7, 3), (15, .aload_n 2, 1), (16, .invokevirtual 482, 3), (19, .ireturn, 1)]
theorem kX11_sure : chkB cX11_sure LX11_sure = true := by decide +kernel
theorem dX11_sure_0 : decode cX11_sure 0 = .ok (.aload_n 0, 1) := getB' kX11_sure 0 rfl
theorem dX11_sure_1 : decode cX11_sure 1 = .ok (.iload_n 1, 1) := getB' kX11_sure 1 rfl
theorem dX11_sure_2 : decode cX11_sure 2 = .ok (.iconst 4, 1) := getB' kX11_sure 2 rfl
theorem dX11_sure_3 : decode cX11_sure 3 = .ok (.invokevirtual 169, 3) := getB' kX11_sure 3 rfl
theorem dX11_sure_6 : decode cX11_sure 6 = .ok (.astore_n 2, 1) := getB' kX11_sure 4 rfl
theorem dX11_sure_7 : decode cX11_sure 7 = .ok (.aload_n 2, 1) := getB' kX11_sure 5 rfl
theorem dX11_sure_8 : decode cX11_sure 8 = .ok (.ifnonnull 7, 3) := getB' kX11_sure 6 rfl
theorem dX11_sure_11 : decode cX11_sure 11 = .ok (.iconst (-1), 1) := getB' kX11_sure 7 rfl
theorem dX11_sure_12 : decode cX11_sure 12 = .ok (.goto 7, 3) := getB' kX11_sure 8 rfl
theorem dX11_sure_15 : decode cX11_sure 15 = .ok (.aload_n 2, 1) := getB' kX11_sure 9 rfl
theorem dX11_sure_16 : decode cX11_sure 16 = .ok (.invokevirtual 482, 3) := getB' kX11_sure 10 rfl
theorem dX11_sure_19 : decode cX11_sure 19 = .ok (.ireturn, 1) := getB' kX11_sure 11 rfl
def LX11_drill_0 : List (Nat × Instr × Nat) := [(0, .aload_n 0, 1), (1, .iload_n 1, 1), (2, .iconst 4, 1), (3, .invokevirtual 169, 3), (6, .astore_n 3, 1), (7, .aload_n 0, 1), (8, .iload_n 2, 1), (9, .invokevirtual 309, 3), (12, .astore 4, 2), (14, .aload_n 3, 1), (15, .ifnull 29, 3), (18, .aload 4, 2)]
theorem kX11_drill_0 : chkB cX11_drill LX11_drill_0 = true := by decide +kernel
theorem dX11_drill_0 : decode cX11_drill 0 = .ok (.aload_n 0, 1) := getB' kX11_drill_0 0 rfl
theorem dX11_drill_1 : decode cX11_drill 1 = .ok (.iload_n 1, 1) := getB' kX11_drill_0 1 rfl
theorem dX11_drill_2 : decode cX11_drill 2 = .ok (.iconst 4, 1) := getB' kX11_drill_0 2 rfl
theorem dX11_drill_3 : decode cX11_drill 3 = .ok (.invokevirtual 169, 3) := getB' kX11_drill_0 3 rfl
theorem dX11_drill_6 : decode cX11_drill 6 = .ok (.astore_n 3, 1) := getB' kX11_drill_0 4 rfl
theorem dX11_drill_7 : decode cX11_drill 7 = .ok (.aload_n 0, 1) := getB' kX11_drill_0 5 rfl
theorem dX11_drill_8 : decode cX11_drill 8 = .ok (.iload_n 2, 1) := getB' kX11_drill_0 6 rfl
theorem dX11_drill_9 : decode cX11_drill 9 = .ok (.invokevirtual 309, 3) := getB' kX11_drill_0 7 rfl
theorem dX11_drill_12 : decode cX11_drill 12 = .ok (.astore 4, 2) := getB' kX11_drill_0 8 rfl
theorem dX11_drill_14 : decode cX11_drill 14 = .ok (.aload_n 3, 1) := getB' kX11_drill_0 9 rfl
theorem dX11_drill_15 : decode cX11_drill 15 = .ok (.ifnull 29, 3) := getB' kX11_drill_0 10 rfl
theorem dX11_drill_18 : decode cX11_drill 18 = .ok (.aload 4, 2) := getB' kX11_drill_0 11 rfl
def LX11_drill_1 : List (Nat × Instr × Nat) := [(20, .ifnull 24, 3), (23, .aload 4, 2), (25, .getfield 375, 3), (28, .iconst 2, 1), (29, .if_icmp .ne 15, 3), (32, .aload 4, 2), (34, .getfield 378, 3), (37, .aload_n 3, 1), (38, .getfield 344, 3), (41, .if_icmp .eq 5, 3), (44, .iconst (-1), 1), (45, .ireturn, 1)]
theorem kX11_drill_1 : chkB cX11_drill LX11_drill_1 = true := by decide +kernel
theorem dX11_drill_20 : decode cX11_drill 20 = .ok (.ifnull 24, 3) := getB' kX11_drill_1 0 rfl
theorem dX11_drill_23 : decode cX11_drill 23 = .ok (.aload 4, 2) := getB' kX11_drill_1 1 rfl
theorem dX11_drill_25 : decode cX11_drill 25 = .ok (.getfield 375, 3) := getB' kX11_drill_1 2 rfl
theorem dX11_drill_28 : decode cX11_drill 28 = .ok (.iconst 2, 1) := getB' kX11_drill_1 3 rfl
theorem dX11_drill_29 : decode cX11_drill 29 = .ok (.if_icmp .ne 15, 3) := getB' kX11_drill_1 4 rfl
theorem dX11_drill_32 : decode cX11_drill 32 = .ok (.aload 4, 2) := getB' kX11_drill_1 5 rfl
theorem dX11_drill_34 : decode cX11_drill 34 = .ok (.getfield 378, 3) := getB' kX11_drill_1 6 rfl
theorem dX11_drill_37 : decode cX11_drill 37 = .ok (.aload_n 3, 1) := getB' kX11_drill_1 7 rfl
theorem dX11_drill_38 : decode cX11_drill 38 = .ok (.getfield 344, 3) := getB' kX11_drill_1 8 rfl
theorem dX11_drill_41 : decode cX11_drill 41 = .ok (.if_icmp .eq 5, 3) := getB' kX11_drill_1 9 rfl
theorem dX11_drill_44 : decode cX11_drill 44 = .ok (.iconst (-1), 1) := getB' kX11_drill_1 10 rfl
theorem dX11_drill_45 : decode cX11_drill 45 = .ok (.ireturn, 1) := getB' kX11_drill_1 11 rfl
def LX11_drill_2 : List (Nat × Instr × Nat) := [(46, .aload_n 0, 1), (47, .getfield 79, 3), (50, .iload_n 1, 1), (51, .iload_n 2, 1), (52, .iconst 0, 1), (53, .iconst 0, 1), (54, .iconst 0, 1), (55, .invokevirtual 205, 3), (58, .ireturn, 1)]
theorem kX11_drill_2 : chkB cX11_drill LX11_drill_2 = true := by decide +kernel
theorem dX11_drill_46 : decode cX11_drill 46 = .ok (.aload_n 0, 1) := getB' kX11_drill_2 0 rfl
theorem dX11_drill_47 : decode cX11_drill 47 = .ok (.getfield 79, 3) := getB' kX11_drill_2 1 rfl
theorem dX11_drill_50 : decode cX11_drill 50 = .ok (.iload_n 1, 1) := getB' kX11_drill_2 2 rfl
theorem dX11_drill_51 : decode cX11_drill 51 = .ok (.iload_n 2, 1) := getB' kX11_drill_2 3 rfl
theorem dX11_drill_52 : decode cX11_drill 52 = .ok (.iconst 0, 1) := getB' kX11_drill_2 4 rfl
theorem dX11_drill_53 : decode cX11_drill 53 = .ok (.iconst 0, 1) := getB' kX11_drill_2 5 rfl
theorem dX11_drill_54 : decode cX11_drill 54 = .ok (.iconst 0, 1) := getB' kX11_drill_2 6 rfl
theorem dX11_drill_55 : decode cX11_drill 55 = .ok (.invokevirtual 205, 3) := getB' kX11_drill_2 7 rfl
theorem dX11_drill_58 : decode cX11_drill 58 = .ok (.ireturn, 1) := getB' kX11_drill_2 8 rfl
def LX11_speed_0 : List (Nat × Instr × Nat) := [(0, .iload_n 1, 1), (1, .iconst (-1), 1), (2, .if_icmp .ne 26, 3), (5, .iload_n 2, 1), (6, .iconst 0, 1), (7, .sipush 1000, 3), (10, .invokestatic 112, 3), (13, .ifCond .eq 15, 3), (16, .aload_n 0, 1), (17, .getfield 94, 3), (20, .bipush 10, 2), (22, .iload_n 2, 1)]
theorem kX11_speed_0 : chkB cX11_speed LX11_speed_0 = true := by decide +kernel
theorem dX11_speed_0 : decode cX11_speed 0 = .ok (.iload_n 1, 1) := getB' kX11_speed_0 0 rfl
theorem dX11_speed_1 : decode cX11_speed 1 = .ok (.iconst (-1), 1) := getB' kX11_speed_0 1 rfl
theorem dX11_speed_2 : decode cX11_speed 2 = .ok (.if_icmp .ne 26, 3) := getB' kX11_speed_0 2 rfl
theorem dX11_speed_5 : decode cX11_speed 5 = .ok (.iload_n 2, 1) := getB' kX11_speed_0 3 rfl
theorem dX11_speed_6 : decode cX11_speed 6 = .ok (.iconst 0, 1) := getB' kX11_speed_0 4 rfl
theorem dX11_speed_7 : decode cX11_speed 7 = .ok (.sipush 1000, 3) := getB' kX11_speed_0 5 rfl
theorem dX11_speed_10 : decode cX11_speed 10 = .ok (.invokestatic 112, 3) := getB' kX11_speed_0 6 rfl
theorem dX11_speed_13 : decode cX11_speed 13 = .ok (.ifCond .eq 15, 3) := getB' kX11_speed_0 7 rfl
theorem dX11_speed_16 : decode cX11_speed 16 = .ok (.aload_n 0, 1) := getB' kX11_speed_0 8 rfl
theorem dX11_speed_17 : decode cX11_speed 17 = .ok (.getfield 94, 3) := getB' kX11_speed_0 9 rfl
theorem dX11_speed_20 : decode cX11_speed 20 = .ok (.bipush 10, 2) := getB' kX11_speed_0 10 rfl
theorem dX11_speed_22 : decode cX11_speed 22 = .ok (.iload_n 2, 1) := getB' kX11_speed_0 11 rfl
def LX11_speed_1 : List (Nat × Instr × Nat) := [(23, .invokestatic 108, 3), (26, .iconst 1, 1), (27, .ireturn, 1), (28, .iload_n 1, 1), (29, .iconst 0, 1), (30, .bipush 9, 2), (32, .invokestatic 112, 3), (35, .ifCond .eq 25, 3), (38, .iload_n 2, 1), (39, .iconst 1, 1), (40, .sipush 200, 3), (43, .invokestatic 112, 3)]
theorem kX11_speed_1 : chkB cX11_speed LX11_speed_1 = true := by decide +kernel
theorem dX11_speed_23 : decode cX11_speed 23 = .ok (.invokestatic 108, 3) := getB' kX11_speed_1 0 rfl
theorem dX11_speed_26 : decode cX11_speed 26 = .ok (.iconst 1, 1) := getB' kX11_speed_1 1 rfl
theorem dX11_speed_27 : decode cX11_speed 27 = .ok (.ireturn, 1) := getB' kX11_speed_1 2 rfl
theorem dX11_speed_28 : decode cX11_speed 28 = .ok (.iload_n 1, 1) := getB' kX11_speed_1 3 rfl
theorem dX11_speed_29 : decode cX11_speed 29 = .ok (.iconst 0, 1) := getB' kX11_speed_1 4 rfl
theorem dX11_speed_30 : decode cX11_speed 30 = .ok (.bipush 9, 2) := getB' kX11_speed_1 5 rfl
theorem dX11_speed_32 : decode cX11_speed 32 = .ok (.invokestatic 112, 3) := getB' kX11_speed_1 6 rfl
theorem dX11_speed_35 : decode cX11_speed 35 = .ok (.ifCond .eq 25, 3) := getB' kX11_speed_1 7 rfl
theorem dX11_speed_38 : decode cX11_speed 38 = .ok (.iload_n 2, 1) := getB' kX11_speed_1 8 rfl
theorem dX11_speed_39 : decode cX11_speed 39 = .ok (.iconst 1, 1) := getB' kX11_speed_1 9 rfl
theorem dX11_speed_40 : decode cX11_speed 40 = .ok (.sipush 200, 3) := getB' kX11_speed_1 10 rfl
theorem dX11_speed_43 : decode cX11_speed 43 = .ok (.invokestatic 112, 3) := getB' kX11_speed_1 11 rfl
def LX11_speed_2 : List (Nat × Instr × Nat) := [(46, .ifCond .eq 14, 3), (49, .aload_n 0, 1), (50, .getfield 94, 3), (53, .iload_n 1, 1), (54, .iload_n 2, 1), (55, .invokestatic 108, 3), (58, .iconst 1, 1), (59, .ireturn, 1), (60, .iconst 0, 1), (61, .ireturn, 1)]
theorem kX11_speed_2 : chkB cX11_speed LX11_speed_2 = true := by decide +kernel
theorem dX11_speed_46 : decode cX11_speed 46 = .ok (.ifCond .eq 14, 3) := getB' kX11_speed_2 0 rfl
theorem dX11_speed_49 : decode cX11_speed 49 = .ok (.aload_n 0, 1) := getB' kX11_speed_2 1 rfl
theorem dX11_speed_50 : decode cX11_speed 50 = .ok (.getfield 94, 3) := getB' kX11_speed_2 2 rfl
theorem dX11_speed_53 : decode cX11_speed 53 = .ok (.iload_n 1, 1) := getB' kX11_speed_2 3 rfl
theorem dX11_speed_54 : decode cX11_speed 54 = .ok (.iload_n 2, 1) := getB' kX11_speed_2 4 rfl
theorem dX11_speed_55 : decode cX11_speed 55 = .ok (.invokestatic 108, 3) := getB' kX11_speed_2 5 rfl
theorem dX11_speed_58 : decode cX11_speed 58 = .ok (.iconst 1, 1) := getB' kX11_speed_2 6 rfl
theorem dX11_speed_59 : decode cX11_speed 59 = .ok (.ireturn, 1) := getB' kX11_speed_2 7 rfl
theorem dX11_speed_60 : decode cX11_speed 60 = .ok (.iconst 0, 1) := getB' kX11_speed_2 8 rfl
theorem dX11_speed_61 : decode cX11_speed 61 = .ok (.ireturn, 1) := getB' kX11_speed_2 9 rfl
def LX11_birds_0 : List (Nat × Instr × Nat) := [(0, .aload_n 0, 1), (1, .iload_n 1, 1), (2, .iconst 5, 1), (3, .invokevirtual 169, 3), (6, .astore 4, 2), (8, .aload 4, 2), (10, .ifnull 20, 3), (13, .iload_n 2, 1), (14, .invokestatic 559, 3), (17, .ifCond .eq 13, 3), (20, .iload_n 3, 1), (21, .iconst 0, 1)]
theorem kX11_birds_0 : chkB cX11_birds LX11_birds_0 = true := by decide +kernel
theorem dX11_birds_0 : decode cX11_birds 0 = .ok (.aload_n 0, 1) := getB' kX11_birds_0 0 rfl
theorem dX11_birds_1 : decode cX11_birds 1 = .ok (.iload_n 1, 1) := getB' kX11_birds_0 1 rfl
theorem dX11_birds_2 : decode cX11_birds 2 = .ok (.iconst 5, 1) := getB' kX11_birds_0 2 rfl
theorem dX11_birds_3 : decode cX11_birds 3 = .ok (.invokevirtual 169, 3) := getB' kX11_birds_0 3 rfl
theorem dX11_birds_6 : decode cX11_birds 6 = .ok (.astore 4, 2) := getB' kX11_birds_0 4 rfl
theorem dX11_birds_8 : decode cX11_birds 8 = .ok (.aload 4, 2) := getB' kX11_birds_0 5 rfl
theorem dX11_birds_10 : decode cX11_birds 10 = .ok (.ifnull 20, 3) := getB' kX11_birds_0 6 rfl
theorem dX11_birds_13 : decode cX11_birds 13 = .ok (.iload_n 2, 1) := getB' kX11_birds_0 7 rfl
theorem dX11_birds_14 : decode cX11_birds 14 = .ok (.invokestatic 559, 3) := getB' kX11_birds_0 8 rfl
theorem dX11_birds_17 : decode cX11_birds 17 = .ok (.ifCond .eq 13, 3) := getB' kX11_birds_0 9 rfl
theorem dX11_birds_20 : decode cX11_birds 20 = .ok (.iload_n 3, 1) := getB' kX11_birds_0 10 rfl
theorem dX11_birds_21 : decode cX11_birds 21 = .ok (.iconst 0, 1) := getB' kX11_birds_0 11 rfl
def LX11_birds_1 : List (Nat × Instr × Nat) := [(22, .ldc 182, 2), (24, .invokestatic 112, 3), (27, .ifCond .ne 5, 3), (30, .iconst 0, 1), (31, .ireturn, 1), (32, .aload 4, 2), (34, .getfield 491, 3), (37, .iload_n 2, 1), (38, .iload_n 3, 1), (39, .invokestatic 108, 3), (42, .iconst 1, 1), (43, .ireturn, 1)]
theorem kX11_birds_1 : chkB cX11_birds LX11_birds_1 = true := by decide +kernel
theorem dX11_birds_22 : decode cX11_birds 22 = .ok (.ldc 182, 2) := getB' kX11_birds_1 0 rfl
theorem dX11_birds_24 : decode cX11_birds 24 = .ok (.invokestatic 112, 3) := getB' kX11_birds_1 1 rfl
theorem dX11_birds_27 : decode cX11_birds 27 = .ok (.ifCond .ne 5, 3) := getB' kX11_birds_1 2 rfl
theorem dX11_birds_30 : decode cX11_birds 30 = .ok (.iconst 0, 1) := getB' kX11_birds_1 3 rfl
theorem dX11_birds_31 : decode cX11_birds 31 = .ok (.ireturn, 1) := getB' kX11_birds_1 4 rfl
theorem dX11_birds_32 : decode cX11_birds 32 = .ok (.aload 4, 2) := getB' kX11_birds_1 5 rfl
theorem dX11_birds_34 : decode cX11_birds 34 = .ok (.getfield 491, 3) := getB' kX11_birds_1 6 rfl
theorem dX11_birds_37 : decode cX11_birds 37 = .ok (.iload_n 2, 1) := getB' kX11_birds_1 7 rfl
theorem dX11_birds_38 : decode cX11_birds 38 = .ok (.iload_n 3, 1) := getB' kX11_birds_1 8 rfl
theorem dX11_birds_39 : decode cX11_birds 39 = .ok (.invokestatic 108, 3) := getB' kX11_birds_1 9 rfl
theorem dX11_birds_42 : decode cX11_birds 42 = .ok (.iconst 1, 1) := getB' kX11_birds_1 10 rfl
theorem dX11_birds_43 : decode cX11_birds 43 = .ok (.ireturn, 1) := getB' kX11_birds_1 11 rfl
def LX11_loss_0 : List (Nat × Instr × Nat) := [(0, .aload_n 0, 1), (1, .iload_n 1, 1), (2, .iconst 5, 1), (3, .invokevirtual 169, 3), (6, .astore 6, 2), (8, .aload 6, 2), (10, .ifnull 43, 3), (13, .iload_n 2, 1), (14, .invokestatic 559, 3), (17, .ifCond .eq 36, 3), (20, .iload_n 3, 1), (21, .invokestatic 559, 3)]
theorem kX11_loss_0 : chkB cX11_loss LX11_loss_0 = true := by decide +kernel
theorem dX11_loss_0 : decode cX11_loss 0 = .ok (.aload_n 0, 1) := getB' kX11_loss_0 0 rfl
theorem dX11_loss_1 : decode cX11_loss 1 = .ok (.iload_n 1, 1) := getB' kX11_loss_0 1 rfl
theorem dX11_loss_2 : decode cX11_loss 2 = .ok (.iconst 5, 1) := getB' kX11_loss_0 2 rfl
theorem dX11_loss_3 : decode cX11_loss 3 = .ok (.invokevirtual 169, 3) := getB' kX11_loss_0 3 rfl
theorem dX11_loss_6 : decode cX11_loss 6 = .ok (.astore 6, 2) := getB' kX11_loss_0 4 rfl
theorem dX11_loss_8 : decode cX11_loss 8 = .ok (.aload 6, 2) := getB' kX11_loss_0 5 rfl
theorem dX11_loss_10 : decode cX11_loss 10 = .ok (.ifnull 43, 3) := getB' kX11_loss_0 6 rfl
theorem dX11_loss_13 : decode cX11_loss 13 = .ok (.iload_n 2, 1) := getB' kX11_loss_0 7 rfl
theorem dX11_loss_14 : decode cX11_loss 14 = .ok (.invokestatic 559, 3) := getB' kX11_loss_0 8 rfl
theorem dX11_loss_17 : decode cX11_loss 17 = .ok (.ifCond .eq 36, 3) := getB' kX11_loss_0 9 rfl
theorem dX11_loss_20 : decode cX11_loss 20 = .ok (.iload_n 3, 1) := getB' kX11_loss_0 10 rfl
theorem dX11_loss_21 : decode cX11_loss 21 = .ok (.invokestatic 559, 3) := getB' kX11_loss_0 11 rfl
def LX11_loss_1 : List (Nat × Instr × Nat) := [(24, .ifCond .eq 29, 3), (27, .iload_n 2, 1), (28, .iload_n 3, 1), (29, .if_icmp .ge 24, 3), (32, .iload 4, 2), (34, .iconst 0, 1), (35, .bipush 99, 2), (37, .invokestatic 112, 3), (40, .ifCond .eq 13, 3), (43, .iload 5, 2), (45, .iconst 0, 1), (46, .iconst 1, 1)]
theorem kX11_loss_1 : chkB cX11_loss LX11_loss_1 = true := by decide +kernel
theorem dX11_loss_24 : decode cX11_loss 24 = .ok (.ifCond .eq 29, 3) := getB' kX11_loss_1 0 rfl
theorem dX11_loss_27 : decode cX11_loss 27 = .ok (.iload_n 2, 1) := getB' kX11_loss_1 1 rfl
theorem dX11_loss_28 : decode cX11_loss 28 = .ok (.iload_n 3, 1) := getB' kX11_loss_1 2 rfl
theorem dX11_loss_29 : decode cX11_loss 29 = .ok (.if_icmp .ge 24, 3) := getB' kX11_loss_1 3 rfl
theorem dX11_loss_32 : decode cX11_loss 32 = .ok (.iload 4, 2) := getB' kX11_loss_1 4 rfl
theorem dX11_loss_34 : decode cX11_loss 34 = .ok (.iconst 0, 1) := getB' kX11_loss_1 5 rfl
theorem dX11_loss_35 : decode cX11_loss 35 = .ok (.bipush 99, 2) := getB' kX11_loss_1 6 rfl
theorem dX11_loss_37 : decode cX11_loss 37 = .ok (.invokestatic 112, 3) := getB' kX11_loss_1 7 rfl
theorem dX11_loss_40 : decode cX11_loss 40 = .ok (.ifCond .eq 13, 3) := getB' kX11_loss_1 8 rfl
theorem dX11_loss_43 : decode cX11_loss 43 = .ok (.iload 5, 2) := getB' kX11_loss_1 9 rfl
theorem dX11_loss_45 : decode cX11_loss 45 = .ok (.iconst 0, 1) := getB' kX11_loss_1 10 rfl
theorem dX11_loss_46 : decode cX11_loss 46 = .ok (.iconst 1, 1) := getB' kX11_loss_1 11 rfl
def LX11_loss_2 : List (Nat × Instr × Nat) := [(47, .invokestatic 112, 3), (50, .ifCond .ne 7, 3), (53, .ldc_w 434, 3), (56, .ireturn, 1), (57, .aload 6, 2), (59, .getfield 491, 3), (62, .iload_n 2, 1), (63, .invokestatic 253, 3), (66, .istore 7, 2), (68, .aload 6, 2), (70, .getfield 491, 3), (73, .iload_n 3, 1)]
theorem kX11_loss_2 : chkB cX11_loss LX11_loss_2 = true := by decide +kernel
theorem dX11_loss_47 : decode cX11_loss 47 = .ok (.invokestatic 112, 3) := getB' kX11_loss_2 0 rfl
theorem dX11_loss_50 : decode cX11_loss 50 = .ok (.ifCond .ne 7, 3) := getB' kX11_loss_2 1 rfl
theorem dX11_loss_53 : decode cX11_loss 53 = .ok (.ldc_w 434, 3) := getB' kX11_loss_2 2 rfl
theorem dX11_loss_56 : decode cX11_loss 56 = .ok (.ireturn, 1) := getB' kX11_loss_2 3 rfl
theorem dX11_loss_57 : decode cX11_loss 57 = .ok (.aload 6, 2) := getB' kX11_loss_2 4 rfl
theorem dX11_loss_59 : decode cX11_loss 59 = .ok (.getfield 491, 3) := getB' kX11_loss_2 5 rfl
theorem dX11_loss_62 : decode cX11_loss 62 = .ok (.iload_n 2, 1) := getB' kX11_loss_2 6 rfl
theorem dX11_loss_63 : decode cX11_loss 63 = .ok (.invokestatic 253, 3) := getB' kX11_loss_2 7 rfl
theorem dX11_loss_66 : decode cX11_loss 66 = .ok (.istore 7, 2) := getB' kX11_loss_2 8 rfl
theorem dX11_loss_68 : decode cX11_loss 68 = .ok (.aload 6, 2) := getB' kX11_loss_2 9 rfl
theorem dX11_loss_70 : decode cX11_loss 70 = .ok (.getfield 491, 3) := getB' kX11_loss_2 10 rfl
theorem dX11_loss_73 : decode cX11_loss 73 = .ok (.iload_n 3, 1) := getB' kX11_loss_2 11 rfl
def LX11_loss_3 : List (Nat × Instr × Nat) := [(74, .invokestatic 253, 3), (77, .istore 8, 2), (79, .iload 7, 2), (81, .iconst (-1), 1), (82, .if_icmp .eq 9, 3), (85, .iload 8, 2), (87, .iconst (-1), 1), (88, .if_icmp .ne 7, 3), (91, .ldc_w 434, 3), (94, .ireturn, 1), (95, .iload 7, 2), (97, .iload 4, 2)]
theorem kX11_loss_3 : chkB cX11_loss LX11_loss_3 = true := by decide +kernel
theorem dX11_loss_74 : decode cX11_loss 74 = .ok (.invokestatic 253, 3) := getB' kX11_loss_3 0 rfl
theorem dX11_loss_77 : decode cX11_loss 77 = .ok (.istore 8, 2) := getB' kX11_loss_3 1 rfl
theorem dX11_loss_79 : decode cX11_loss 79 = .ok (.iload 7, 2) := getB' kX11_loss_3 2 rfl
theorem dX11_loss_81 : decode cX11_loss 81 = .ok (.iconst (-1), 1) := getB' kX11_loss_3 3 rfl
theorem dX11_loss_82 : decode cX11_loss 82 = .ok (.if_icmp .eq 9, 3) := getB' kX11_loss_3 4 rfl
theorem dX11_loss_85 : decode cX11_loss 85 = .ok (.iload 8, 2) := getB' kX11_loss_3 5 rfl
theorem dX11_loss_87 : decode cX11_loss 87 = .ok (.iconst (-1), 1) := getB' kX11_loss_3 6 rfl
theorem dX11_loss_88 : decode cX11_loss 88 = .ok (.if_icmp .ne 7, 3) := getB' kX11_loss_3 7 rfl
theorem dX11_loss_91 : decode cX11_loss 91 = .ok (.ldc_w 434, 3) := getB' kX11_loss_3 8 rfl
theorem dX11_loss_94 : decode cX11_loss 94 = .ok (.ireturn, 1) := getB' kX11_loss_3 9 rfl
theorem dX11_loss_95 : decode cX11_loss 95 = .ok (.iload 7, 2) := getB' kX11_loss_3 10 rfl
theorem dX11_loss_97 : decode cX11_loss 97 = .ok (.iload 4, 2) := getB' kX11_loss_3 11 rfl
def LX11_loss_4 : List (Nat × Instr × Nat) := [(99, .imul, 1), (100, .bipush 99, 2), (102, .iadd, 1), (103, .bipush 100, 2), (105, .idiv, 1), (106, .iload 8, 2), (108, .iload 4, 2), (110, .imul, 1), (111, .bipush 99, 2), (113, .iadd, 1), (114, .bipush 100, 2), (116, .idiv, 1)]
theorem kX11_loss_4 : chkB cX11_loss LX11_loss_4 = true := by decide +kernel
theorem dX11_loss_99 : decode cX11_loss 99 = .ok (.imul, 1) := getB' kX11_loss_4 0 rfl
theorem dX11_loss_100 : decode cX11_loss 100 = .ok (.bipush 99, 2) := getB' kX11_loss_4 1 rfl
theorem dX11_loss_102 : decode cX11_loss 102 = .ok (.iadd, 1) := getB' kX11_loss_4 2 rfl
theorem dX11_loss_103 : decode cX11_loss 103 = .ok (.bipush 100, 2) := getB' kX11_loss_4 3 rfl
theorem dX11_loss_105 : decode cX11_loss 105 = .ok (.idiv, 1) := getB' kX11_loss_4 4 rfl
theorem dX11_loss_106 : decode cX11_loss 106 = .ok (.iload 8, 2) := getB' kX11_loss_4 5 rfl
theorem dX11_loss_108 : decode cX11_loss 108 = .ok (.iload 4, 2) := getB' kX11_loss_4 6 rfl
theorem dX11_loss_110 : decode cX11_loss 110 = .ok (.imul, 1) := getB' kX11_loss_4 7 rfl
theorem dX11_loss_111 : decode cX11_loss 111 = .ok (.bipush 99, 2) := getB' kX11_loss_4 8 rfl
theorem dX11_loss_113 : decode cX11_loss 113 = .ok (.iadd, 1) := getB' kX11_loss_4 9 rfl
theorem dX11_loss_114 : decode cX11_loss 114 = .ok (.bipush 100, 2) := getB' kX11_loss_4 10 rfl
theorem dX11_loss_116 : decode cX11_loss 116 = .ok (.idiv, 1) := getB' kX11_loss_4 11 rfl
def LX11_loss_5 : List (Nat × Instr × Nat) := [(117, .iadd, 1), (118, .istore 9, 2), (120, .iload 7, 2), (122, .iload 8, 2), (124, .isub, 1), (125, .iload 5, 2), (127, .ifCond .ne 9, 3), (130, .iload 9, 2), (132, .ineg, 1), (133, .goto 5, 3), (136, .iload 9, 2), (138, .iadd, 1)]
theorem kX11_loss_5 : chkB cX11_loss LX11_loss_5 = true := by decide +kernel
theorem dX11_loss_117 : decode cX11_loss 117 = .ok (.iadd, 1) := getB' kX11_loss_5 0 rfl
theorem dX11_loss_118 : decode cX11_loss 118 = .ok (.istore 9, 2) := getB' kX11_loss_5 1 rfl
theorem dX11_loss_120 : decode cX11_loss 120 = .ok (.iload 7, 2) := getB' kX11_loss_5 2 rfl
theorem dX11_loss_122 : decode cX11_loss 122 = .ok (.iload 8, 2) := getB' kX11_loss_5 3 rfl
theorem dX11_loss_124 : decode cX11_loss 124 = .ok (.isub, 1) := getB' kX11_loss_5 4 rfl
theorem dX11_loss_125 : decode cX11_loss 125 = .ok (.iload 5, 2) := getB' kX11_loss_5 5 rfl
theorem dX11_loss_127 : decode cX11_loss 127 = .ok (.ifCond .ne 9, 3) := getB' kX11_loss_5 6 rfl
theorem dX11_loss_130 : decode cX11_loss 130 = .ok (.iload 9, 2) := getB' kX11_loss_5 7 rfl
theorem dX11_loss_132 : decode cX11_loss 132 = .ok (.ineg, 1) := getB' kX11_loss_5 8 rfl
theorem dX11_loss_133 : decode cX11_loss 133 = .ok (.goto 5, 3) := getB' kX11_loss_5 9 rfl
theorem dX11_loss_136 : decode cX11_loss 136 = .ok (.iload 9, 2) := getB' kX11_loss_5 10 rfl
theorem dX11_loss_138 : decode cX11_loss 138 = .ok (.iadd, 1) := getB' kX11_loss_5 11 rfl
def LX11_loss_6 : List (Nat × Instr × Nat) := [(139, .ireturn, 1)]
theorem kX11_loss_6 : chkB cX11_loss LX11_loss_6 = true := by decide +kernel
theorem dX11_loss_139 : decode cX11_loss 139 = .ok (.ireturn, 1) := getB' kX11_loss_6 0 rfl
def LX11_noise_0 : List (Nat × Instr × Nat) := [(0, .aload_n 0, 1), (1, .iload_n 1, 1), (2, .iconst 5, 1), (3, .invokevirtual 169, 3), (6, .astore_n 3, 1), (7, .aload_n 3, 1), (8, .ifnull 10, 3), (11, .iload_n 2, 1), (12, .invokestatic 559, 3), (15, .ifCond .ne 7, 3), (18, .iconst (-1), 1), (19, .goto 11, 3)]
theorem kX11_noise_0 : chkB cX11_noise LX11_noise_0 = true := by decide +kernel
theorem dX11_noise_0 : decode cX11_noise 0 = .ok (.aload_n 0, 1) := getB' kX11_noise_0 0 rfl
theorem dX11_noise_1 : decode cX11_noise 1 = .ok (.iload_n 1, 1) := getB' kX11_noise_0 1 rfl
theorem dX11_noise_2 : decode cX11_noise 2 = .ok (.iconst 5, 1) := getB' kX11_noise_0 2 rfl
theorem dX11_noise_3 : decode cX11_noise 3 = .ok (.invokevirtual 169, 3) := getB' kX11_noise_0 3 rfl
theorem dX11_noise_6 : decode cX11_noise 6 = .ok (.astore_n 3, 1) := getB' kX11_noise_0 4 rfl
theorem dX11_noise_7 : decode cX11_noise 7 = .ok (.aload_n 3, 1) := getB' kX11_noise_0 5 rfl
theorem dX11_noise_8 : decode cX11_noise 8 = .ok (.ifnull 10, 3) := getB' kX11_noise_0 6 rfl
theorem dX11_noise_11 : decode cX11_noise 11 = .ok (.iload_n 2, 1) := getB' kX11_noise_0 7 rfl
theorem dX11_noise_12 : decode cX11_noise 12 = .ok (.invokestatic 559, 3) := getB' kX11_noise_0 8 rfl
theorem dX11_noise_15 : decode cX11_noise 15 = .ok (.ifCond .ne 7, 3) := getB' kX11_noise_0 9 rfl
theorem dX11_noise_18 : decode cX11_noise 18 = .ok (.iconst (-1), 1) := getB' kX11_noise_0 10 rfl
theorem dX11_noise_19 : decode cX11_noise 19 = .ok (.goto 11, 3) := getB' kX11_noise_0 11 rfl
def LX11_noise_1 : List (Nat × Instr × Nat) := [(22, .aload_n 3, 1), (23, .getfield 473, 3), (26, .iload_n 2, 1), (27, .invokestatic 253, 3), (30, .ireturn, 1)]
theorem kX11_noise_1 : chkB cX11_noise LX11_noise_1 = true := by decide +kernel
theorem dX11_noise_22 : decode cX11_noise 22 = .ok (.aload_n 3, 1) := getB' kX11_noise_1 0 rfl
theorem dX11_noise_23 : decode cX11_noise 23 = .ok (.getfield 473, 3) := getB' kX11_noise_1 1 rfl
theorem dX11_noise_26 : decode cX11_noise 26 = .ok (.iload_n 2, 1) := getB' kX11_noise_1 2 rfl
theorem dX11_noise_27 : decode cX11_noise 27 = .ok (.invokestatic 253, 3) := getB' kX11_noise_1 3 rfl
theorem dX11_noise_30 : decode cX11_noise 30 = .ok (.ireturn, 1) := getB' kX11_noise_1 4 rfl
def LX11_caught_0 : List (Nat × Instr × Nat) := [(0, .aload_n 0, 1), (1, .iload_n 1, 1), (2, .invokevirtual 403, 3), (5, .ifnull 31, 3), (8, .iload_n 2, 1), (9, .iconst 0, 1), (10, .iconst 3, 1), (11, .invokestatic 112, 3), (14, .ifCond .eq 22, 3), (17, .iload_n 3, 1), (18, .invokestatic 394, 3), (21, .ifCond .eq 15, 3)]
theorem kX11_caught_0 : chkB cX11_caught LX11_caught_0 = true := by decide +kernel
theorem dX11_caught_0 : decode cX11_caught 0 = .ok (.aload_n 0, 1) := getB' kX11_caught_0 0 rfl
theorem dX11_caught_1 : decode cX11_caught 1 = .ok (.iload_n 1, 1) := getB' kX11_caught_0 1 rfl
theorem dX11_caught_2 : decode cX11_caught 2 = .ok (.invokevirtual 403, 3) := getB' kX11_caught_0 2 rfl
theorem dX11_caught_5 : decode cX11_caught 5 = .ok (.ifnull 31, 3) := getB' kX11_caught_0 3 rfl
theorem dX11_caught_8 : decode cX11_caught 8 = .ok (.iload_n 2, 1) := getB' kX11_caught_0 4 rfl
theorem dX11_caught_9 : decode cX11_caught 9 = .ok (.iconst 0, 1) := getB' kX11_caught_0 5 rfl
theorem dX11_caught_10 : decode cX11_caught 10 = .ok (.iconst 3, 1) := getB' kX11_caught_0 6 rfl
theorem dX11_caught_11 : decode cX11_caught 11 = .ok (.invokestatic 112, 3) := getB' kX11_caught_0 7 rfl
theorem dX11_caught_14 : decode cX11_caught 14 = .ok (.ifCond .eq 22, 3) := getB' kX11_caught_0 8 rfl
theorem dX11_caught_17 : decode cX11_caught 17 = .ok (.iload_n 3, 1) := getB' kX11_caught_0 9 rfl
theorem dX11_caught_18 : decode cX11_caught 18 = .ok (.invokestatic 394, 3) := getB' kX11_caught_0 10 rfl
theorem dX11_caught_21 : decode cX11_caught 21 = .ok (.ifCond .eq 15, 3) := getB' kX11_caught_0 11 rfl
def LX11_caught_1 : List (Nat × Instr × Nat) := [(24, .iload 4, 2), (26, .iconst 1, 1), (27, .ldc_w 424, 3), (30, .invokestatic 112, 3), (33, .ifCond .ne 5, 3), (36, .iconst (-1), 1), (37, .ireturn, 1), (38, .iload 5, 2), (40, .iconst 0, 1), (41, .aload_n 0, 1), (42, .getfield 12, 3), (45, .getfield 145, 3)]
theorem kX11_caught_1 : chkB cX11_caught LX11_caught_1 = true := by decide +kernel
theorem dX11_caught_24 : decode cX11_caught 24 = .ok (.iload 4, 2) := getB' kX11_caught_1 0 rfl
theorem dX11_caught_26 : decode cX11_caught 26 = .ok (.iconst 1, 1) := getB' kX11_caught_1 1 rfl
theorem dX11_caught_27 : decode cX11_caught 27 = .ok (.ldc_w 424, 3) := getB' kX11_caught_1 2 rfl
theorem dX11_caught_30 : decode cX11_caught 30 = .ok (.invokestatic 112, 3) := getB' kX11_caught_1 3 rfl
theorem dX11_caught_33 : decode cX11_caught 33 = .ok (.ifCond .ne 5, 3) := getB' kX11_caught_1 4 rfl
theorem dX11_caught_36 : decode cX11_caught 36 = .ok (.iconst (-1), 1) := getB' kX11_caught_1 5 rfl
theorem dX11_caught_37 : decode cX11_caught 37 = .ok (.ireturn, 1) := getB' kX11_caught_1 6 rfl
theorem dX11_caught_38 : decode cX11_caught 38 = .ok (.iload 5, 2) := getB' kX11_caught_1 7 rfl
theorem dX11_caught_40 : decode cX11_caught 40 = .ok (.iconst 0, 1) := getB' kX11_caught_1 8 rfl
theorem dX11_caught_41 : decode cX11_caught 41 = .ok (.aload_n 0, 1) := getB' kX11_caught_1 9 rfl
theorem dX11_caught_42 : decode cX11_caught 42 = .ok (.getfield 12, 3) := getB' kX11_caught_1 10 rfl
theorem dX11_caught_45 : decode cX11_caught 45 = .ok (.getfield 145, 3) := getB' kX11_caught_1 11 rfl
def LX11_caught_2 : List (Nat × Instr × Nat) := [(48, .invokestatic 112, 3), (51, .ifCond .ne 5, 3), (54, .iconst (-1), 1), (55, .ireturn, 1), (56, .aload_n 0, 1), (57, .getfield 82, 3), (60, .iload_n 1, 1), (61, .iload_n 2, 1), (62, .iload_n 3, 1), (63, .iload 4, 2), (65, .iload 5, 2), (67, .invokevirtual 205, 3)]
theorem kX11_caught_2 : chkB cX11_caught LX11_caught_2 = true := by decide +kernel
theorem dX11_caught_48 : decode cX11_caught 48 = .ok (.invokestatic 112, 3) := getB' kX11_caught_2 0 rfl
theorem dX11_caught_51 : decode cX11_caught 51 = .ok (.ifCond .ne 5, 3) := getB' kX11_caught_2 1 rfl
theorem dX11_caught_54 : decode cX11_caught 54 = .ok (.iconst (-1), 1) := getB' kX11_caught_2 2 rfl
theorem dX11_caught_55 : decode cX11_caught 55 = .ok (.ireturn, 1) := getB' kX11_caught_2 3 rfl
theorem dX11_caught_56 : decode cX11_caught 56 = .ok (.aload_n 0, 1) := getB' kX11_caught_2 4 rfl
theorem dX11_caught_57 : decode cX11_caught 57 = .ok (.getfield 82, 3) := getB' kX11_caught_2 5 rfl
theorem dX11_caught_60 : decode cX11_caught 60 = .ok (.iload_n 1, 1) := getB' kX11_caught_2 6 rfl
theorem dX11_caught_61 : decode cX11_caught 61 = .ok (.iload_n 2, 1) := getB' kX11_caught_2 7 rfl
theorem dX11_caught_62 : decode cX11_caught 62 = .ok (.iload_n 3, 1) := getB' kX11_caught_2 8 rfl
theorem dX11_caught_63 : decode cX11_caught 63 = .ok (.iload 4, 2) := getB' kX11_caught_2 9 rfl
theorem dX11_caught_65 : decode cX11_caught 65 = .ok (.iload 5, 2) := getB' kX11_caught_2 10 rfl
theorem dX11_caught_67 : decode cX11_caught 67 = .ok (.invokevirtual 205, 3) := getB' kX11_caught_2 11 rfl
def LX11_caught_3 : List (Nat × Instr × Nat) := [(70, .ireturn, 1)]
theorem kX11_caught_3 : chkB cX11_caught LX11_caught_3 = true := by decide +kernel
theorem dX11_caught_70 : decode cX11_caught 70 = .ok (.ireturn, 1) := getB' kX11_caught_3 0 rfl
def LX11_over_0 : List (Nat × Instr × Nat) := [(0, .iconst (-1), 1), (1, .istore_n 1, 1), (2, .iconst 0, 1), (3, .istore_n 2, 1), (4, .iload_n 2, 1), (5, .aload_n 0, 1), (6, .getfield 82, 3), (9, .getfield 199, 3), (12, .if_icmp .ge 55, 3), (15, .iload_n 1, 1), (16, .iconst (-1), 1), (17, .if_icmp .eq 24, 3)]
theorem kX11_over_0 : chkB cX11_over LX11_over_0 = true := by decide +kernel
theorem dX11_over_0 : decode cX11_over 0 = .ok (.iconst (-1), 1) := getB' kX11_over_0 0 rfl
theorem dX11_over_1 : decode cX11_over 1 = .ok (.istore_n 1, 1) := getB' kX11_over_0 1 rfl
theorem dX11_over_2 : decode cX11_over 2 = .ok (.iconst 0, 1) := getB' kX11_over_0 2 rfl
theorem dX11_over_3 : decode cX11_over 3 = .ok (.istore_n 2, 1) := getB' kX11_over_0 3 rfl
theorem dX11_over_4 : decode cX11_over 4 = .ok (.iload_n 2, 1) := getB' kX11_over_0 4 rfl
theorem dX11_over_5 : decode cX11_over 5 = .ok (.aload_n 0, 1) := getB' kX11_over_0 5 rfl
theorem dX11_over_6 : decode cX11_over 6 = .ok (.getfield 82, 3) := getB' kX11_over_0 6 rfl
theorem dX11_over_9 : decode cX11_over 9 = .ok (.getfield 199, 3) := getB' kX11_over_0 7 rfl
theorem dX11_over_12 : decode cX11_over 12 = .ok (.if_icmp .ge 55, 3) := getB' kX11_over_0 8 rfl
theorem dX11_over_15 : decode cX11_over 15 = .ok (.iload_n 1, 1) := getB' kX11_over_0 9 rfl
theorem dX11_over_16 : decode cX11_over 16 = .ok (.iconst (-1), 1) := getB' kX11_over_0 10 rfl
theorem dX11_over_17 : decode cX11_over 17 = .ok (.if_icmp .eq 24, 3) := getB' kX11_over_0 11 rfl
def LX11_over_1 : List (Nat × Instr × Nat) := [(20, .aload_n 0, 1), (21, .getfield 82, 3), (24, .iload_n 2, 1), (25, .iconst 4, 1), (26, .invokevirtual 209, 3), (29, .aload_n 0, 1), (30, .getfield 82, 3), (33, .iload_n 1, 1), (34, .iconst 4, 1), (35, .invokevirtual 209, 3), (38, .if_icmp .ge 7, 3), (41, .iconst 1, 1)]
theorem kX11_over_1 : chkB cX11_over LX11_over_1 = true := by decide +kernel
theorem dX11_over_20 : decode cX11_over 20 = .ok (.aload_n 0, 1) := getB' kX11_over_1 0 rfl
theorem dX11_over_21 : decode cX11_over 21 = .ok (.getfield 82, 3) := getB' kX11_over_1 1 rfl
theorem dX11_over_24 : decode cX11_over 24 = .ok (.iload_n 2, 1) := getB' kX11_over_1 2 rfl
theorem dX11_over_25 : decode cX11_over 25 = .ok (.iconst 4, 1) := getB' kX11_over_1 3 rfl
theorem dX11_over_26 : decode cX11_over 26 = .ok (.invokevirtual 209, 3) := getB' kX11_over_1 4 rfl
theorem dX11_over_29 : decode cX11_over 29 = .ok (.aload_n 0, 1) := getB' kX11_over_1 5 rfl
theorem dX11_over_30 : decode cX11_over 30 = .ok (.getfield 82, 3) := getB' kX11_over_1 6 rfl
theorem dX11_over_33 : decode cX11_over 33 = .ok (.iload_n 1, 1) := getB' kX11_over_1 7 rfl
theorem dX11_over_34 : decode cX11_over 34 = .ok (.iconst 4, 1) := getB' kX11_over_1 8 rfl
theorem dX11_over_35 : decode cX11_over 35 = .ok (.invokevirtual 209, 3) := getB' kX11_over_1 9 rfl
theorem dX11_over_38 : decode cX11_over 38 = .ok (.if_icmp .ge 7, 3) := getB' kX11_over_1 10 rfl
theorem dX11_over_41 : decode cX11_over 41 = .ok (.iconst 1, 1) := getB' kX11_over_1 11 rfl
def LX11_over_2 : List (Nat × Instr × Nat) := [(42, .goto 4, 3), (45, .iconst 0, 1), (46, .istore_n 3, 1), (47, .iload_n 3, 1), (48, .ifCond .eq 13, 3), (51, .aload_n 0, 1), (52, .iload_n 2, 1), (53, .invokevirtual 562, 3), (56, .ifCond .eq 5, 3), (59, .iload_n 2, 1), (60, .istore_n 1, 1), (61, .iinc 2 1, 3)]
theorem kX11_over_2 : chkB cX11_over LX11_over_2 = true := by decide +kernel
theorem dX11_over_42 : decode cX11_over 42 = .ok (.goto 4, 3) := getB' kX11_over_2 0 rfl
theorem dX11_over_45 : decode cX11_over 45 = .ok (.iconst 0, 1) := getB' kX11_over_2 1 rfl
theorem dX11_over_46 : decode cX11_over 46 = .ok (.istore_n 3, 1) := getB' kX11_over_2 2 rfl
theorem dX11_over_47 : decode cX11_over 47 = .ok (.iload_n 3, 1) := getB' kX11_over_2 3 rfl
theorem dX11_over_48 : decode cX11_over 48 = .ok (.ifCond .eq 13, 3) := getB' kX11_over_2 4 rfl
theorem dX11_over_51 : decode cX11_over 51 = .ok (.aload_n 0, 1) := getB' kX11_over_2 5 rfl
theorem dX11_over_52 : decode cX11_over 52 = .ok (.iload_n 2, 1) := getB' kX11_over_2 6 rfl
theorem dX11_over_53 : decode cX11_over 53 = .ok (.invokevirtual 562, 3) := getB' kX11_over_2 7 rfl
theorem dX11_over_56 : decode cX11_over 56 = .ok (.ifCond .eq 5, 3) := getB' kX11_over_2 8 rfl
theorem dX11_over_59 : decode cX11_over 59 = .ok (.iload_n 2, 1) := getB' kX11_over_2 9 rfl
theorem dX11_over_60 : decode cX11_over 60 = .ok (.istore_n 1, 1) := getB' kX11_over_2 10 rfl
theorem dX11_over_61 : decode cX11_over 61 = .ok (.iinc 2 1, 3) := getB' kX11_over_2 11 rfl
def LX11_over_3 : List (Nat × Instr × Nat) := [(64, .goto (-60), 3), (67, .iload_n 1, 1), (68, .ireturn, 1)]
theorem kX11_over_3 : chkB cX11_over LX11_over_3 = true := by decide +kernel
theorem dX11_over_64 : decode cX11_over 64 = .ok (.goto (-60), 3) := getB' kX11_over_3 0 rfl
theorem dX11_over_67 : decode cX11_over 67 = .ok (.iload_n 1, 1) := getB' kX11_over_3 1 rfl
theorem dX11_over_68 : decode cX11_over 68 = .ok (.ireturn, 1) := getB' kX11_over_3 2 rfl
def LX11_isOver_0 : List (Nat × Instr × Nat) := [(0, .aload_n 0, 1), (1, .aload_n 0, 1), (2, .getfield 82, 3), (5, .iload_n 1, 1), (6, .iconst 0, 1), (7, .invokevirtual 209, 3), (10, .invokevirtual 403, 3), (13, .astore_n 2, 1), (14, .aload_n 2, 1), (15, .ifnonnull 7, 3), (18, .aconst_null, 1), (19, .goto 11, 3)]
theorem kX11_isOver_0 : chkB cX11_isOver LX11_isOver_0 = true := by decide +kernel
theorem dX11_isOver_0 : decode cX11_isOver 0 = .ok (.aload_n 0, 1) := getB' kX11_isOver_0 0 rfl
theorem dX11_isOver_1 : decode cX11_isOver 1 = .ok (.aload_n 0, 1) := getB' kX11_isOver_0 1 rfl
theorem dX11_isOver_2 : decode cX11_isOver 2 = .ok (.getfield 82, 3) := getB' kX11_isOver_0 2 rfl
theorem dX11_isOver_5 : decode cX11_isOver 5 = .ok (.iload_n 1, 1) := getB' kX11_isOver_0 3 rfl
theorem dX11_isOver_6 : decode cX11_isOver 6 = .ok (.iconst 0, 1) := getB' kX11_isOver_0 4 rfl
theorem dX11_isOver_7 : decode cX11_isOver 7 = .ok (.invokevirtual 209, 3) := getB' kX11_isOver_0 5 rfl
theorem dX11_isOver_10 : decode cX11_isOver 10 = .ok (.invokevirtual 403, 3) := getB' kX11_isOver_0 6 rfl
theorem dX11_isOver_13 : decode cX11_isOver 13 = .ok (.astore_n 2, 1) := getB' kX11_isOver_0 7 rfl
theorem dX11_isOver_14 : decode cX11_isOver 14 = .ok (.aload_n 2, 1) := getB' kX11_isOver_0 8 rfl
theorem dX11_isOver_15 : decode cX11_isOver 15 = .ok (.ifnonnull 7, 3) := getB' kX11_isOver_0 9 rfl
theorem dX11_isOver_18 : decode cX11_isOver 18 = .ok (.aconst_null, 1) := getB' kX11_isOver_0 10 rfl
theorem dX11_isOver_19 : decode cX11_isOver 19 = .ok (.goto 11, 3) := getB' kX11_isOver_0 11 rfl
def LX11_isOver_1 : List (Nat × Instr × Nat) := [(22, .aload_n 0, 1), (23, .aload_n 2, 1), (24, .getfield 565, 3), (27, .invokevirtual 151, 3), (30, .astore_n 3, 1), (31, .aload_n 3, 1), (32, .ifnonnull 5, 3), (35, .iconst 0, 1), (36, .ireturn, 1), (37, .aload_n 0, 1), (38, .getfield 19, 3), (41, .aload_n 2, 1)]
theorem kX11_isOver_1 : chkB cX11_isOver LX11_isOver_1 = true := by decide +kernel
theorem dX11_isOver_22 : decode cX11_isOver 22 = .ok (.aload_n 0, 1) := getB' kX11_isOver_1 0 rfl
theorem dX11_isOver_23 : decode cX11_isOver 23 = .ok (.aload_n 2, 1) := getB' kX11_isOver_1 1 rfl
theorem dX11_isOver_24 : decode cX11_isOver 24 = .ok (.getfield 565, 3) := getB' kX11_isOver_1 2 rfl
theorem dX11_isOver_27 : decode cX11_isOver 27 = .ok (.invokevirtual 151, 3) := getB' kX11_isOver_1 3 rfl
theorem dX11_isOver_30 : decode cX11_isOver 30 = .ok (.astore_n 3, 1) := getB' kX11_isOver_1 4 rfl
theorem dX11_isOver_31 : decode cX11_isOver 31 = .ok (.aload_n 3, 1) := getB' kX11_isOver_1 5 rfl
theorem dX11_isOver_32 : decode cX11_isOver 32 = .ok (.ifnonnull 5, 3) := getB' kX11_isOver_1 6 rfl
theorem dX11_isOver_35 : decode cX11_isOver 35 = .ok (.iconst 0, 1) := getB' kX11_isOver_1 7 rfl
theorem dX11_isOver_36 : decode cX11_isOver 36 = .ok (.ireturn, 1) := getB' kX11_isOver_1 8 rfl
theorem dX11_isOver_37 : decode cX11_isOver 37 = .ok (.aload_n 0, 1) := getB' kX11_isOver_1 9 rfl
theorem dX11_isOver_38 : decode cX11_isOver 38 = .ok (.getfield 19, 3) := getB' kX11_isOver_1 10 rfl
theorem dX11_isOver_41 : decode cX11_isOver 41 = .ok (.aload_n 2, 1) := getB' kX11_isOver_1 11 rfl
def LX11_isOver_2 : List (Nat × Instr × Nat) := [(42, .getfield 565, 3), (45, .aload_n 3, 1), (46, .aload_n 0, 1), (47, .getfield 82, 3), (50, .iload_n 1, 1), (51, .iconst 4, 1), (52, .invokevirtual 209, 3), (55, .invokevirtual 279, 3), (58, .aload_n 0, 1), (59, .getfield 19, 3), (62, .bipush 107, 2), (64, .aload_n 0, 1)]
theorem kX11_isOver_2 : chkB cX11_isOver LX11_isOver_2 = true := by decide +kernel
theorem dX11_isOver_42 : decode cX11_isOver 42 = .ok (.getfield 565, 3) := getB' kX11_isOver_2 0 rfl
theorem dX11_isOver_45 : decode cX11_isOver 45 = .ok (.aload_n 3, 1) := getB' kX11_isOver_2 1 rfl
theorem dX11_isOver_46 : decode cX11_isOver 46 = .ok (.aload_n 0, 1) := getB' kX11_isOver_2 2 rfl
theorem dX11_isOver_47 : decode cX11_isOver 47 = .ok (.getfield 82, 3) := getB' kX11_isOver_2 3 rfl
theorem dX11_isOver_50 : decode cX11_isOver 50 = .ok (.iload_n 1, 1) := getB' kX11_isOver_2 4 rfl
theorem dX11_isOver_51 : decode cX11_isOver 51 = .ok (.iconst 4, 1) := getB' kX11_isOver_2 5 rfl
theorem dX11_isOver_52 : decode cX11_isOver 52 = .ok (.invokevirtual 209, 3) := getB' kX11_isOver_2 6 rfl
theorem dX11_isOver_55 : decode cX11_isOver 55 = .ok (.invokevirtual 279, 3) := getB' kX11_isOver_2 7 rfl
theorem dX11_isOver_58 : decode cX11_isOver 58 = .ok (.aload_n 0, 1) := getB' kX11_isOver_2 8 rfl
theorem dX11_isOver_59 : decode cX11_isOver 59 = .ok (.getfield 19, 3) := getB' kX11_isOver_2 9 rfl
theorem dX11_isOver_62 : decode cX11_isOver 62 = .ok (.bipush 107, 2) := getB' kX11_isOver_2 10 rfl
theorem dX11_isOver_64 : decode cX11_isOver 64 = .ok (.aload_n 0, 1) := getB' kX11_isOver_2 11 rfl
def LX11_isOver_3 : List (Nat × Instr × Nat) := [(65, .getfield 82, 3), (68, .iload_n 1, 1), (69, .iconst 1, 1), (70, .invokevirtual 209, 3), (73, .aload_n 0, 1), (74, .getfield 82, 3), (77, .iload_n 1, 1), (78, .iconst 2, 1), (79, .invokevirtual 209, 3), (82, .invokevirtual 292, 3), (85, .istore 4, 2), (87, .iload 4, 2)]
theorem kX11_isOver_3 : chkB cX11_isOver LX11_isOver_3 = true := by decide +kernel
theorem dX11_isOver_65 : decode cX11_isOver 65 = .ok (.getfield 82, 3) := getB' kX11_isOver_3 0 rfl
theorem dX11_isOver_68 : decode cX11_isOver 68 = .ok (.iload_n 1, 1) := getB' kX11_isOver_3 1 rfl
theorem dX11_isOver_69 : decode cX11_isOver 69 = .ok (.iconst 1, 1) := getB' kX11_isOver_3 2 rfl
theorem dX11_isOver_70 : decode cX11_isOver 70 = .ok (.invokevirtual 209, 3) := getB' kX11_isOver_3 3 rfl
theorem dX11_isOver_73 : decode cX11_isOver 73 = .ok (.aload_n 0, 1) := getB' kX11_isOver_3 4 rfl
theorem dX11_isOver_74 : decode cX11_isOver 74 = .ok (.getfield 82, 3) := getB' kX11_isOver_3 5 rfl
theorem dX11_isOver_77 : decode cX11_isOver 77 = .ok (.iload_n 1, 1) := getB' kX11_isOver_3 6 rfl
theorem dX11_isOver_78 : decode cX11_isOver 78 = .ok (.iconst 2, 1) := getB' kX11_isOver_3 7 rfl
theorem dX11_isOver_79 : decode cX11_isOver 79 = .ok (.invokevirtual 209, 3) := getB' kX11_isOver_3 8 rfl
theorem dX11_isOver_82 : decode cX11_isOver 82 = .ok (.invokevirtual 292, 3) := getB' kX11_isOver_3 9 rfl
theorem dX11_isOver_85 : decode cX11_isOver 85 = .ok (.istore 4, 2) := getB' kX11_isOver_3 10 rfl
theorem dX11_isOver_87 : decode cX11_isOver 87 = .ok (.iload 4, 2) := getB' kX11_isOver_3 11 rfl
def LX11_isOver_4 : List (Nat × Instr × Nat) := [(89, .iconst (-1), 1), (90, .if_icmp .eq 17, 3), (93, .aload_n 0, 1), (94, .iload_n 1, 1), (95, .invokevirtual 566, 3), (98, .iload 4, 2), (100, .if_icmp .le 7, 3), (103, .iconst 1, 1), (104, .goto 4, 3), (107, .iconst 0, 1), (108, .ireturn, 1)]
theorem kX11_isOver_4 : chkB cX11_isOver LX11_isOver_4 = true := by decide +kernel
theorem dX11_isOver_89 : decode cX11_isOver 89 = .ok (.iconst (-1), 1) := getB' kX11_isOver_4 0 rfl
theorem dX11_isOver_90 : decode cX11_isOver 90 = .ok (.if_icmp .eq 17, 3) := getB' kX11_isOver_4 1 rfl
theorem dX11_isOver_93 : decode cX11_isOver 93 = .ok (.aload_n 0, 1) := getB' kX11_isOver_4 2 rfl
theorem dX11_isOver_94 : decode cX11_isOver 94 = .ok (.iload_n 1, 1) := getB' kX11_isOver_4 3 rfl
theorem dX11_isOver_95 : decode cX11_isOver 95 = .ok (.invokevirtual 566, 3) := getB' kX11_isOver_4 4 rfl
theorem dX11_isOver_98 : decode cX11_isOver 98 = .ok (.iload 4, 2) := getB' kX11_isOver_4 5 rfl
theorem dX11_isOver_100 : decode cX11_isOver 100 = .ok (.if_icmp .le 7, 3) := getB' kX11_isOver_4 6 rfl
theorem dX11_isOver_103 : decode cX11_isOver 103 = .ok (.iconst 1, 1) := getB' kX11_isOver_4 7 rfl
theorem dX11_isOver_104 : decode cX11_isOver 104 = .ok (.goto 4, 3) := getB' kX11_isOver_4 8 rfl
theorem dX11_isOver_107 : decode cX11_isOver 107 = .ok (.iconst 0, 1) := getB' kX11_isOver_4 9 rfl
theorem dX11_isOver_108 : decode cX11_isOver 108 = .ok (.ireturn, 1) := getB' kX11_isOver_4 10 rfl
def LX11_tonnesUpTo_0 : List (Nat × Instr × Nat) := [(0, .aload_n 0, 1), (1, .getfield 82, 3), (4, .iload_n 1, 1), (5, .iconst 4, 1), (6, .invokevirtual 209, 3), (9, .istore_n 2, 1), (10, .iconst 0, 1), (11, .istore_n 3, 1), (12, .iconst 0, 1), (13, .istore 4, 2), (15, .iload 4, 2), (17, .aload_n 0, 1)]
theorem kX11_tonnesUpTo_0 : chkB cX11_tonnesUpTo LX11_tonnesUpTo_0 = true := by decide +kernel
theorem dX11_tonnesUpTo_0 : decode cX11_tonnesUpTo 0 = .ok (.aload_n 0, 1) := getB' kX11_tonnesUpTo_0 0 rfl
theorem dX11_tonnesUpTo_1 : decode cX11_tonnesUpTo 1 = .ok (.getfield 82, 3) := getB' kX11_tonnesUpTo_0 1 rfl
theorem dX11_tonnesUpTo_4 : decode cX11_tonnesUpTo 4 = .ok (.iload_n 1, 1) := getB' kX11_tonnesUpTo_0 2 rfl
theorem dX11_tonnesUpTo_5 : decode cX11_tonnesUpTo 5 = .ok (.iconst 4, 1) := getB' kX11_tonnesUpTo_0 3 rfl
theorem dX11_tonnesUpTo_6 : decode cX11_tonnesUpTo 6 = .ok (.invokevirtual 209, 3) := getB' kX11_tonnesUpTo_0 4 rfl
theorem dX11_tonnesUpTo_9 : decode cX11_tonnesUpTo 9 = .ok (.istore_n 2, 1) := getB' kX11_tonnesUpTo_0 5 rfl
theorem dX11_tonnesUpTo_10 : decode cX11_tonnesUpTo 10 = .ok (.iconst 0, 1) := getB' kX11_tonnesUpTo_0 6 rfl
theorem dX11_tonnesUpTo_11 : decode cX11_tonnesUpTo 11 = .ok (.istore_n 3, 1) := getB' kX11_tonnesUpTo_0 7 rfl
theorem dX11_tonnesUpTo_12 : decode cX11_tonnesUpTo 12 = .ok (.iconst 0, 1) := getB' kX11_tonnesUpTo_0 8 rfl
theorem dX11_tonnesUpTo_13 : decode cX11_tonnesUpTo 13 = .ok (.istore 4, 2) := getB' kX11_tonnesUpTo_0 9 rfl
theorem dX11_tonnesUpTo_15 : decode cX11_tonnesUpTo 15 = .ok (.iload 4, 2) := getB' kX11_tonnesUpTo_0 10 rfl
theorem dX11_tonnesUpTo_17 : decode cX11_tonnesUpTo 17 = .ok (.aload_n 0, 1) := getB' kX11_tonnesUpTo_0 11 rfl
def LX11_tonnesUpTo_1 : List (Nat × Instr × Nat) := [(18, .getfield 82, 3), (21, .getfield 199, 3), (24, .if_icmp .ge 122, 3), (27, .aload_n 0, 1), (28, .getfield 82, 3), (31, .iload 4, 2), (33, .iconst 4, 1), (34, .invokevirtual 209, 3), (37, .istore 5, 2), (39, .iload 5, 2), (41, .iload_n 2, 1), (42, .if_icmp .lt 15, 3)]
theorem kX11_tonnesUpTo_1 : chkB cX11_tonnesUpTo LX11_tonnesUpTo_1 = true := by decide +kernel
theorem dX11_tonnesUpTo_18 : decode cX11_tonnesUpTo 18 = .ok (.getfield 82, 3) := getB' kX11_tonnesUpTo_1 0 rfl
theorem dX11_tonnesUpTo_21 : decode cX11_tonnesUpTo 21 = .ok (.getfield 199, 3) := getB' kX11_tonnesUpTo_1 1 rfl
theorem dX11_tonnesUpTo_24 : decode cX11_tonnesUpTo 24 = .ok (.if_icmp .ge 122, 3) := getB' kX11_tonnesUpTo_1 2 rfl
theorem dX11_tonnesUpTo_27 : decode cX11_tonnesUpTo 27 = .ok (.aload_n 0, 1) := getB' kX11_tonnesUpTo_1 3 rfl
theorem dX11_tonnesUpTo_28 : decode cX11_tonnesUpTo 28 = .ok (.getfield 82, 3) := getB' kX11_tonnesUpTo_1 4 rfl
theorem dX11_tonnesUpTo_31 : decode cX11_tonnesUpTo 31 = .ok (.iload 4, 2) := getB' kX11_tonnesUpTo_1 5 rfl
theorem dX11_tonnesUpTo_33 : decode cX11_tonnesUpTo 33 = .ok (.iconst 4, 1) := getB' kX11_tonnesUpTo_1 6 rfl
theorem dX11_tonnesUpTo_34 : decode cX11_tonnesUpTo 34 = .ok (.invokevirtual 209, 3) := getB' kX11_tonnesUpTo_1 7 rfl
theorem dX11_tonnesUpTo_37 : decode cX11_tonnesUpTo 37 = .ok (.istore 5, 2) := getB' kX11_tonnesUpTo_1 8 rfl
theorem dX11_tonnesUpTo_39 : decode cX11_tonnesUpTo 39 = .ok (.iload 5, 2) := getB' kX11_tonnesUpTo_1 9 rfl
theorem dX11_tonnesUpTo_41 : decode cX11_tonnesUpTo 41 = .ok (.iload_n 2, 1) := getB' kX11_tonnesUpTo_1 10 rfl
theorem dX11_tonnesUpTo_42 : decode cX11_tonnesUpTo 42 = .ok (.if_icmp .lt 15, 3) := getB' kX11_tonnesUpTo_1 11 rfl
def LX11_tonnesUpTo_2 : List (Nat × Instr × Nat) := [(45, .iload 5, 2), (47, .iload_n 2, 1), (48, .if_icmp .ne 13, 3), (51, .iload 4, 2), (53, .iload_n 1, 1), (54, .if_icmp .gt 7, 3), (57, .iconst 1, 1), (58, .goto 4, 3), (61, .iconst 0, 1), (62, .istore 6, 2), (64, .iload 6, 2), (66, .ifCond .eq 74, 3)]
theorem kX11_tonnesUpTo_2 : chkB cX11_tonnesUpTo LX11_tonnesUpTo_2 = true := by decide +kernel
theorem dX11_tonnesUpTo_45 : decode cX11_tonnesUpTo 45 = .ok (.iload 5, 2) := getB' kX11_tonnesUpTo_2 0 rfl
theorem dX11_tonnesUpTo_47 : decode cX11_tonnesUpTo 47 = .ok (.iload_n 2, 1) := getB' kX11_tonnesUpTo_2 1 rfl
theorem dX11_tonnesUpTo_48 : decode cX11_tonnesUpTo 48 = .ok (.if_icmp .ne 13, 3) := getB' kX11_tonnesUpTo_2 2 rfl
theorem dX11_tonnesUpTo_51 : decode cX11_tonnesUpTo 51 = .ok (.iload 4, 2) := getB' kX11_tonnesUpTo_2 3 rfl
theorem dX11_tonnesUpTo_53 : decode cX11_tonnesUpTo 53 = .ok (.iload_n 1, 1) := getB' kX11_tonnesUpTo_2 4 rfl
theorem dX11_tonnesUpTo_54 : decode cX11_tonnesUpTo 54 = .ok (.if_icmp .gt 7, 3) := getB' kX11_tonnesUpTo_2 5 rfl
theorem dX11_tonnesUpTo_57 : decode cX11_tonnesUpTo 57 = .ok (.iconst 1, 1) := getB' kX11_tonnesUpTo_2 6 rfl
theorem dX11_tonnesUpTo_58 : decode cX11_tonnesUpTo 58 = .ok (.goto 4, 3) := getB' kX11_tonnesUpTo_2 7 rfl
theorem dX11_tonnesUpTo_61 : decode cX11_tonnesUpTo 61 = .ok (.iconst 0, 1) := getB' kX11_tonnesUpTo_2 8 rfl
theorem dX11_tonnesUpTo_62 : decode cX11_tonnesUpTo 62 = .ok (.istore 6, 2) := getB' kX11_tonnesUpTo_2 9 rfl
theorem dX11_tonnesUpTo_64 : decode cX11_tonnesUpTo 64 = .ok (.iload 6, 2) := getB' kX11_tonnesUpTo_2 10 rfl
theorem dX11_tonnesUpTo_66 : decode cX11_tonnesUpTo 66 = .ok (.ifCond .eq 74, 3) := getB' kX11_tonnesUpTo_2 11 rfl
def LX11_tonnesUpTo_3 : List (Nat × Instr × Nat) := [(69, .iload 5, 2), (71, .sipush 360, 3), (74, .idiv, 1), (75, .iload_n 2, 1), (76, .sipush 360, 3), (79, .idiv, 1), (80, .if_icmp .ne 60, 3), (83, .aload_n 0, 1), (84, .getfield 82, 3), (87, .iload 4, 2), (89, .iconst 1, 1), (90, .invokevirtual 209, 3)]
theorem kX11_tonnesUpTo_3 : chkB cX11_tonnesUpTo LX11_tonnesUpTo_3 = true := by decide +kernel
theorem dX11_tonnesUpTo_69 : decode cX11_tonnesUpTo 69 = .ok (.iload 5, 2) := getB' kX11_tonnesUpTo_3 0 rfl
theorem dX11_tonnesUpTo_71 : decode cX11_tonnesUpTo 71 = .ok (.sipush 360, 3) := getB' kX11_tonnesUpTo_3 1 rfl
theorem dX11_tonnesUpTo_74 : decode cX11_tonnesUpTo 74 = .ok (.idiv, 1) := getB' kX11_tonnesUpTo_3 2 rfl
theorem dX11_tonnesUpTo_75 : decode cX11_tonnesUpTo 75 = .ok (.iload_n 2, 1) := getB' kX11_tonnesUpTo_3 3 rfl
theorem dX11_tonnesUpTo_76 : decode cX11_tonnesUpTo 76 = .ok (.sipush 360, 3) := getB' kX11_tonnesUpTo_3 4 rfl
theorem dX11_tonnesUpTo_79 : decode cX11_tonnesUpTo 79 = .ok (.idiv, 1) := getB' kX11_tonnesUpTo_3 5 rfl
theorem dX11_tonnesUpTo_80 : decode cX11_tonnesUpTo 80 = .ok (.if_icmp .ne 60, 3) := getB' kX11_tonnesUpTo_3 6 rfl
theorem dX11_tonnesUpTo_83 : decode cX11_tonnesUpTo 83 = .ok (.aload_n 0, 1) := getB' kX11_tonnesUpTo_3 7 rfl
theorem dX11_tonnesUpTo_84 : decode cX11_tonnesUpTo 84 = .ok (.getfield 82, 3) := getB' kX11_tonnesUpTo_3 8 rfl
theorem dX11_tonnesUpTo_87 : decode cX11_tonnesUpTo 87 = .ok (.iload 4, 2) := getB' kX11_tonnesUpTo_3 9 rfl
theorem dX11_tonnesUpTo_89 : decode cX11_tonnesUpTo 89 = .ok (.iconst 1, 1) := getB' kX11_tonnesUpTo_3 10 rfl
theorem dX11_tonnesUpTo_90 : decode cX11_tonnesUpTo 90 = .ok (.invokevirtual 209, 3) := getB' kX11_tonnesUpTo_3 11 rfl
def LX11_tonnesUpTo_4 : List (Nat × Instr × Nat) := [(93, .aload_n 0, 1), (94, .getfield 82, 3), (97, .iload_n 1, 1), (98, .iconst 1, 1), (99, .invokevirtual 209, 3), (102, .if_icmp .ne 38, 3), (105, .aload_n 0, 1), (106, .getfield 82, 3), (109, .iload 4, 2), (111, .iconst 2, 1), (112, .invokevirtual 209, 3), (115, .aload_n 0, 1)]
theorem kX11_tonnesUpTo_4 : chkB cX11_tonnesUpTo LX11_tonnesUpTo_4 = true := by decide +kernel
theorem dX11_tonnesUpTo_93 : decode cX11_tonnesUpTo 93 = .ok (.aload_n 0, 1) := getB' kX11_tonnesUpTo_4 0 rfl
theorem dX11_tonnesUpTo_94 : decode cX11_tonnesUpTo 94 = .ok (.getfield 82, 3) := getB' kX11_tonnesUpTo_4 1 rfl
theorem dX11_tonnesUpTo_97 : decode cX11_tonnesUpTo 97 = .ok (.iload_n 1, 1) := getB' kX11_tonnesUpTo_4 2 rfl
theorem dX11_tonnesUpTo_98 : decode cX11_tonnesUpTo 98 = .ok (.iconst 1, 1) := getB' kX11_tonnesUpTo_4 3 rfl
theorem dX11_tonnesUpTo_99 : decode cX11_tonnesUpTo 99 = .ok (.invokevirtual 209, 3) := getB' kX11_tonnesUpTo_4 4 rfl
theorem dX11_tonnesUpTo_102 : decode cX11_tonnesUpTo 102 = .ok (.if_icmp .ne 38, 3) := getB' kX11_tonnesUpTo_4 5 rfl
theorem dX11_tonnesUpTo_105 : decode cX11_tonnesUpTo 105 = .ok (.aload_n 0, 1) := getB' kX11_tonnesUpTo_4 6 rfl
theorem dX11_tonnesUpTo_106 : decode cX11_tonnesUpTo 106 = .ok (.getfield 82, 3) := getB' kX11_tonnesUpTo_4 7 rfl
theorem dX11_tonnesUpTo_109 : decode cX11_tonnesUpTo 109 = .ok (.iload 4, 2) := getB' kX11_tonnesUpTo_4 8 rfl
theorem dX11_tonnesUpTo_111 : decode cX11_tonnesUpTo 111 = .ok (.iconst 2, 1) := getB' kX11_tonnesUpTo_4 9 rfl
theorem dX11_tonnesUpTo_112 : decode cX11_tonnesUpTo 112 = .ok (.invokevirtual 209, 3) := getB' kX11_tonnesUpTo_4 10 rfl
theorem dX11_tonnesUpTo_115 : decode cX11_tonnesUpTo 115 = .ok (.aload_n 0, 1) := getB' kX11_tonnesUpTo_4 11 rfl
def LX11_tonnesUpTo_5 : List (Nat × Instr × Nat) := [(116, .getfield 82, 3), (119, .iload_n 1, 1), (120, .iconst 2, 1), (121, .invokevirtual 209, 3), (124, .if_icmp .ne 16, 3), (127, .iload_n 3, 1), (128, .aload_n 0, 1), (129, .getfield 82, 3), (132, .iload 4, 2), (134, .iconst 3, 1), (135, .invokevirtual 209, 3), (138, .iadd, 1)]
theorem kX11_tonnesUpTo_5 : chkB cX11_tonnesUpTo LX11_tonnesUpTo_5 = true := by decide +kernel
theorem dX11_tonnesUpTo_116 : decode cX11_tonnesUpTo 116 = .ok (.getfield 82, 3) := getB' kX11_tonnesUpTo_5 0 rfl
theorem dX11_tonnesUpTo_119 : decode cX11_tonnesUpTo 119 = .ok (.iload_n 1, 1) := getB' kX11_tonnesUpTo_5 1 rfl
theorem dX11_tonnesUpTo_120 : decode cX11_tonnesUpTo 120 = .ok (.iconst 2, 1) := getB' kX11_tonnesUpTo_5 2 rfl
theorem dX11_tonnesUpTo_121 : decode cX11_tonnesUpTo 121 = .ok (.invokevirtual 209, 3) := getB' kX11_tonnesUpTo_5 3 rfl
theorem dX11_tonnesUpTo_124 : decode cX11_tonnesUpTo 124 = .ok (.if_icmp .ne 16, 3) := getB' kX11_tonnesUpTo_5 4 rfl
theorem dX11_tonnesUpTo_127 : decode cX11_tonnesUpTo 127 = .ok (.iload_n 3, 1) := getB' kX11_tonnesUpTo_5 5 rfl
theorem dX11_tonnesUpTo_128 : decode cX11_tonnesUpTo 128 = .ok (.aload_n 0, 1) := getB' kX11_tonnesUpTo_5 6 rfl
theorem dX11_tonnesUpTo_129 : decode cX11_tonnesUpTo 129 = .ok (.getfield 82, 3) := getB' kX11_tonnesUpTo_5 7 rfl
theorem dX11_tonnesUpTo_132 : decode cX11_tonnesUpTo 132 = .ok (.iload 4, 2) := getB' kX11_tonnesUpTo_5 8 rfl
theorem dX11_tonnesUpTo_134 : decode cX11_tonnesUpTo 134 = .ok (.iconst 3, 1) := getB' kX11_tonnesUpTo_5 9 rfl
theorem dX11_tonnesUpTo_135 : decode cX11_tonnesUpTo 135 = .ok (.invokevirtual 209, 3) := getB' kX11_tonnesUpTo_5 10 rfl
theorem dX11_tonnesUpTo_138 : decode cX11_tonnesUpTo 138 = .ok (.iadd, 1) := getB' kX11_tonnesUpTo_5 11 rfl
def LX11_tonnesUpTo_6 : List (Nat × Instr × Nat) := [(139, .istore_n 3, 1), (140, .iinc 4 1, 3), (143, .goto (-128), 3), (146, .iload_n 3, 1), (147, .ireturn, 1)]
theorem kX11_tonnesUpTo_6 : chkB cX11_tonnesUpTo LX11_tonnesUpTo_6 = true := by decide +kernel
theorem dX11_tonnesUpTo_139 : decode cX11_tonnesUpTo 139 = .ok (.istore_n 3, 1) := getB' kX11_tonnesUpTo_6 0 rfl
theorem dX11_tonnesUpTo_140 : decode cX11_tonnesUpTo 140 = .ok (.iinc 4 1, 3) := getB' kX11_tonnesUpTo_6 1 rfl
theorem dX11_tonnesUpTo_143 : decode cX11_tonnesUpTo 143 = .ok (.goto (-128), 3) := getB' kX11_tonnesUpTo_6 2 rfl
theorem dX11_tonnesUpTo_146 : decode cX11_tonnesUpTo 146 = .ok (.iload_n 3, 1) := getB' kX11_tonnesUpTo_6 3 rfl
theorem dX11_tonnesUpTo_147 : decode cX11_tonnesUpTo 147 = .ok (.ireturn, 1) := getB' kX11_tonnesUpTo_6 4 rfl
def LX11_doubt_0 : List (Nat × Instr × Nat) := [(0, .iload_n 1, 1), (1, .iconst 0, 1), (2, .iconst 1, 1), (3, .invokestatic 112, 3), (6, .ifCond .ne 5, 3), (9, .iconst (-1), 1), (10, .ireturn, 1), (11, .iconst 0, 1), (12, .istore_n 2, 1), (13, .iload_n 2, 1), (14, .aload_n 0, 1), (15, .getfield 82, 3)]
theorem kX11_doubt_0 : chkB cX11_doubt LX11_doubt_0 = true := by decide +kernel
theorem dX11_doubt_0 : decode cX11_doubt 0 = .ok (.iload_n 1, 1) := getB' kX11_doubt_0 0 rfl
theorem dX11_doubt_1 : decode cX11_doubt 1 = .ok (.iconst 0, 1) := getB' kX11_doubt_0 1 rfl
theorem dX11_doubt_2 : decode cX11_doubt 2 = .ok (.iconst 1, 1) := getB' kX11_doubt_0 2 rfl
theorem dX11_doubt_3 : decode cX11_doubt 3 = .ok (.invokestatic 112, 3) := getB' kX11_doubt_0 3 rfl
theorem dX11_doubt_6 : decode cX11_doubt 6 = .ok (.ifCond .ne 5, 3) := getB' kX11_doubt_0 4 rfl
theorem dX11_doubt_9 : decode cX11_doubt 9 = .ok (.iconst (-1), 1) := getB' kX11_doubt_0 5 rfl
theorem dX11_doubt_10 : decode cX11_doubt 10 = .ok (.ireturn, 1) := getB' kX11_doubt_0 6 rfl
theorem dX11_doubt_11 : decode cX11_doubt 11 = .ok (.iconst 0, 1) := getB' kX11_doubt_0 7 rfl
theorem dX11_doubt_12 : decode cX11_doubt 12 = .ok (.istore_n 2, 1) := getB' kX11_doubt_0 8 rfl
theorem dX11_doubt_13 : decode cX11_doubt 13 = .ok (.iload_n 2, 1) := getB' kX11_doubt_0 9 rfl
theorem dX11_doubt_14 : decode cX11_doubt 14 = .ok (.aload_n 0, 1) := getB' kX11_doubt_0 10 rfl
theorem dX11_doubt_15 : decode cX11_doubt 15 = .ok (.getfield 82, 3) := getB' kX11_doubt_0 11 rfl
def LX11_doubt_1 : List (Nat × Instr × Nat) := [(18, .getfield 199, 3), (21, .if_icmp .ge 49, 3), (24, .iload_n 2, 1), (25, .iconst 1, 1), (26, .iadd, 1), (27, .istore_n 3, 1), (28, .iload_n 3, 1), (29, .aload_n 0, 1), (30, .getfield 82, 3), (33, .getfield 199, 3), (36, .if_icmp .ge 28, 3), (39, .aload_n 0, 1)]
theorem kX11_doubt_1 : chkB cX11_doubt LX11_doubt_1 = true := by decide +kernel
theorem dX11_doubt_18 : decode cX11_doubt 18 = .ok (.getfield 199, 3) := getB' kX11_doubt_1 0 rfl
theorem dX11_doubt_21 : decode cX11_doubt 21 = .ok (.if_icmp .ge 49, 3) := getB' kX11_doubt_1 1 rfl
theorem dX11_doubt_24 : decode cX11_doubt 24 = .ok (.iload_n 2, 1) := getB' kX11_doubt_1 2 rfl
theorem dX11_doubt_25 : decode cX11_doubt 25 = .ok (.iconst 1, 1) := getB' kX11_doubt_1 3 rfl
theorem dX11_doubt_26 : decode cX11_doubt 26 = .ok (.iadd, 1) := getB' kX11_doubt_1 4 rfl
theorem dX11_doubt_27 : decode cX11_doubt 27 = .ok (.istore_n 3, 1) := getB' kX11_doubt_1 5 rfl
theorem dX11_doubt_28 : decode cX11_doubt 28 = .ok (.iload_n 3, 1) := getB' kX11_doubt_1 6 rfl
theorem dX11_doubt_29 : decode cX11_doubt 29 = .ok (.aload_n 0, 1) := getB' kX11_doubt_1 7 rfl
theorem dX11_doubt_30 : decode cX11_doubt 30 = .ok (.getfield 82, 3) := getB' kX11_doubt_1 8 rfl
theorem dX11_doubt_33 : decode cX11_doubt 33 = .ok (.getfield 199, 3) := getB' kX11_doubt_1 9 rfl
theorem dX11_doubt_36 : decode cX11_doubt 36 = .ok (.if_icmp .ge 28, 3) := getB' kX11_doubt_1 10 rfl
theorem dX11_doubt_39 : decode cX11_doubt 39 = .ok (.aload_n 0, 1) := getB' kX11_doubt_1 11 rfl
def LX11_doubt_2 : List (Nat × Instr × Nat) := [(40, .iload_n 2, 1), (41, .iload_n 3, 1), (42, .invokevirtual 569, 3), (45, .ifCond .eq 13, 3), (48, .iload_n 1, 1), (49, .ifCond .ne 7, 3), (52, .iload_n 2, 1), (53, .goto 4, 3), (56, .iload_n 3, 1), (57, .ireturn, 1), (58, .iinc 3 1, 3), (61, .goto (-33), 3)]
theorem kX11_doubt_2 : chkB cX11_doubt LX11_doubt_2 = true := by decide +kernel
theorem dX11_doubt_40 : decode cX11_doubt 40 = .ok (.iload_n 2, 1) := getB' kX11_doubt_2 0 rfl
theorem dX11_doubt_41 : decode cX11_doubt 41 = .ok (.iload_n 3, 1) := getB' kX11_doubt_2 1 rfl
theorem dX11_doubt_42 : decode cX11_doubt 42 = .ok (.invokevirtual 569, 3) := getB' kX11_doubt_2 2 rfl
theorem dX11_doubt_45 : decode cX11_doubt 45 = .ok (.ifCond .eq 13, 3) := getB' kX11_doubt_2 3 rfl
theorem dX11_doubt_48 : decode cX11_doubt 48 = .ok (.iload_n 1, 1) := getB' kX11_doubt_2 4 rfl
theorem dX11_doubt_49 : decode cX11_doubt 49 = .ok (.ifCond .ne 7, 3) := getB' kX11_doubt_2 5 rfl
theorem dX11_doubt_52 : decode cX11_doubt 52 = .ok (.iload_n 2, 1) := getB' kX11_doubt_2 6 rfl
theorem dX11_doubt_53 : decode cX11_doubt 53 = .ok (.goto 4, 3) := getB' kX11_doubt_2 7 rfl
theorem dX11_doubt_56 : decode cX11_doubt 56 = .ok (.iload_n 3, 1) := getB' kX11_doubt_2 8 rfl
theorem dX11_doubt_57 : decode cX11_doubt 57 = .ok (.ireturn, 1) := getB' kX11_doubt_2 9 rfl
theorem dX11_doubt_58 : decode cX11_doubt 58 = .ok (.iinc 3 1, 3) := getB' kX11_doubt_2 10 rfl
theorem dX11_doubt_61 : decode cX11_doubt 61 = .ok (.goto (-33), 3) := getB' kX11_doubt_2 11 rfl
def LX11_doubt_3 : List (Nat × Instr × Nat) := [(64, .iinc 2 1, 3), (67, .goto (-54), 3), (70, .iconst (-1), 1), (71, .ireturn, 1)]
theorem kX11_doubt_3 : chkB cX11_doubt LX11_doubt_3 = true := by decide +kernel
theorem dX11_doubt_64 : decode cX11_doubt 64 = .ok (.iinc 2 1, 3) := getB' kX11_doubt_3 0 rfl
theorem dX11_doubt_67 : decode cX11_doubt 67 = .ok (.goto (-54), 3) := getB' kX11_doubt_3 1 rfl
theorem dX11_doubt_70 : decode cX11_doubt 70 = .ok (.iconst (-1), 1) := getB' kX11_doubt_3 2 rfl
theorem dX11_doubt_71 : decode cX11_doubt 71 = .ok (.ireturn, 1) := getB' kX11_doubt_3 3 rfl
def LX11_isDoubtful_0 : List (Nat × Instr × Nat) := [(0, .aload_n 0, 1), (1, .getfield 82, 3), (4, .iload_n 1, 1), (5, .iconst 2, 1), (6, .invokevirtual 209, 3), (9, .istore_n 3, 1), (10, .aload_n 0, 1), (11, .getfield 82, 3), (14, .iload_n 2, 1), (15, .iconst 2, 1), (16, .invokevirtual 209, 3), (19, .istore 4, 2)]
theorem kX11_isDoubtful_0 : chkB cX11_isDoubtful LX11_isDoubtful_0 = true := by decide +kernel
theorem dX11_isDoubtful_0 : decode cX11_isDoubtful 0 = .ok (.aload_n 0, 1) := getB' kX11_isDoubtful_0 0 rfl
theorem dX11_isDoubtful_1 : decode cX11_isDoubtful 1 = .ok (.getfield 82, 3) := getB' kX11_isDoubtful_0 1 rfl
theorem dX11_isDoubtful_4 : decode cX11_isDoubtful 4 = .ok (.iload_n 1, 1) := getB' kX11_isDoubtful_0 2 rfl
theorem dX11_isDoubtful_5 : decode cX11_isDoubtful 5 = .ok (.iconst 2, 1) := getB' kX11_isDoubtful_0 3 rfl
theorem dX11_isDoubtful_6 : decode cX11_isDoubtful 6 = .ok (.invokevirtual 209, 3) := getB' kX11_isDoubtful_0 4 rfl
theorem dX11_isDoubtful_9 : decode cX11_isDoubtful 9 = .ok (.istore_n 3, 1) := getB' kX11_isDoubtful_0 5 rfl
theorem dX11_isDoubtful_10 : decode cX11_isDoubtful 10 = .ok (.aload_n 0, 1) := getB' kX11_isDoubtful_0 6 rfl
theorem dX11_isDoubtful_11 : decode cX11_isDoubtful 11 = .ok (.getfield 82, 3) := getB' kX11_isDoubtful_0 7 rfl
theorem dX11_isDoubtful_14 : decode cX11_isDoubtful 14 = .ok (.iload_n 2, 1) := getB' kX11_isDoubtful_0 8 rfl
theorem dX11_isDoubtful_15 : decode cX11_isDoubtful 15 = .ok (.iconst 2, 1) := getB' kX11_isDoubtful_0 9 rfl
theorem dX11_isDoubtful_16 : decode cX11_isDoubtful 16 = .ok (.invokevirtual 209, 3) := getB' kX11_isDoubtful_0 10 rfl
theorem dX11_isDoubtful_19 : decode cX11_isDoubtful 19 = .ok (.istore 4, 2) := getB' kX11_isDoubtful_0 11 rfl
def LX11_isDoubtful_1 : List (Nat × Instr × Nat) := [(21, .aload_n 0, 1), (22, .getfield 82, 3), (25, .iload_n 1, 1), (26, .iconst 0, 1), (27, .invokevirtual 209, 3), (30, .aload_n 0, 1), (31, .getfield 82, 3), (34, .iload_n 2, 1), (35, .iconst 0, 1), (36, .invokevirtual 209, 3), (39, .if_icmp .ne 9, 3), (42, .iload_n 3, 1)]
theorem kX11_isDoubtful_1 : chkB cX11_isDoubtful LX11_isDoubtful_1 = true := by decide +kernel
theorem dX11_isDoubtful_21 : decode cX11_isDoubtful 21 = .ok (.aload_n 0, 1) := getB' kX11_isDoubtful_1 0 rfl
theorem dX11_isDoubtful_22 : decode cX11_isDoubtful 22 = .ok (.getfield 82, 3) := getB' kX11_isDoubtful_1 1 rfl
theorem dX11_isDoubtful_25 : decode cX11_isDoubtful 25 = .ok (.iload_n 1, 1) := getB' kX11_isDoubtful_1 2 rfl
theorem dX11_isDoubtful_26 : decode cX11_isDoubtful 26 = .ok (.iconst 0, 1) := getB' kX11_isDoubtful_1 3 rfl
theorem dX11_isDoubtful_27 : decode cX11_isDoubtful 27 = .ok (.invokevirtual 209, 3) := getB' kX11_isDoubtful_1 4 rfl
theorem dX11_isDoubtful_30 : decode cX11_isDoubtful 30 = .ok (.aload_n 0, 1) := getB' kX11_isDoubtful_1 5 rfl
theorem dX11_isDoubtful_31 : decode cX11_isDoubtful 31 = .ok (.getfield 82, 3) := getB' kX11_isDoubtful_1 6 rfl
theorem dX11_isDoubtful_34 : decode cX11_isDoubtful 34 = .ok (.iload_n 2, 1) := getB' kX11_isDoubtful_1 7 rfl
theorem dX11_isDoubtful_35 : decode cX11_isDoubtful 35 = .ok (.iconst 0, 1) := getB' kX11_isDoubtful_1 8 rfl
theorem dX11_isDoubtful_36 : decode cX11_isDoubtful 36 = .ok (.invokevirtual 209, 3) := getB' kX11_isDoubtful_1 9 rfl
theorem dX11_isDoubtful_39 : decode cX11_isDoubtful 39 = .ok (.if_icmp .ne 9, 3) := getB' kX11_isDoubtful_1 10 rfl
theorem dX11_isDoubtful_42 : decode cX11_isDoubtful 42 = .ok (.iload_n 3, 1) := getB' kX11_isDoubtful_1 11 rfl
def LX11_isDoubtful_2 : List (Nat × Instr × Nat) := [(43, .iload 4, 2), (45, .if_icmp .ne 5, 3), (48, .iconst 0, 1), (49, .ireturn, 1), (50, .aload_n 0, 1), (51, .getfield 82, 3), (54, .iload_n 1, 1), (55, .iconst 4, 1), (56, .invokevirtual 209, 3), (59, .aload_n 0, 1), (60, .getfield 82, 3), (63, .iload_n 2, 1)]
theorem kX11_isDoubtful_2 : chkB cX11_isDoubtful LX11_isDoubtful_2 = true := by decide +kernel
theorem dX11_isDoubtful_43 : decode cX11_isDoubtful 43 = .ok (.iload 4, 2) := getB' kX11_isDoubtful_2 0 rfl
theorem dX11_isDoubtful_45 : decode cX11_isDoubtful 45 = .ok (.if_icmp .ne 5, 3) := getB' kX11_isDoubtful_2 1 rfl
theorem dX11_isDoubtful_48 : decode cX11_isDoubtful 48 = .ok (.iconst 0, 1) := getB' kX11_isDoubtful_2 2 rfl
theorem dX11_isDoubtful_49 : decode cX11_isDoubtful 49 = .ok (.ireturn, 1) := getB' kX11_isDoubtful_2 3 rfl
theorem dX11_isDoubtful_50 : decode cX11_isDoubtful 50 = .ok (.aload_n 0, 1) := getB' kX11_isDoubtful_2 4 rfl
theorem dX11_isDoubtful_51 : decode cX11_isDoubtful 51 = .ok (.getfield 82, 3) := getB' kX11_isDoubtful_2 5 rfl
theorem dX11_isDoubtful_54 : decode cX11_isDoubtful 54 = .ok (.iload_n 1, 1) := getB' kX11_isDoubtful_2 6 rfl
theorem dX11_isDoubtful_55 : decode cX11_isDoubtful 55 = .ok (.iconst 4, 1) := getB' kX11_isDoubtful_2 7 rfl
theorem dX11_isDoubtful_56 : decode cX11_isDoubtful 56 = .ok (.invokevirtual 209, 3) := getB' kX11_isDoubtful_2 8 rfl
theorem dX11_isDoubtful_59 : decode cX11_isDoubtful 59 = .ok (.aload_n 0, 1) := getB' kX11_isDoubtful_2 9 rfl
theorem dX11_isDoubtful_60 : decode cX11_isDoubtful 60 = .ok (.getfield 82, 3) := getB' kX11_isDoubtful_2 10 rfl
theorem dX11_isDoubtful_63 : decode cX11_isDoubtful 63 = .ok (.iload_n 2, 1) := getB' kX11_isDoubtful_2 11 rfl
def LX11_isDoubtful_3 : List (Nat × Instr × Nat) := [(64, .iconst 4, 1), (65, .invokevirtual 209, 3), (68, .isub, 1), (69, .invokestatic 572, 3), (72, .istore 5, 2), (74, .iload 5, 2), (76, .aload_n 0, 1), (77, .getfield 12, 3), (80, .getfield 400, 3), (83, .iload_n 3, 1), (84, .invokestatic 253, 3), (87, .aload_n 0, 1)]
theorem kX11_isDoubtful_3 : chkB cX11_isDoubtful LX11_isDoubtful_3 = true := by decide +kernel
theorem dX11_isDoubtful_64 : decode cX11_isDoubtful 64 = .ok (.iconst 4, 1) := getB' kX11_isDoubtful_3 0 rfl
theorem dX11_isDoubtful_65 : decode cX11_isDoubtful 65 = .ok (.invokevirtual 209, 3) := getB' kX11_isDoubtful_3 1 rfl
theorem dX11_isDoubtful_68 : decode cX11_isDoubtful 68 = .ok (.isub, 1) := getB' kX11_isDoubtful_3 2 rfl
theorem dX11_isDoubtful_69 : decode cX11_isDoubtful 69 = .ok (.invokestatic 572, 3) := getB' kX11_isDoubtful_3 3 rfl
theorem dX11_isDoubtful_72 : decode cX11_isDoubtful 72 = .ok (.istore 5, 2) := getB' kX11_isDoubtful_3 4 rfl
theorem dX11_isDoubtful_74 : decode cX11_isDoubtful 74 = .ok (.iload 5, 2) := getB' kX11_isDoubtful_3 5 rfl
theorem dX11_isDoubtful_76 : decode cX11_isDoubtful 76 = .ok (.aload_n 0, 1) := getB' kX11_isDoubtful_3 6 rfl
theorem dX11_isDoubtful_77 : decode cX11_isDoubtful 77 = .ok (.getfield 12, 3) := getB' kX11_isDoubtful_3 7 rfl
theorem dX11_isDoubtful_80 : decode cX11_isDoubtful 80 = .ok (.getfield 400, 3) := getB' kX11_isDoubtful_3 8 rfl
theorem dX11_isDoubtful_83 : decode cX11_isDoubtful 83 = .ok (.iload_n 3, 1) := getB' kX11_isDoubtful_3 9 rfl
theorem dX11_isDoubtful_84 : decode cX11_isDoubtful 84 = .ok (.invokestatic 253, 3) := getB' kX11_isDoubtful_3 10 rfl
theorem dX11_isDoubtful_87 : decode cX11_isDoubtful 87 = .ok (.aload_n 0, 1) := getB' kX11_isDoubtful_3 11 rfl
def LX11_isDoubtful_4 : List (Nat × Instr × Nat) := [(88, .getfield 12, 3), (91, .getfield 400, 3), (94, .iload 4, 2), (96, .invokestatic 253, 3), (99, .iadd, 1), (100, .iconst 4, 1), (101, .idiv, 1), (102, .if_icmp .ge 7, 3), (105, .iconst 1, 1), (106, .goto 4, 3), (109, .iconst 0, 1), (110, .ireturn, 1)]
theorem kX11_isDoubtful_4 : chkB cX11_isDoubtful LX11_isDoubtful_4 = true := by decide +kernel
theorem dX11_isDoubtful_88 : decode cX11_isDoubtful 88 = .ok (.getfield 12, 3) := getB' kX11_isDoubtful_4 0 rfl
theorem dX11_isDoubtful_91 : decode cX11_isDoubtful 91 = .ok (.getfield 400, 3) := getB' kX11_isDoubtful_4 1 rfl
theorem dX11_isDoubtful_94 : decode cX11_isDoubtful 94 = .ok (.iload 4, 2) := getB' kX11_isDoubtful_4 2 rfl
theorem dX11_isDoubtful_96 : decode cX11_isDoubtful 96 = .ok (.invokestatic 253, 3) := getB' kX11_isDoubtful_4 3 rfl
theorem dX11_isDoubtful_99 : decode cX11_isDoubtful 99 = .ok (.iadd, 1) := getB' kX11_isDoubtful_4 4 rfl
theorem dX11_isDoubtful_100 : decode cX11_isDoubtful 100 = .ok (.iconst 4, 1) := getB' kX11_isDoubtful_4 5 rfl
theorem dX11_isDoubtful_101 : decode cX11_isDoubtful 101 = .ok (.idiv, 1) := getB' kX11_isDoubtful_4 6 rfl
theorem dX11_isDoubtful_102 : decode cX11_isDoubtful 102 = .ok (.if_icmp .ge 7, 3) := getB' kX11_isDoubtful_4 7 rfl
theorem dX11_isDoubtful_105 : decode cX11_isDoubtful 105 = .ok (.iconst 1, 1) := getB' kX11_isDoubtful_4 8 rfl
theorem dX11_isDoubtful_106 : decode cX11_isDoubtful 106 = .ok (.goto 4, 3) := getB' kX11_isDoubtful_4 9 rfl
theorem dX11_isDoubtful_109 : decode cX11_isDoubtful 109 = .ok (.iconst 0, 1) := getB' kX11_isDoubtful_4 10 rfl
theorem dX11_isDoubtful_110 : decode cX11_isDoubtful 110 = .ok (.ireturn, 1) := getB' kX11_isDoubtful_4 11 rfl
def LX11_word_0 : List (Nat × Instr × Nat) := [(0, .iload_n 1, 1), (1, .iconst 0, 1), (2, .sipush 1000, 3), (5, .invokestatic 112, 3), (8, .ifCond .eq 18, 3), (11, .aload_n 0, 1), (12, .getfield 88, 3), (15, .iload_n 1, 1), (16, .iconst 0, 1), (17, .iconst 0, 1), (18, .iconst 0, 1), (19, .iconst 0, 1)]
theorem kX11_word_0 : chkB cX11_word LX11_word_0 = true := by decide +kernel
theorem dX11_word_0 : decode cX11_word 0 = .ok (.iload_n 1, 1) := getB' kX11_word_0 0 rfl
theorem dX11_word_1 : decode cX11_word 1 = .ok (.iconst 0, 1) := getB' kX11_word_0 1 rfl
theorem dX11_word_2 : decode cX11_word 2 = .ok (.sipush 1000, 3) := getB' kX11_word_0 2 rfl
theorem dX11_word_5 : decode cX11_word 5 = .ok (.invokestatic 112, 3) := getB' kX11_word_0 3 rfl
theorem dX11_word_8 : decode cX11_word 8 = .ok (.ifCond .eq 18, 3) := getB' kX11_word_0 4 rfl
theorem dX11_word_11 : decode cX11_word 11 = .ok (.aload_n 0, 1) := getB' kX11_word_0 5 rfl
theorem dX11_word_12 : decode cX11_word 12 = .ok (.getfield 88, 3) := getB' kX11_word_0 6 rfl
theorem dX11_word_15 : decode cX11_word 15 = .ok (.iload_n 1, 1) := getB' kX11_word_0 7 rfl
theorem dX11_word_16 : decode cX11_word 16 = .ok (.iconst 0, 1) := getB' kX11_word_0 8 rfl
theorem dX11_word_17 : decode cX11_word 17 = .ok (.iconst 0, 1) := getB' kX11_word_0 9 rfl
theorem dX11_word_18 : decode cX11_word 18 = .ok (.iconst 0, 1) := getB' kX11_word_0 10 rfl
theorem dX11_word_19 : decode cX11_word 19 = .ok (.iconst 0, 1) := getB' kX11_word_0 11 rfl
def LX11_word_1 : List (Nat × Instr × Nat) := [(20, .invokevirtual 205, 3), (23, .goto 4, 3), (26, .iconst (-1), 1), (27, .ireturn, 1)]
theorem kX11_word_1 : chkB cX11_word LX11_word_1 = true := by decide +kernel
theorem dX11_word_20 : decode cX11_word 20 = .ok (.invokevirtual 205, 3) := getB' kX11_word_1 0 rfl
theorem dX11_word_23 : decode cX11_word 23 = .ok (.goto 4, 3) := getB' kX11_word_1 1 rfl
theorem dX11_word_26 : decode cX11_word 26 = .ok (.iconst (-1), 1) := getB' kX11_word_1 2 rfl
theorem dX11_word_27 : decode cX11_word 27 = .ok (.ireturn, 1) := getB' kX11_word_1 3 rfl
def LX11_asks_0 : List (Nat × Instr × Nat) := [(0, .aload_n 0, 1), (1, .iload_n 1, 1), (2, .invokevirtual 151, 3), (5, .astore 4, 2), (7, .aload 4, 2), (9, .ifnull 35, 3), (12, .aload_n 0, 1), (13, .getfield 88, 3), (16, .iload_n 2, 1), (17, .invokevirtual 431, 3), (20, .ifCond .eq 24, 3), (23, .iload_n 3, 1)]
theorem kX11_asks_0 : chkB cX11_asks LX11_asks_0 = true := by decide +kernel
theorem dX11_asks_0 : decode cX11_asks 0 = .ok (.aload_n 0, 1) := getB' kX11_asks_0 0 rfl
theorem dX11_asks_1 : decode cX11_asks 1 = .ok (.iload_n 1, 1) := getB' kX11_asks_0 1 rfl
theorem dX11_asks_2 : decode cX11_asks 2 = .ok (.invokevirtual 151, 3) := getB' kX11_asks_0 2 rfl
theorem dX11_asks_5 : decode cX11_asks 5 = .ok (.astore 4, 2) := getB' kX11_asks_0 3 rfl
theorem dX11_asks_7 : decode cX11_asks 7 = .ok (.aload 4, 2) := getB' kX11_asks_0 4 rfl
theorem dX11_asks_9 : decode cX11_asks 9 = .ok (.ifnull 35, 3) := getB' kX11_asks_0 5 rfl
theorem dX11_asks_12 : decode cX11_asks 12 = .ok (.aload_n 0, 1) := getB' kX11_asks_0 6 rfl
theorem dX11_asks_13 : decode cX11_asks 13 = .ok (.getfield 88, 3) := getB' kX11_asks_0 7 rfl
theorem dX11_asks_16 : decode cX11_asks 16 = .ok (.iload_n 2, 1) := getB' kX11_asks_0 8 rfl
theorem dX11_asks_17 : decode cX11_asks 17 = .ok (.invokevirtual 431, 3) := getB' kX11_asks_0 9 rfl
theorem dX11_asks_20 : decode cX11_asks 20 = .ok (.ifCond .eq 24, 3) := getB' kX11_asks_0 10 rfl
theorem dX11_asks_23 : decode cX11_asks 23 = .ok (.iload_n 3, 1) := getB' kX11_asks_0 11 rfl
def LX11_asks_1 : List (Nat × Instr × Nat) := [(24, .iload_n 2, 1), (25, .if_icmp .eq 19, 3), (28, .iload_n 3, 1), (29, .iconst (-1), 1), (30, .if_icmp .eq 16, 3), (33, .aload_n 0, 1), (34, .getfield 88, 3), (37, .iload_n 3, 1), (38, .invokevirtual 431, 3), (41, .ifCond .ne 5, 3), (44, .iconst 0, 1), (45, .ireturn, 1)]
theorem kX11_asks_1 : chkB cX11_asks LX11_asks_1 = true := by decide +kernel
theorem dX11_asks_24 : decode cX11_asks 24 = .ok (.iload_n 2, 1) := getB' kX11_asks_1 0 rfl
theorem dX11_asks_25 : decode cX11_asks 25 = .ok (.if_icmp .eq 19, 3) := getB' kX11_asks_1 1 rfl
theorem dX11_asks_28 : decode cX11_asks 28 = .ok (.iload_n 3, 1) := getB' kX11_asks_1 2 rfl
theorem dX11_asks_29 : decode cX11_asks 29 = .ok (.iconst (-1), 1) := getB' kX11_asks_1 3 rfl
theorem dX11_asks_30 : decode cX11_asks 30 = .ok (.if_icmp .eq 16, 3) := getB' kX11_asks_1 4 rfl
theorem dX11_asks_33 : decode cX11_asks 33 = .ok (.aload_n 0, 1) := getB' kX11_asks_1 5 rfl
theorem dX11_asks_34 : decode cX11_asks 34 = .ok (.getfield 88, 3) := getB' kX11_asks_1 6 rfl
theorem dX11_asks_37 : decode cX11_asks 37 = .ok (.iload_n 3, 1) := getB' kX11_asks_1 7 rfl
theorem dX11_asks_38 : decode cX11_asks 38 = .ok (.invokevirtual 431, 3) := getB' kX11_asks_1 8 rfl
theorem dX11_asks_41 : decode cX11_asks 41 = .ok (.ifCond .ne 5, 3) := getB' kX11_asks_1 9 rfl
theorem dX11_asks_44 : decode cX11_asks 44 = .ok (.iconst 0, 1) := getB' kX11_asks_1 10 rfl
theorem dX11_asks_45 : decode cX11_asks 45 = .ok (.ireturn, 1) := getB' kX11_asks_1 11 rfl
def LX11_asks_2 : List (Nat × Instr × Nat) := [(46, .iconst 1, 1), (47, .iload_n 2, 1), (48, .ishl, 1), (49, .istore 5, 2), (51, .iload_n 3, 1), (52, .iconst (-1), 1), (53, .if_icmp .ne 36, 3), (56, .aload 4, 2), (58, .getfield 575, 3), (61, .iload 5, 2), (63, .iand, 1), (64, .ifCond .ne 7, 3)]
theorem kX11_asks_2 : chkB cX11_asks LX11_asks_2 = true := by decide +kernel
theorem dX11_asks_46 : decode cX11_asks 46 = .ok (.iconst 1, 1) := getB' kX11_asks_2 0 rfl
theorem dX11_asks_47 : decode cX11_asks 47 = .ok (.iload_n 2, 1) := getB' kX11_asks_2 1 rfl
theorem dX11_asks_48 : decode cX11_asks 48 = .ok (.ishl, 1) := getB' kX11_asks_2 2 rfl
theorem dX11_asks_49 : decode cX11_asks 49 = .ok (.istore 5, 2) := getB' kX11_asks_2 3 rfl
theorem dX11_asks_51 : decode cX11_asks 51 = .ok (.iload_n 3, 1) := getB' kX11_asks_2 4 rfl
theorem dX11_asks_52 : decode cX11_asks 52 = .ok (.iconst (-1), 1) := getB' kX11_asks_2 5 rfl
theorem dX11_asks_53 : decode cX11_asks 53 = .ok (.if_icmp .ne 36, 3) := getB' kX11_asks_2 6 rfl
theorem dX11_asks_56 : decode cX11_asks 56 = .ok (.aload 4, 2) := getB' kX11_asks_2 7 rfl
theorem dX11_asks_58 : decode cX11_asks 58 = .ok (.getfield 575, 3) := getB' kX11_asks_2 8 rfl
theorem dX11_asks_61 : decode cX11_asks 61 = .ok (.iload 5, 2) := getB' kX11_asks_2 9 rfl
theorem dX11_asks_63 : decode cX11_asks 63 = .ok (.iand, 1) := getB' kX11_asks_2 10 rfl
theorem dX11_asks_64 : decode cX11_asks 64 = .ok (.ifCond .ne 7, 3) := getB' kX11_asks_2 11 rfl
def LX11_asks_3 : List (Nat × Instr × Nat) := [(67, .iconst 1, 1), (68, .goto 4, 3), (71, .iconst 0, 1), (72, .istore 6, 2), (74, .aload 4, 2), (76, .dup, 1), (77, .getfield 575, 3), (80, .iload 5, 2), (82, .ior, 1), (83, .putfield 575, 3), (86, .iload 6, 2), (88, .ireturn, 1)]
theorem kX11_asks_3 : chkB cX11_asks LX11_asks_3 = true := by decide +kernel
theorem dX11_asks_67 : decode cX11_asks 67 = .ok (.iconst 1, 1) := getB' kX11_asks_3 0 rfl
theorem dX11_asks_68 : decode cX11_asks 68 = .ok (.goto 4, 3) := getB' kX11_asks_3 1 rfl
theorem dX11_asks_71 : decode cX11_asks 71 = .ok (.iconst 0, 1) := getB' kX11_asks_3 2 rfl
theorem dX11_asks_72 : decode cX11_asks 72 = .ok (.istore 6, 2) := getB' kX11_asks_3 3 rfl
theorem dX11_asks_74 : decode cX11_asks 74 = .ok (.aload 4, 2) := getB' kX11_asks_3 4 rfl
theorem dX11_asks_76 : decode cX11_asks 76 = .ok (.dup, 1) := getB' kX11_asks_3 5 rfl
theorem dX11_asks_77 : decode cX11_asks 77 = .ok (.getfield 575, 3) := getB' kX11_asks_3 6 rfl
theorem dX11_asks_80 : decode cX11_asks 80 = .ok (.iload 5, 2) := getB' kX11_asks_3 7 rfl
theorem dX11_asks_82 : decode cX11_asks 82 = .ok (.ior, 1) := getB' kX11_asks_3 8 rfl
theorem dX11_asks_83 : decode cX11_asks 83 = .ok (.putfield 575, 3) := getB' kX11_asks_3 9 rfl
theorem dX11_asks_86 : decode cX11_asks 86 = .ok (.iload 6, 2) := getB' kX11_asks_3 10 rfl
theorem dX11_asks_88 : decode cX11_asks 88 = .ok (.ireturn, 1) := getB' kX11_asks_3 11 rfl
def LX11_asks_4 : List (Nat × Instr × Nat) := [(89, .aload 4, 2), (91, .getfield 578, 3), (94, .iload_n 3, 1), (95, .invokestatic 253, 3), (98, .istore 6, 2), (100, .aload 4, 2), (102, .getfield 578, 3), (105, .iload_n 3, 1), (106, .iload 6, 2), (108, .iload 5, 2), (110, .ior, 1), (111, .invokestatic 108, 3)]
theorem kX11_asks_4 : chkB cX11_asks LX11_asks_4 = true := by decide +kernel
theorem dX11_asks_89 : decode cX11_asks 89 = .ok (.aload 4, 2) := getB' kX11_asks_4 0 rfl
theorem dX11_asks_91 : decode cX11_asks 91 = .ok (.getfield 578, 3) := getB' kX11_asks_4 1 rfl
theorem dX11_asks_94 : decode cX11_asks 94 = .ok (.iload_n 3, 1) := getB' kX11_asks_4 2 rfl
theorem dX11_asks_95 : decode cX11_asks 95 = .ok (.invokestatic 253, 3) := getB' kX11_asks_4 3 rfl
theorem dX11_asks_98 : decode cX11_asks 98 = .ok (.istore 6, 2) := getB' kX11_asks_4 4 rfl
theorem dX11_asks_100 : decode cX11_asks 100 = .ok (.aload 4, 2) := getB' kX11_asks_4 5 rfl
theorem dX11_asks_102 : decode cX11_asks 102 = .ok (.getfield 578, 3) := getB' kX11_asks_4 6 rfl
theorem dX11_asks_105 : decode cX11_asks 105 = .ok (.iload_n 3, 1) := getB' kX11_asks_4 7 rfl
theorem dX11_asks_106 : decode cX11_asks 106 = .ok (.iload 6, 2) := getB' kX11_asks_4 8 rfl
theorem dX11_asks_108 : decode cX11_asks 108 = .ok (.iload 5, 2) := getB' kX11_asks_4 9 rfl
theorem dX11_asks_110 : decode cX11_asks 110 = .ok (.ior, 1) := getB' kX11_asks_4 10 rfl
theorem dX11_asks_111 : decode cX11_asks 111 = .ok (.invokestatic 108, 3) := getB' kX11_asks_4 11 rfl
def LX11_asks_5 : List (Nat × Instr × Nat) := [(114, .iload 6, 2), (116, .iload 5, 2), (118, .iand, 1), (119, .ifCond .ne 7, 3), (122, .iconst 1, 1), (123, .goto 4, 3), (126, .iconst 0, 1), (127, .ireturn, 1)]
theorem kX11_asks_5 : chkB cX11_asks LX11_asks_5 = true := by decide +kernel
theorem dX11_asks_114 : decode cX11_asks 114 = .ok (.iload 6, 2) := getB' kX11_asks_5 0 rfl
theorem dX11_asks_116 : decode cX11_asks 116 = .ok (.iload 5, 2) := getB' kX11_asks_5 1 rfl
theorem dX11_asks_118 : decode cX11_asks 118 = .ok (.iand, 1) := getB' kX11_asks_5 2 rfl
theorem dX11_asks_119 : decode cX11_asks 119 = .ok (.ifCond .ne 7, 3) := getB' kX11_asks_5 3 rfl
theorem dX11_asks_122 : decode cX11_asks 122 = .ok (.iconst 1, 1) := getB' kX11_asks_5 4 rfl
theorem dX11_asks_123 : decode cX11_asks 123 = .ok (.goto 4, 3) := getB' kX11_asks_5 5 rfl
theorem dX11_asks_126 : decode cX11_asks 126 = .ok (.iconst 0, 1) := getB' kX11_asks_5 6 rfl
theorem dX11_asks_127 : decode cX11_asks 127 = .ok (.ireturn, 1) := getB' kX11_asks_5 7 rfl
def LX11_blocks_0 : List (Nat × Instr × Nat) := [(0, .iload_n 1, 1), (1, .iconst 0, 1), (2, .iconst 1, 1), (3, .aload_n 0, 1), (4, .getfield 88, 3), (7, .getfield 199, 3), (10, .ishl, 1), (11, .iconst 1, 1), (12, .isub, 1), (13, .invokestatic 112, 3), (16, .ifCond .eq 11, 3), (19, .aload_n 0, 1)]
theorem kX11_blocks_0 : chkB cX11_blocks LX11_blocks_0 = true := by decide +kernel
theorem dX11_blocks_0 : decode cX11_blocks 0 = .ok (.iload_n 1, 1) := getB' kX11_blocks_0 0 rfl
theorem dX11_blocks_1 : decode cX11_blocks 1 = .ok (.iconst 0, 1) := getB' kX11_blocks_0 1 rfl
theorem dX11_blocks_2 : decode cX11_blocks 2 = .ok (.iconst 1, 1) := getB' kX11_blocks_0 2 rfl
theorem dX11_blocks_3 : decode cX11_blocks 3 = .ok (.aload_n 0, 1) := getB' kX11_blocks_0 3 rfl
theorem dX11_blocks_4 : decode cX11_blocks 4 = .ok (.getfield 88, 3) := getB' kX11_blocks_0 4 rfl
theorem dX11_blocks_7 : decode cX11_blocks 7 = .ok (.getfield 199, 3) := getB' kX11_blocks_0 5 rfl
theorem dX11_blocks_10 : decode cX11_blocks 10 = .ok (.ishl, 1) := getB' kX11_blocks_0 6 rfl
theorem dX11_blocks_11 : decode cX11_blocks 11 = .ok (.iconst 1, 1) := getB' kX11_blocks_0 7 rfl
theorem dX11_blocks_12 : decode cX11_blocks 12 = .ok (.isub, 1) := getB' kX11_blocks_0 8 rfl
theorem dX11_blocks_13 : decode cX11_blocks 13 = .ok (.invokestatic 112, 3) := getB' kX11_blocks_0 9 rfl
theorem dX11_blocks_16 : decode cX11_blocks 16 = .ok (.ifCond .eq 11, 3) := getB' kX11_blocks_0 10 rfl
theorem dX11_blocks_19 : decode cX11_blocks 19 = .ok (.aload_n 0, 1) := getB' kX11_blocks_0 11 rfl
def LX11_blocks_1 : List (Nat × Instr × Nat) := [(20, .iload_n 1, 1), (21, .invokevirtual 581, 3), (24, .goto 4, 3), (27, .iconst (-1), 1), (28, .ireturn, 1)]
theorem kX11_blocks_1 : chkB cX11_blocks LX11_blocks_1 = true := by decide +kernel
theorem dX11_blocks_20 : decode cX11_blocks 20 = .ok (.iload_n 1, 1) := getB' kX11_blocks_1 0 rfl
theorem dX11_blocks_21 : decode cX11_blocks 21 = .ok (.invokevirtual 581, 3) := getB' kX11_blocks_1 1 rfl
theorem dX11_blocks_24 : decode cX11_blocks 24 = .ok (.goto 4, 3) := getB' kX11_blocks_1 2 rfl
theorem dX11_blocks_27 : decode cX11_blocks 27 = .ok (.iconst (-1), 1) := getB' kX11_blocks_1 3 rfl
theorem dX11_blocks_28 : decode cX11_blocks 28 = .ok (.ireturn, 1) := getB' kX11_blocks_1 4 rfl
def LX11_best_0 : List (Nat × Instr × Nat) := [(0, .aload_n 0, 1), (1, .aload_n 0, 1), (2, .getfield 12, 3), (5, .getfield 145, 3), (8, .invokevirtual 369, 3), (11, .istore_n 1, 1), (12, .iconst 0, 1), (13, .istore_n 2, 1), (14, .iconst 0, 1), (15, .istore_n 3, 1), (16, .iconst 1, 1), (17, .istore 4, 2)]
theorem kX11_best_0 : chkB cX11_best LX11_best_0 = true := by decide +kernel
theorem dX11_best_0 : decode cX11_best 0 = .ok (.aload_n 0, 1) := getB' kX11_best_0 0 rfl
theorem dX11_best_1 : decode cX11_best 1 = .ok (.aload_n 0, 1) := getB' kX11_best_0 1 rfl
theorem dX11_best_2 : decode cX11_best 2 = .ok (.getfield 12, 3) := getB' kX11_best_0 2 rfl
theorem dX11_best_5 : decode cX11_best 5 = .ok (.getfield 145, 3) := getB' kX11_best_0 3 rfl
theorem dX11_best_8 : decode cX11_best 8 = .ok (.invokevirtual 369, 3) := getB' kX11_best_0 4 rfl
theorem dX11_best_11 : decode cX11_best 11 = .ok (.istore_n 1, 1) := getB' kX11_best_0 5 rfl
theorem dX11_best_12 : decode cX11_best 12 = .ok (.iconst 0, 1) := getB' kX11_best_0 6 rfl
theorem dX11_best_13 : decode cX11_best 13 = .ok (.istore_n 2, 1) := getB' kX11_best_0 7 rfl
theorem dX11_best_14 : decode cX11_best 14 = .ok (.iconst 0, 1) := getB' kX11_best_0 8 rfl
theorem dX11_best_15 : decode cX11_best 15 = .ok (.istore_n 3, 1) := getB' kX11_best_0 9 rfl
theorem dX11_best_16 : decode cX11_best 16 = .ok (.iconst 1, 1) := getB' kX11_best_0 10 rfl
theorem dX11_best_17 : decode cX11_best 17 = .ok (.istore 4, 2) := getB' kX11_best_0 11 rfl
def LX11_best_1 : List (Nat × Instr × Nat) := [(19, .iload 4, 2), (21, .iconst 1, 1), (22, .aload_n 0, 1), (23, .getfield 88, 3), (26, .getfield 199, 3), (29, .ishl, 1), (30, .if_icmp .ge 70, 3), (33, .aload_n 0, 1), (34, .iload 4, 2), (36, .invokevirtual 584, 3), (39, .istore 5, 2), (41, .iload 5, 2)]
theorem kX11_best_1 : chkB cX11_best LX11_best_1 = true := by decide +kernel
theorem dX11_best_19 : decode cX11_best 19 = .ok (.iload 4, 2) := getB' kX11_best_1 0 rfl
theorem dX11_best_21 : decode cX11_best 21 = .ok (.iconst 1, 1) := getB' kX11_best_1 1 rfl
theorem dX11_best_22 : decode cX11_best 22 = .ok (.aload_n 0, 1) := getB' kX11_best_1 2 rfl
theorem dX11_best_23 : decode cX11_best 23 = .ok (.getfield 88, 3) := getB' kX11_best_1 3 rfl
theorem dX11_best_26 : decode cX11_best 26 = .ok (.getfield 199, 3) := getB' kX11_best_1 4 rfl
theorem dX11_best_29 : decode cX11_best 29 = .ok (.ishl, 1) := getB' kX11_best_1 5 rfl
theorem dX11_best_30 : decode cX11_best 30 = .ok (.if_icmp .ge 70, 3) := getB' kX11_best_1 6 rfl
theorem dX11_best_33 : decode cX11_best 33 = .ok (.aload_n 0, 1) := getB' kX11_best_1 7 rfl
theorem dX11_best_34 : decode cX11_best 34 = .ok (.iload 4, 2) := getB' kX11_best_1 8 rfl
theorem dX11_best_36 : decode cX11_best 36 = .ok (.invokevirtual 584, 3) := getB' kX11_best_1 9 rfl
theorem dX11_best_39 : decode cX11_best 39 = .ok (.istore 5, 2) := getB' kX11_best_1 10 rfl
theorem dX11_best_41 : decode cX11_best 41 = .ok (.iload 5, 2) := getB' kX11_best_1 11 rfl
def LX11_best_2 : List (Nat × Instr × Nat) := [(43, .iload_n 3, 1), (44, .if_icmp .ne 19, 3), (47, .iload 4, 2), (49, .invokestatic 286, 3), (52, .iload_n 2, 1), (53, .invokestatic 286, 3), (56, .if_icmp .ge 7, 3), (59, .iconst 1, 1), (60, .goto 4, 3), (63, .iconst 0, 1), (64, .istore 6, 2), (66, .iload 5, 2)]
theorem kX11_best_2 : chkB cX11_best LX11_best_2 = true := by decide +kernel
theorem dX11_best_43 : decode cX11_best 43 = .ok (.iload_n 3, 1) := getB' kX11_best_2 0 rfl
theorem dX11_best_44 : decode cX11_best 44 = .ok (.if_icmp .ne 19, 3) := getB' kX11_best_2 1 rfl
theorem dX11_best_47 : decode cX11_best 47 = .ok (.iload 4, 2) := getB' kX11_best_2 2 rfl
theorem dX11_best_49 : decode cX11_best 49 = .ok (.invokestatic 286, 3) := getB' kX11_best_2 3 rfl
theorem dX11_best_52 : decode cX11_best 52 = .ok (.iload_n 2, 1) := getB' kX11_best_2 4 rfl
theorem dX11_best_53 : decode cX11_best 53 = .ok (.invokestatic 286, 3) := getB' kX11_best_2 5 rfl
theorem dX11_best_56 : decode cX11_best 56 = .ok (.if_icmp .ge 7, 3) := getB' kX11_best_2 6 rfl
theorem dX11_best_59 : decode cX11_best 59 = .ok (.iconst 1, 1) := getB' kX11_best_2 7 rfl
theorem dX11_best_60 : decode cX11_best 60 = .ok (.goto 4, 3) := getB' kX11_best_2 8 rfl
theorem dX11_best_63 : decode cX11_best 63 = .ok (.iconst 0, 1) := getB' kX11_best_2 9 rfl
theorem dX11_best_64 : decode cX11_best 64 = .ok (.istore 6, 2) := getB' kX11_best_2 10 rfl
theorem dX11_best_66 : decode cX11_best 66 = .ok (.iload 5, 2) := getB' kX11_best_2 11 rfl
def LX11_best_3 : List (Nat × Instr × Nat) := [(68, .iload_n 3, 1), (69, .if_icmp .gt 8, 3), (72, .iload 6, 2), (74, .ifCond .eq 20, 3), (77, .aload_n 0, 1), (78, .iload 4, 2), (80, .invokevirtual 581, 3), (83, .iload_n 1, 1), (84, .iand, 1), (85, .ifCond .ne 9, 3), (88, .iload 4, 2), (90, .istore_n 2, 1)]
theorem kX11_best_3 : chkB cX11_best LX11_best_3 = true := by decide +kernel
theorem dX11_best_68 : decode cX11_best 68 = .ok (.iload_n 3, 1) := getB' kX11_best_3 0 rfl
theorem dX11_best_69 : decode cX11_best 69 = .ok (.if_icmp .gt 8, 3) := getB' kX11_best_3 1 rfl
theorem dX11_best_72 : decode cX11_best 72 = .ok (.iload 6, 2) := getB' kX11_best_3 2 rfl
theorem dX11_best_74 : decode cX11_best 74 = .ok (.ifCond .eq 20, 3) := getB' kX11_best_3 3 rfl
theorem dX11_best_77 : decode cX11_best 77 = .ok (.aload_n 0, 1) := getB' kX11_best_3 4 rfl
theorem dX11_best_78 : decode cX11_best 78 = .ok (.iload 4, 2) := getB' kX11_best_3 5 rfl
theorem dX11_best_80 : decode cX11_best 80 = .ok (.invokevirtual 581, 3) := getB' kX11_best_3 6 rfl
theorem dX11_best_83 : decode cX11_best 83 = .ok (.iload_n 1, 1) := getB' kX11_best_3 7 rfl
theorem dX11_best_84 : decode cX11_best 84 = .ok (.iand, 1) := getB' kX11_best_3 8 rfl
theorem dX11_best_85 : decode cX11_best 85 = .ok (.ifCond .ne 9, 3) := getB' kX11_best_3 9 rfl
theorem dX11_best_88 : decode cX11_best 88 = .ok (.iload 4, 2) := getB' kX11_best_3 10 rfl
theorem dX11_best_90 : decode cX11_best 90 = .ok (.istore_n 2, 1) := getB' kX11_best_3 11 rfl
def LX11_best_4 : List (Nat × Instr × Nat) := [(91, .iload 5, 2), (93, .istore_n 3, 1), (94, .iinc 4 1, 3), (97, .goto (-78), 3), (100, .iload_n 2, 1), (101, .ireturn, 1)]
theorem kX11_best_4 : chkB cX11_best LX11_best_4 = true := by decide +kernel
theorem dX11_best_91 : decode cX11_best 91 = .ok (.iload 5, 2) := getB' kX11_best_4 0 rfl
theorem dX11_best_93 : decode cX11_best 93 = .ok (.istore_n 3, 1) := getB' kX11_best_4 1 rfl
theorem dX11_best_94 : decode cX11_best 94 = .ok (.iinc 4 1, 3) := getB' kX11_best_4 2 rfl
theorem dX11_best_97 : decode cX11_best 97 = .ok (.goto (-78), 3) := getB' kX11_best_4 3 rfl
theorem dX11_best_100 : decode cX11_best 100 = .ok (.iload_n 2, 1) := getB' kX11_best_4 4 rfl
theorem dX11_best_101 : decode cX11_best 101 = .ok (.ireturn, 1) := getB' kX11_best_4 5 rfl
def LX11_blockers_0 : List (Nat × Instr × Nat) := [(0, .iconst 0, 1), (1, .istore_n 2, 1), (2, .iconst 0, 1), (3, .istore_n 3, 1), (4, .iload_n 3, 1), (5, .aload_n 0, 1), (6, .getfield 36, 3), (9, .if_icmp .ge 36, 3), (12, .aload_n 0, 1), (13, .iload_n 3, 1), (14, .invokevirtual 151, 3), (17, .astore 4, 2)]
theorem kX11_blockers_0 : chkB cX11_blockers LX11_blockers_0 = true := by decide +kernel
theorem dX11_blockers_0 : decode cX11_blockers 0 = .ok (.iconst 0, 1) := getB' kX11_blockers_0 0 rfl
theorem dX11_blockers_1 : decode cX11_blockers 1 = .ok (.istore_n 2, 1) := getB' kX11_blockers_0 1 rfl
theorem dX11_blockers_2 : decode cX11_blockers 2 = .ok (.iconst 0, 1) := getB' kX11_blockers_0 2 rfl
theorem dX11_blockers_3 : decode cX11_blockers 3 = .ok (.istore_n 3, 1) := getB' kX11_blockers_0 3 rfl
theorem dX11_blockers_4 : decode cX11_blockers 4 = .ok (.iload_n 3, 1) := getB' kX11_blockers_0 4 rfl
theorem dX11_blockers_5 : decode cX11_blockers 5 = .ok (.aload_n 0, 1) := getB' kX11_blockers_0 5 rfl
theorem dX11_blockers_6 : decode cX11_blockers 6 = .ok (.getfield 36, 3) := getB' kX11_blockers_0 6 rfl
theorem dX11_blockers_9 : decode cX11_blockers 9 = .ok (.if_icmp .ge 36, 3) := getB' kX11_blockers_0 7 rfl
theorem dX11_blockers_12 : decode cX11_blockers 12 = .ok (.aload_n 0, 1) := getB' kX11_blockers_0 8 rfl
theorem dX11_blockers_13 : decode cX11_blockers 13 = .ok (.iload_n 3, 1) := getB' kX11_blockers_0 9 rfl
theorem dX11_blockers_14 : decode cX11_blockers 14 = .ok (.invokevirtual 151, 3) := getB' kX11_blockers_0 10 rfl
theorem dX11_blockers_17 : decode cX11_blockers 17 = .ok (.astore 4, 2) := getB' kX11_blockers_0 11 rfl
def LX11_blockers_1 : List (Nat × Instr × Nat) := [(19, .aload 4, 2), (21, .ifnull 18, 3), (24, .aload 4, 2), (26, .iload_n 1, 1), (27, .invokevirtual 587, 3), (30, .ifCond .eq 9, 3), (33, .iload_n 2, 1), (34, .iconst 1, 1), (35, .iload_n 3, 1), (36, .ishl, 1), (37, .ior, 1), (38, .istore_n 2, 1)]
theorem kX11_blockers_1 : chkB cX11_blockers LX11_blockers_1 = true := by decide +kernel
theorem dX11_blockers_19 : decode cX11_blockers 19 = .ok (.aload 4, 2) := getB' kX11_blockers_1 0 rfl
theorem dX11_blockers_21 : decode cX11_blockers 21 = .ok (.ifnull 18, 3) := getB' kX11_blockers_1 1 rfl
theorem dX11_blockers_24 : decode cX11_blockers 24 = .ok (.aload 4, 2) := getB' kX11_blockers_1 2 rfl
theorem dX11_blockers_26 : decode cX11_blockers 26 = .ok (.iload_n 1, 1) := getB' kX11_blockers_1 3 rfl
theorem dX11_blockers_27 : decode cX11_blockers 27 = .ok (.invokevirtual 587, 3) := getB' kX11_blockers_1 4 rfl
theorem dX11_blockers_30 : decode cX11_blockers 30 = .ok (.ifCond .eq 9, 3) := getB' kX11_blockers_1 5 rfl
theorem dX11_blockers_33 : decode cX11_blockers 33 = .ok (.iload_n 2, 1) := getB' kX11_blockers_1 6 rfl
theorem dX11_blockers_34 : decode cX11_blockers 34 = .ok (.iconst 1, 1) := getB' kX11_blockers_1 7 rfl
theorem dX11_blockers_35 : decode cX11_blockers 35 = .ok (.iload_n 3, 1) := getB' kX11_blockers_1 8 rfl
theorem dX11_blockers_36 : decode cX11_blockers 36 = .ok (.ishl, 1) := getB' kX11_blockers_1 9 rfl
theorem dX11_blockers_37 : decode cX11_blockers 37 = .ok (.ior, 1) := getB' kX11_blockers_1 10 rfl
theorem dX11_blockers_38 : decode cX11_blockers 38 = .ok (.istore_n 2, 1) := getB' kX11_blockers_1 11 rfl
def LX11_blockers_2 : List (Nat × Instr × Nat) := [(39, .iinc 3 1, 3), (42, .goto (-38), 3), (45, .iload_n 2, 1), (46, .ireturn, 1)]
theorem kX11_blockers_2 : chkB cX11_blockers LX11_blockers_2 = true := by decide +kernel
theorem dX11_blockers_39 : decode cX11_blockers 39 = .ok (.iinc 3 1, 3) := getB' kX11_blockers_2 0 rfl
theorem dX11_blockers_42 : decode cX11_blockers 42 = .ok (.goto (-38), 3) := getB' kX11_blockers_2 1 rfl
theorem dX11_blockers_45 : decode cX11_blockers 45 = .ok (.iload_n 2, 1) := getB' kX11_blockers_2 2 rfl
theorem dX11_blockers_46 : decode cX11_blockers 46 = .ok (.ireturn, 1) := getB' kX11_blockers_2 3 rfl
def LX11_worthOf_0 : List (Nat × Instr × Nat) := [(0, .iconst 0, 1), (1, .istore_n 2, 1), (2, .iconst 0, 1), (3, .istore_n 3, 1), (4, .iload_n 3, 1), (5, .aload_n 0, 1), (6, .getfield 88, 3), (9, .getfield 199, 3), (12, .if_icmp .ge 29, 3), (15, .iload_n 1, 1), (16, .iload_n 3, 1), (17, .ishr, 1)]
theorem kX11_worthOf_0 : chkB cX11_worthOf LX11_worthOf_0 = true := by decide +kernel
theorem dX11_worthOf_0 : decode cX11_worthOf 0 = .ok (.iconst 0, 1) := getB' kX11_worthOf_0 0 rfl
theorem dX11_worthOf_1 : decode cX11_worthOf 1 = .ok (.istore_n 2, 1) := getB' kX11_worthOf_0 1 rfl
theorem dX11_worthOf_2 : decode cX11_worthOf 2 = .ok (.iconst 0, 1) := getB' kX11_worthOf_0 2 rfl
theorem dX11_worthOf_3 : decode cX11_worthOf 3 = .ok (.istore_n 3, 1) := getB' kX11_worthOf_0 3 rfl
theorem dX11_worthOf_4 : decode cX11_worthOf 4 = .ok (.iload_n 3, 1) := getB' kX11_worthOf_0 4 rfl
theorem dX11_worthOf_5 : decode cX11_worthOf 5 = .ok (.aload_n 0, 1) := getB' kX11_worthOf_0 5 rfl
theorem dX11_worthOf_6 : decode cX11_worthOf 6 = .ok (.getfield 88, 3) := getB' kX11_worthOf_0 6 rfl
theorem dX11_worthOf_9 : decode cX11_worthOf 9 = .ok (.getfield 199, 3) := getB' kX11_worthOf_0 7 rfl
theorem dX11_worthOf_12 : decode cX11_worthOf 12 = .ok (.if_icmp .ge 29, 3) := getB' kX11_worthOf_0 8 rfl
theorem dX11_worthOf_15 : decode cX11_worthOf 15 = .ok (.iload_n 1, 1) := getB' kX11_worthOf_0 9 rfl
theorem dX11_worthOf_16 : decode cX11_worthOf 16 = .ok (.iload_n 3, 1) := getB' kX11_worthOf_0 10 rfl
theorem dX11_worthOf_17 : decode cX11_worthOf 17 = .ok (.ishr, 1) := getB' kX11_worthOf_0 11 rfl
def LX11_worthOf_1 : List (Nat × Instr × Nat) := [(18, .iconst 1, 1), (19, .iand, 1), (20, .ifCond .eq 15, 3), (23, .iload_n 2, 1), (24, .aload_n 0, 1), (25, .getfield 88, 3), (28, .iload_n 3, 1), (29, .iconst 0, 1), (30, .invokevirtual 209, 3), (33, .iadd, 1), (34, .istore_n 2, 1), (35, .iinc 3 1, 3)]
theorem kX11_worthOf_1 : chkB cX11_worthOf LX11_worthOf_1 = true := by decide +kernel
theorem dX11_worthOf_18 : decode cX11_worthOf 18 = .ok (.iconst 1, 1) := getB' kX11_worthOf_1 0 rfl
theorem dX11_worthOf_19 : decode cX11_worthOf 19 = .ok (.iand, 1) := getB' kX11_worthOf_1 1 rfl
theorem dX11_worthOf_20 : decode cX11_worthOf 20 = .ok (.ifCond .eq 15, 3) := getB' kX11_worthOf_1 2 rfl
theorem dX11_worthOf_23 : decode cX11_worthOf 23 = .ok (.iload_n 2, 1) := getB' kX11_worthOf_1 3 rfl
theorem dX11_worthOf_24 : decode cX11_worthOf 24 = .ok (.aload_n 0, 1) := getB' kX11_worthOf_1 4 rfl
theorem dX11_worthOf_25 : decode cX11_worthOf 25 = .ok (.getfield 88, 3) := getB' kX11_worthOf_1 5 rfl
theorem dX11_worthOf_28 : decode cX11_worthOf 28 = .ok (.iload_n 3, 1) := getB' kX11_worthOf_1 6 rfl
theorem dX11_worthOf_29 : decode cX11_worthOf 29 = .ok (.iconst 0, 1) := getB' kX11_worthOf_1 7 rfl
theorem dX11_worthOf_30 : decode cX11_worthOf 30 = .ok (.invokevirtual 209, 3) := getB' kX11_worthOf_1 8 rfl
theorem dX11_worthOf_33 : decode cX11_worthOf 33 = .ok (.iadd, 1) := getB' kX11_worthOf_1 9 rfl
theorem dX11_worthOf_34 : decode cX11_worthOf 34 = .ok (.istore_n 2, 1) := getB' kX11_worthOf_1 10 rfl
theorem dX11_worthOf_35 : decode cX11_worthOf 35 = .ok (.iinc 3 1, 3) := getB' kX11_worthOf_1 11 rfl
def LX11_worthOf_2 : List (Nat × Instr × Nat) := [(38, .goto (-34), 3), (41, .iload_n 2, 1), (42, .ireturn, 1)]
theorem kX11_worthOf_2 : chkB cX11_worthOf LX11_worthOf_2 = true := by decide +kernel
theorem dX11_worthOf_38 : decode cX11_worthOf 38 = .ok (.goto (-34), 3) := getB' kX11_worthOf_2 0 rfl
theorem dX11_worthOf_41 : decode cX11_worthOf 41 = .ok (.iload_n 2, 1) := getB' kX11_worthOf_2 1 rfl
theorem dX11_worthOf_42 : decode cX11_worthOf 42 = .ok (.ireturn, 1) := getB' kX11_worthOf_2 2 rfl
def LX11_stop_0 : List (Nat × Instr × Nat) := [(0, .aload_n 0, 1), (1, .iload_n 1, 1), (2, .invokevirtual 195, 3), (5, .ifnull 25, 3), (8, .iload_n 2, 1), (9, .iconst 0, 1), (10, .sipush 10000, 3), (13, .invokestatic 112, 3), (16, .ifCond .eq 14, 3), (19, .aload_n 0, 1), (20, .getfield 26, 3), (23, .iload_n 1, 1)]
theorem kX11_stop_0 : chkB cX11_stop LX11_stop_0 = true := by decide +kernel
theorem dX11_stop_0 : decode cX11_stop 0 = .ok (.aload_n 0, 1) := getB' kX11_stop_0 0 rfl
theorem dX11_stop_1 : decode cX11_stop 1 = .ok (.iload_n 1, 1) := getB' kX11_stop_0 1 rfl
theorem dX11_stop_2 : decode cX11_stop 2 = .ok (.invokevirtual 195, 3) := getB' kX11_stop_0 2 rfl
theorem dX11_stop_5 : decode cX11_stop 5 = .ok (.ifnull 25, 3) := getB' kX11_stop_0 3 rfl
theorem dX11_stop_8 : decode cX11_stop 8 = .ok (.iload_n 2, 1) := getB' kX11_stop_0 4 rfl
theorem dX11_stop_9 : decode cX11_stop 9 = .ok (.iconst 0, 1) := getB' kX11_stop_0 5 rfl
theorem dX11_stop_10 : decode cX11_stop 10 = .ok (.sipush 10000, 3) := getB' kX11_stop_0 6 rfl
theorem dX11_stop_13 : decode cX11_stop 13 = .ok (.invokestatic 112, 3) := getB' kX11_stop_0 7 rfl
theorem dX11_stop_16 : decode cX11_stop 16 = .ok (.ifCond .eq 14, 3) := getB' kX11_stop_0 8 rfl
theorem dX11_stop_19 : decode cX11_stop 19 = .ok (.aload_n 0, 1) := getB' kX11_stop_0 9 rfl
theorem dX11_stop_20 : decode cX11_stop 20 = .ok (.getfield 26, 3) := getB' kX11_stop_0 10 rfl
theorem dX11_stop_23 : decode cX11_stop 23 = .ok (.iload_n 1, 1) := getB' kX11_stop_0 11 rfl
def LX11_stop_1 : List (Nat × Instr × Nat) := [(24, .invokevirtual 590, 3), (27, .ifCond .eq 5, 3), (30, .iconst (-1), 1), (31, .ireturn, 1), (32, .aload_n 0, 1), (33, .getfield 26, 3), (36, .invokevirtual 435, 3), (39, .aload_n 0, 1), (40, .getfield 26, 3), (43, .getfield 593, 3), (46, .iload_n 1, 1), (47, .iload_n 2, 1)]
theorem kX11_stop_1 : chkB cX11_stop LX11_stop_1 = true := by decide +kernel
theorem dX11_stop_24 : decode cX11_stop 24 = .ok (.invokevirtual 590, 3) := getB' kX11_stop_1 0 rfl
theorem dX11_stop_27 : decode cX11_stop 27 = .ok (.ifCond .eq 5, 3) := getB' kX11_stop_1 1 rfl
theorem dX11_stop_30 : decode cX11_stop 30 = .ok (.iconst (-1), 1) := getB' kX11_stop_1 2 rfl
theorem dX11_stop_31 : decode cX11_stop 31 = .ok (.ireturn, 1) := getB' kX11_stop_1 3 rfl
theorem dX11_stop_32 : decode cX11_stop 32 = .ok (.aload_n 0, 1) := getB' kX11_stop_1 4 rfl
theorem dX11_stop_33 : decode cX11_stop 33 = .ok (.getfield 26, 3) := getB' kX11_stop_1 5 rfl
theorem dX11_stop_36 : decode cX11_stop 36 = .ok (.invokevirtual 435, 3) := getB' kX11_stop_1 6 rfl
theorem dX11_stop_39 : decode cX11_stop 39 = .ok (.aload_n 0, 1) := getB' kX11_stop_1 7 rfl
theorem dX11_stop_40 : decode cX11_stop 40 = .ok (.getfield 26, 3) := getB' kX11_stop_1 8 rfl
theorem dX11_stop_43 : decode cX11_stop 43 = .ok (.getfield 593, 3) := getB' kX11_stop_1 9 rfl
theorem dX11_stop_46 : decode cX11_stop 46 = .ok (.iload_n 1, 1) := getB' kX11_stop_1 10 rfl
theorem dX11_stop_47 : decode cX11_stop 47 = .ok (.iload_n 2, 1) := getB' kX11_stop_1 11 rfl
def LX11_stop_2 : List (Nat × Instr × Nat) := [(48, .iconst 0, 1), (49, .iconst 0, 1), (50, .iconst 0, 1), (51, .invokevirtual 205, 3), (54, .ireturn, 1)]
theorem kX11_stop_2 : chkB cX11_stop LX11_stop_2 = true := by decide +kernel
theorem dX11_stop_48 : decode cX11_stop 48 = .ok (.iconst 0, 1) := getB' kX11_stop_2 0 rfl
theorem dX11_stop_49 : decode cX11_stop 49 = .ok (.iconst 0, 1) := getB' kX11_stop_2 1 rfl
theorem dX11_stop_50 : decode cX11_stop 50 = .ok (.iconst 0, 1) := getB' kX11_stop_2 2 rfl
theorem dX11_stop_51 : decode cX11_stop 51 = .ok (.invokevirtual 205, 3) := getB' kX11_stop_2 3 rfl
theorem dX11_stop_54 : decode cX11_stop 54 = .ok (.ireturn, 1) := getB' kX11_stop_2 4 rfl
def LX11_open_0 : List (Nat × Instr × Nat) := [(0, .iload_n 1, 1), (1, .iconst 0, 1), (2, .iconst 2, 1), (3, .invokestatic 112, 3), (6, .ifCond .eq 26, 3), (9, .aload_n 0, 1), (10, .getfield 26, 3), (13, .getfield 593, 3), (16, .iload_n 2, 1), (17, .invokevirtual 431, 3), (20, .ifCond .eq 12, 3), (23, .iload_n 3, 1)]
theorem kX11_open_0 : chkB cX11_open LX11_open_0 = true := by decide +kernel
theorem dX11_open_0 : decode cX11_open 0 = .ok (.iload_n 1, 1) := getB' kX11_open_0 0 rfl
theorem dX11_open_1 : decode cX11_open 1 = .ok (.iconst 0, 1) := getB' kX11_open_0 1 rfl
theorem dX11_open_2 : decode cX11_open 2 = .ok (.iconst 2, 1) := getB' kX11_open_0 2 rfl
theorem dX11_open_3 : decode cX11_open 3 = .ok (.invokestatic 112, 3) := getB' kX11_open_0 3 rfl
theorem dX11_open_6 : decode cX11_open 6 = .ok (.ifCond .eq 26, 3) := getB' kX11_open_0 4 rfl
theorem dX11_open_9 : decode cX11_open 9 = .ok (.aload_n 0, 1) := getB' kX11_open_0 5 rfl
theorem dX11_open_10 : decode cX11_open 10 = .ok (.getfield 26, 3) := getB' kX11_open_0 6 rfl
theorem dX11_open_13 : decode cX11_open 13 = .ok (.getfield 593, 3) := getB' kX11_open_0 7 rfl
theorem dX11_open_16 : decode cX11_open 16 = .ok (.iload_n 2, 1) := getB' kX11_open_0 8 rfl
theorem dX11_open_17 : decode cX11_open 17 = .ok (.invokevirtual 431, 3) := getB' kX11_open_0 9 rfl
theorem dX11_open_20 : decode cX11_open 20 = .ok (.ifCond .eq 12, 3) := getB' kX11_open_0 10 rfl
theorem dX11_open_23 : decode cX11_open 23 = .ok (.iload_n 3, 1) := getB' kX11_open_0 11 rfl
def LX11_open_1 : List (Nat × Instr × Nat) := [(24, .iload 4, 2), (26, .invokestatic 135, 3), (29, .ifCond .ne 5, 3), (32, .iconst 0, 1), (33, .ireturn, 1), (34, .aload_n 0, 1), (35, .getfield 26, 3), (38, .invokevirtual 435, 3), (41, .aload_n 0, 1), (42, .getfield 26, 3), (45, .getfield 596, 3), (48, .iload_n 1, 1)]
theorem kX11_open_1 : chkB cX11_open LX11_open_1 = true := by decide +kernel
theorem dX11_open_24 : decode cX11_open 24 = .ok (.iload 4, 2) := getB' kX11_open_1 0 rfl
theorem dX11_open_26 : decode cX11_open 26 = .ok (.invokestatic 135, 3) := getB' kX11_open_1 1 rfl
theorem dX11_open_29 : decode cX11_open 29 = .ok (.ifCond .ne 5, 3) := getB' kX11_open_1 2 rfl
theorem dX11_open_32 : decode cX11_open 32 = .ok (.iconst 0, 1) := getB' kX11_open_1 3 rfl
theorem dX11_open_33 : decode cX11_open 33 = .ok (.ireturn, 1) := getB' kX11_open_1 4 rfl
theorem dX11_open_34 : decode cX11_open 34 = .ok (.aload_n 0, 1) := getB' kX11_open_1 5 rfl
theorem dX11_open_35 : decode cX11_open 35 = .ok (.getfield 26, 3) := getB' kX11_open_1 6 rfl
theorem dX11_open_38 : decode cX11_open 38 = .ok (.invokevirtual 435, 3) := getB' kX11_open_1 7 rfl
theorem dX11_open_41 : decode cX11_open 41 = .ok (.aload_n 0, 1) := getB' kX11_open_1 8 rfl
theorem dX11_open_42 : decode cX11_open 42 = .ok (.getfield 26, 3) := getB' kX11_open_1 9 rfl
theorem dX11_open_45 : decode cX11_open 45 = .ok (.getfield 596, 3) := getB' kX11_open_1 10 rfl
theorem dX11_open_48 : decode cX11_open 48 = .ok (.iload_n 1, 1) := getB' kX11_open_1 11 rfl
def LX11_open_2 : List (Nat × Instr × Nat) := [(49, .bipush 8, 2), (51, .imul, 1), (52, .iload_n 2, 1), (53, .iadd, 1), (54, .iload_n 3, 1), (55, .invokestatic 108, 3), (58, .aload_n 0, 1), (59, .getfield 26, 3), (62, .getfield 599, 3), (65, .iload_n 1, 1), (66, .bipush 8, 2), (68, .imul, 1)]
theorem kX11_open_2 : chkB cX11_open LX11_open_2 = true := by decide +kernel
theorem dX11_open_49 : decode cX11_open 49 = .ok (.bipush 8, 2) := getB' kX11_open_2 0 rfl
theorem dX11_open_51 : decode cX11_open 51 = .ok (.imul, 1) := getB' kX11_open_2 1 rfl
theorem dX11_open_52 : decode cX11_open 52 = .ok (.iload_n 2, 1) := getB' kX11_open_2 2 rfl
theorem dX11_open_53 : decode cX11_open 53 = .ok (.iadd, 1) := getB' kX11_open_2 3 rfl
theorem dX11_open_54 : decode cX11_open 54 = .ok (.iload_n 3, 1) := getB' kX11_open_2 4 rfl
theorem dX11_open_55 : decode cX11_open 55 = .ok (.invokestatic 108, 3) := getB' kX11_open_2 5 rfl
theorem dX11_open_58 : decode cX11_open 58 = .ok (.aload_n 0, 1) := getB' kX11_open_2 6 rfl
theorem dX11_open_59 : decode cX11_open 59 = .ok (.getfield 26, 3) := getB' kX11_open_2 7 rfl
theorem dX11_open_62 : decode cX11_open 62 = .ok (.getfield 599, 3) := getB' kX11_open_2 8 rfl
theorem dX11_open_65 : decode cX11_open 65 = .ok (.iload_n 1, 1) := getB' kX11_open_2 9 rfl
theorem dX11_open_66 : decode cX11_open 66 = .ok (.bipush 8, 2) := getB' kX11_open_2 10 rfl
theorem dX11_open_68 : decode cX11_open 68 = .ok (.imul, 1) := getB' kX11_open_2 11 rfl
def LX11_open_3 : List (Nat × Instr × Nat) := [(69, .iload_n 2, 1), (70, .iadd, 1), (71, .iload 4, 2), (73, .invokestatic 108, 3), (76, .iconst 1, 1), (77, .ireturn, 1)]
theorem kX11_open_3 : chkB cX11_open LX11_open_3 = true := by decide +kernel
theorem dX11_open_69 : decode cX11_open 69 = .ok (.iload_n 2, 1) := getB' kX11_open_3 0 rfl
theorem dX11_open_70 : decode cX11_open 70 = .ok (.iadd, 1) := getB' kX11_open_3 1 rfl
theorem dX11_open_71 : decode cX11_open 71 = .ok (.iload 4, 2) := getB' kX11_open_3 2 rfl
theorem dX11_open_73 : decode cX11_open 73 = .ok (.invokestatic 108, 3) := getB' kX11_open_3 3 rfl
theorem dX11_open_76 : decode cX11_open 76 = .ok (.iconst 1, 1) := getB' kX11_open_3 4 rfl
theorem dX11_open_77 : decode cX11_open 77 = .ok (.ireturn, 1) := getB' kX11_open_3 5 rfl
def LX11_plan_0 : List (Nat × Instr × Nat) := [(0, .aload_n 0, 1), (1, .iload_n 1, 1), (2, .invokevirtual 403, 3), (5, .astore 4, 2), (7, .aload 4, 2), (9, .ifnull 21, 3), (12, .iload_n 2, 1), (13, .invokestatic 394, 3), (16, .ifCond .eq 14, 3), (19, .iload_n 3, 1), (20, .iconst 0, 1), (21, .sipush 359, 3)]
theorem kX11_plan_0 : chkB cX11_plan LX11_plan_0 = true := by decide +kernel
theorem dX11_plan_0 : decode cX11_plan 0 = .ok (.aload_n 0, 1) := getB' kX11_plan_0 0 rfl
theorem dX11_plan_1 : decode cX11_plan 1 = .ok (.iload_n 1, 1) := getB' kX11_plan_0 1 rfl
theorem dX11_plan_2 : decode cX11_plan 2 = .ok (.invokevirtual 403, 3) := getB' kX11_plan_0 2 rfl
theorem dX11_plan_5 : decode cX11_plan 5 = .ok (.astore 4, 2) := getB' kX11_plan_0 3 rfl
theorem dX11_plan_7 : decode cX11_plan 7 = .ok (.aload 4, 2) := getB' kX11_plan_0 4 rfl
theorem dX11_plan_9 : decode cX11_plan 9 = .ok (.ifnull 21, 3) := getB' kX11_plan_0 5 rfl
theorem dX11_plan_12 : decode cX11_plan 12 = .ok (.iload_n 2, 1) := getB' kX11_plan_0 6 rfl
theorem dX11_plan_13 : decode cX11_plan 13 = .ok (.invokestatic 394, 3) := getB' kX11_plan_0 7 rfl
theorem dX11_plan_16 : decode cX11_plan 16 = .ok (.ifCond .eq 14, 3) := getB' kX11_plan_0 8 rfl
theorem dX11_plan_19 : decode cX11_plan 19 = .ok (.iload_n 3, 1) := getB' kX11_plan_0 9 rfl
theorem dX11_plan_20 : decode cX11_plan 20 = .ok (.iconst 0, 1) := getB' kX11_plan_0 10 rfl
theorem dX11_plan_21 : decode cX11_plan 21 = .ok (.sipush 359, 3) := getB' kX11_plan_0 11 rfl
def LX11_plan_1 : List (Nat × Instr × Nat) := [(24, .invokestatic 112, 3), (27, .ifCond .ne 5, 3), (30, .iconst (-1), 1), (31, .ireturn, 1), (32, .aload_n 0, 1), (33, .getfield 26, 3), (36, .getfield 593, 3), (39, .getfield 199, 3), (42, .ifCond .eq 18, 3), (45, .aload_n 0, 1), (46, .getfield 26, 3), (49, .invokevirtual 602, 3)]
theorem kX11_plan_1 : chkB cX11_plan LX11_plan_1 = true := by decide +kernel
theorem dX11_plan_24 : decode cX11_plan 24 = .ok (.invokestatic 112, 3) := getB' kX11_plan_1 0 rfl
theorem dX11_plan_27 : decode cX11_plan 27 = .ok (.ifCond .ne 5, 3) := getB' kX11_plan_1 1 rfl
theorem dX11_plan_30 : decode cX11_plan 30 = .ok (.iconst (-1), 1) := getB' kX11_plan_1 2 rfl
theorem dX11_plan_31 : decode cX11_plan 31 = .ok (.ireturn, 1) := getB' kX11_plan_1 3 rfl
theorem dX11_plan_32 : decode cX11_plan 32 = .ok (.aload_n 0, 1) := getB' kX11_plan_1 4 rfl
theorem dX11_plan_33 : decode cX11_plan 33 = .ok (.getfield 26, 3) := getB' kX11_plan_1 5 rfl
theorem dX11_plan_36 : decode cX11_plan 36 = .ok (.getfield 593, 3) := getB' kX11_plan_1 6 rfl
theorem dX11_plan_39 : decode cX11_plan 39 = .ok (.getfield 199, 3) := getB' kX11_plan_1 7 rfl
theorem dX11_plan_42 : decode cX11_plan 42 = .ok (.ifCond .eq 18, 3) := getB' kX11_plan_1 8 rfl
theorem dX11_plan_45 : decode cX11_plan 45 = .ok (.aload_n 0, 1) := getB' kX11_plan_1 9 rfl
theorem dX11_plan_46 : decode cX11_plan 46 = .ok (.getfield 26, 3) := getB' kX11_plan_1 10 rfl
theorem dX11_plan_49 : decode cX11_plan 49 = .ok (.invokevirtual 602, 3) := getB' kX11_plan_1 11 rfl
def LX11_plan_2 : List (Nat × Instr × Nat) := [(52, .aload 4, 2), (54, .getfield 407, 3), (57, .if_icmp .le 5, 3), (60, .iconst (-1), 1), (61, .ireturn, 1), (62, .iload_n 3, 1), (63, .aload_n 0, 1), (64, .getfield 12, 3), (67, .getfield 400, 3), (70, .iload_n 2, 1), (71, .invokestatic 253, 3), (74, .iadd, 1)]
theorem kX11_plan_2 : chkB cX11_plan LX11_plan_2 = true := by decide +kernel
theorem dX11_plan_52 : decode cX11_plan 52 = .ok (.aload 4, 2) := getB' kX11_plan_2 0 rfl
theorem dX11_plan_54 : decode cX11_plan 54 = .ok (.getfield 407, 3) := getB' kX11_plan_2 1 rfl
theorem dX11_plan_57 : decode cX11_plan 57 = .ok (.if_icmp .le 5, 3) := getB' kX11_plan_2 2 rfl
theorem dX11_plan_60 : decode cX11_plan 60 = .ok (.iconst (-1), 1) := getB' kX11_plan_2 3 rfl
theorem dX11_plan_61 : decode cX11_plan 61 = .ok (.ireturn, 1) := getB' kX11_plan_2 4 rfl
theorem dX11_plan_62 : decode cX11_plan 62 = .ok (.iload_n 3, 1) := getB' kX11_plan_2 5 rfl
theorem dX11_plan_63 : decode cX11_plan 63 = .ok (.aload_n 0, 1) := getB' kX11_plan_2 6 rfl
theorem dX11_plan_64 : decode cX11_plan 64 = .ok (.getfield 12, 3) := getB' kX11_plan_2 7 rfl
theorem dX11_plan_67 : decode cX11_plan 67 = .ok (.getfield 400, 3) := getB' kX11_plan_2 8 rfl
theorem dX11_plan_70 : decode cX11_plan 70 = .ok (.iload_n 2, 1) := getB' kX11_plan_2 9 rfl
theorem dX11_plan_71 : decode cX11_plan 71 = .ok (.invokestatic 253, 3) := getB' kX11_plan_2 10 rfl
theorem dX11_plan_74 : decode cX11_plan 74 = .ok (.iadd, 1) := getB' kX11_plan_2 11 rfl
def LX11_plan_3 : List (Nat × Instr × Nat) := [(75, .istore 5, 2), (77, .aload_n 0, 1), (78, .getfield 26, 3), (81, .getfield 605, 3), (84, .iload 5, 2), (86, .if_icmp .eq 16, 3), (89, .aload_n 0, 1), (90, .invokevirtual 608, 3), (93, .aload_n 0, 1), (94, .getfield 26, 3), (97, .iload 5, 2), (99, .invokevirtual 611, 3)]
theorem kX11_plan_3 : chkB cX11_plan LX11_plan_3 = true := by decide +kernel
theorem dX11_plan_75 : decode cX11_plan 75 = .ok (.istore 5, 2) := getB' kX11_plan_3 0 rfl
theorem dX11_plan_77 : decode cX11_plan 77 = .ok (.aload_n 0, 1) := getB' kX11_plan_3 1 rfl
theorem dX11_plan_78 : decode cX11_plan 78 = .ok (.getfield 26, 3) := getB' kX11_plan_3 2 rfl
theorem dX11_plan_81 : decode cX11_plan 81 = .ok (.getfield 605, 3) := getB' kX11_plan_3 3 rfl
theorem dX11_plan_84 : decode cX11_plan 84 = .ok (.iload 5, 2) := getB' kX11_plan_3 4 rfl
theorem dX11_plan_86 : decode cX11_plan 86 = .ok (.if_icmp .eq 16, 3) := getB' kX11_plan_3 5 rfl
theorem dX11_plan_89 : decode cX11_plan 89 = .ok (.aload_n 0, 1) := getB' kX11_plan_3 6 rfl
theorem dX11_plan_90 : decode cX11_plan 90 = .ok (.invokevirtual 608, 3) := getB' kX11_plan_3 7 rfl
theorem dX11_plan_93 : decode cX11_plan 93 = .ok (.aload_n 0, 1) := getB' kX11_plan_3 8 rfl
theorem dX11_plan_94 : decode cX11_plan 94 = .ok (.getfield 26, 3) := getB' kX11_plan_3 9 rfl
theorem dX11_plan_97 : decode cX11_plan 97 = .ok (.iload 5, 2) := getB' kX11_plan_3 10 rfl
theorem dX11_plan_99 : decode cX11_plan 99 = .ok (.invokevirtual 611, 3) := getB' kX11_plan_3 11 rfl
def LX11_plan_4 : List (Nat × Instr × Nat) := [(102, .aload_n 0, 1), (103, .getfield 26, 3), (106, .getfield 614, 3), (109, .ireturn, 1)]
theorem kX11_plan_4 : chkB cX11_plan LX11_plan_4 = true := by decide +kernel
theorem dX11_plan_102 : decode cX11_plan 102 = .ok (.aload_n 0, 1) := getB' kX11_plan_4 0 rfl
theorem dX11_plan_103 : decode cX11_plan 103 = .ok (.getfield 26, 3) := getB' kX11_plan_4 1 rfl
theorem dX11_plan_106 : decode cX11_plan 106 = .ok (.getfield 614, 3) := getB' kX11_plan_4 2 rfl
theorem dX11_plan_109 : decode cX11_plan 109 = .ok (.ireturn, 1) := getB' kX11_plan_4 3 rfl
def LX11_planned_0 : List (Nat × Instr × Nat) := [(0, .aload_n 0, 1), (1, .iload_n 1, 1), (2, .iload_n 2, 1), (3, .iload_n 3, 1), (4, .invokevirtual 617, 3), (7, .iconst (-1), 1), (8, .if_icmp .eq 18, 3), (11, .aload_n 0, 1), (12, .getfield 26, 3), (15, .getfield 593, 3), (18, .iload 4, 2), (20, .invokevirtual 431, 3)]
theorem kX11_planned_0 : chkB cX11_planned LX11_planned_0 = true := by decide +kernel
theorem dX11_planned_0 : decode cX11_planned 0 = .ok (.aload_n 0, 1) := getB' kX11_planned_0 0 rfl
theorem dX11_planned_1 : decode cX11_planned 1 = .ok (.iload_n 1, 1) := getB' kX11_planned_0 1 rfl
theorem dX11_planned_2 : decode cX11_planned 2 = .ok (.iload_n 2, 1) := getB' kX11_planned_0 2 rfl
theorem dX11_planned_3 : decode cX11_planned 3 = .ok (.iload_n 3, 1) := getB' kX11_planned_0 3 rfl
theorem dX11_planned_4 : decode cX11_planned 4 = .ok (.invokevirtual 617, 3) := getB' kX11_planned_0 4 rfl
theorem dX11_planned_7 : decode cX11_planned 7 = .ok (.iconst (-1), 1) := getB' kX11_planned_0 5 rfl
theorem dX11_planned_8 : decode cX11_planned 8 = .ok (.if_icmp .eq 18, 3) := getB' kX11_planned_0 6 rfl
theorem dX11_planned_11 : decode cX11_planned 11 = .ok (.aload_n 0, 1) := getB' kX11_planned_0 7 rfl
theorem dX11_planned_12 : decode cX11_planned 12 = .ok (.getfield 26, 3) := getB' kX11_planned_0 8 rfl
theorem dX11_planned_15 : decode cX11_planned 15 = .ok (.getfield 593, 3) := getB' kX11_planned_0 9 rfl
theorem dX11_planned_18 : decode cX11_planned 18 = .ok (.iload 4, 2) := getB' kX11_planned_0 10 rfl
theorem dX11_planned_20 : decode cX11_planned 20 = .ok (.invokevirtual 431, 3) := getB' kX11_planned_0 11 rfl
def LX11_planned_1 : List (Nat × Instr × Nat) := [(23, .ifCond .ne 5, 3), (26, .iconst (-1), 1), (27, .ireturn, 1), (28, .aload_n 0, 1), (29, .getfield 26, 3), (32, .getfield 620, 3), (35, .iload 4, 2), (37, .invokestatic 253, 3), (40, .ireturn, 1)]
theorem kX11_planned_1 : chkB cX11_planned LX11_planned_1 = true := by decide +kernel
theorem dX11_planned_23 : decode cX11_planned 23 = .ok (.ifCond .ne 5, 3) := getB' kX11_planned_1 0 rfl
theorem dX11_planned_26 : decode cX11_planned 26 = .ok (.iconst (-1), 1) := getB' kX11_planned_1 1 rfl
theorem dX11_planned_27 : decode cX11_planned 27 = .ok (.ireturn, 1) := getB' kX11_planned_1 2 rfl
theorem dX11_planned_28 : decode cX11_planned 28 = .ok (.aload_n 0, 1) := getB' kX11_planned_1 3 rfl
theorem dX11_planned_29 : decode cX11_planned 29 = .ok (.getfield 26, 3) := getB' kX11_planned_1 4 rfl
theorem dX11_planned_32 : decode cX11_planned 32 = .ok (.getfield 620, 3) := getB' kX11_planned_1 5 rfl
theorem dX11_planned_35 : decode cX11_planned 35 = .ok (.iload 4, 2) := getB' kX11_planned_1 6 rfl
theorem dX11_planned_37 : decode cX11_planned 37 = .ok (.invokestatic 253, 3) := getB' kX11_planned_1 7 rfl
theorem dX11_planned_40 : decode cX11_planned 40 = .ok (.ireturn, 1) := getB' kX11_planned_1 8 rfl
def LX11_measureLegs_0 : List (Nat × Instr × Nat) := [(0, .iconst 0, 1), (1, .istore_n 1, 1), (2, .iload_n 1, 1), (3, .aload_n 0, 1), (4, .getfield 26, 3), (7, .getfield 593, 3), (10, .getfield 199, 3), (13, .if_icmp .ge 111, 3), (16, .iconst 0, 1), (17, .istore_n 2, 1), (18, .iload_n 2, 1), (19, .aload_n 0, 1)]
theorem kX11_measureLegs_0 : chkB cX11_measureLegs LX11_measureLegs_0 = true := by decide +kernel
theorem dX11_measureLegs_0 : decode cX11_measureLegs 0 = .ok (.iconst 0, 1) := getB' kX11_measureLegs_0 0 rfl
theorem dX11_measureLegs_1 : decode cX11_measureLegs 1 = .ok (.istore_n 1, 1) := getB' kX11_measureLegs_0 1 rfl
theorem dX11_measureLegs_2 : decode cX11_measureLegs 2 = .ok (.iload_n 1, 1) := getB' kX11_measureLegs_0 2 rfl
theorem dX11_measureLegs_3 : decode cX11_measureLegs 3 = .ok (.aload_n 0, 1) := getB' kX11_measureLegs_0 3 rfl
theorem dX11_measureLegs_4 : decode cX11_measureLegs 4 = .ok (.getfield 26, 3) := getB' kX11_measureLegs_0 4 rfl
theorem dX11_measureLegs_7 : decode cX11_measureLegs 7 = .ok (.getfield 593, 3) := getB' kX11_measureLegs_0 5 rfl
theorem dX11_measureLegs_10 : decode cX11_measureLegs 10 = .ok (.getfield 199, 3) := getB' kX11_measureLegs_0 6 rfl
theorem dX11_measureLegs_13 : decode cX11_measureLegs 13 = .ok (.if_icmp .ge 111, 3) := getB' kX11_measureLegs_0 7 rfl
theorem dX11_measureLegs_16 : decode cX11_measureLegs 16 = .ok (.iconst 0, 1) := getB' kX11_measureLegs_0 8 rfl
theorem dX11_measureLegs_17 : decode cX11_measureLegs 17 = .ok (.istore_n 2, 1) := getB' kX11_measureLegs_0 9 rfl
theorem dX11_measureLegs_18 : decode cX11_measureLegs 18 = .ok (.iload_n 2, 1) := getB' kX11_measureLegs_0 10 rfl
theorem dX11_measureLegs_19 : decode cX11_measureLegs 19 = .ok (.aload_n 0, 1) := getB' kX11_measureLegs_0 11 rfl
def LX11_measureLegs_1 : List (Nat × Instr × Nat) := [(20, .getfield 26, 3), (23, .getfield 593, 3), (26, .getfield 199, 3), (29, .if_icmp .ge 89, 3), (32, .aload_n 0, 1), (33, .aload_n 0, 1), (34, .getfield 26, 3), (37, .getfield 593, 3), (40, .iload_n 1, 1), (41, .iconst 0, 1), (42, .invokevirtual 209, 3), (45, .iconst 1, 1)]
theorem kX11_measureLegs_1 : chkB cX11_measureLegs LX11_measureLegs_1 = true := by decide +kernel
theorem dX11_measureLegs_20 : decode cX11_measureLegs 20 = .ok (.getfield 26, 3) := getB' kX11_measureLegs_1 0 rfl
theorem dX11_measureLegs_23 : decode cX11_measureLegs 23 = .ok (.getfield 593, 3) := getB' kX11_measureLegs_1 1 rfl
theorem dX11_measureLegs_26 : decode cX11_measureLegs 26 = .ok (.getfield 199, 3) := getB' kX11_measureLegs_1 2 rfl
theorem dX11_measureLegs_29 : decode cX11_measureLegs 29 = .ok (.if_icmp .ge 89, 3) := getB' kX11_measureLegs_1 3 rfl
theorem dX11_measureLegs_32 : decode cX11_measureLegs 32 = .ok (.aload_n 0, 1) := getB' kX11_measureLegs_1 4 rfl
theorem dX11_measureLegs_33 : decode cX11_measureLegs 33 = .ok (.aload_n 0, 1) := getB' kX11_measureLegs_1 5 rfl
theorem dX11_measureLegs_34 : decode cX11_measureLegs 34 = .ok (.getfield 26, 3) := getB' kX11_measureLegs_1 6 rfl
theorem dX11_measureLegs_37 : decode cX11_measureLegs 37 = .ok (.getfield 593, 3) := getB' kX11_measureLegs_1 7 rfl
theorem dX11_measureLegs_40 : decode cX11_measureLegs 40 = .ok (.iload_n 1, 1) := getB' kX11_measureLegs_1 8 rfl
theorem dX11_measureLegs_41 : decode cX11_measureLegs 41 = .ok (.iconst 0, 1) := getB' kX11_measureLegs_1 9 rfl
theorem dX11_measureLegs_42 : decode cX11_measureLegs 42 = .ok (.invokevirtual 209, 3) := getB' kX11_measureLegs_1 10 rfl
theorem dX11_measureLegs_45 : decode cX11_measureLegs 45 = .ok (.iconst 1, 1) := getB' kX11_measureLegs_1 11 rfl
def LX11_measureLegs_2 : List (Nat × Instr × Nat) := [(46, .invokevirtual 169, 3), (49, .astore_n 3, 1), (50, .aload_n 0, 1), (51, .aload_n 0, 1), (52, .getfield 26, 3), (55, .getfield 593, 3), (58, .iload_n 2, 1), (59, .iconst 0, 1), (60, .invokevirtual 209, 3), (63, .iconst 1, 1), (64, .invokevirtual 169, 3), (67, .astore 4, 2)]
theorem kX11_measureLegs_2 : chkB cX11_measureLegs LX11_measureLegs_2 = true := by decide +kernel
theorem dX11_measureLegs_46 : decode cX11_measureLegs 46 = .ok (.invokevirtual 169, 3) := getB' kX11_measureLegs_2 0 rfl
theorem dX11_measureLegs_49 : decode cX11_measureLegs 49 = .ok (.astore_n 3, 1) := getB' kX11_measureLegs_2 1 rfl
theorem dX11_measureLegs_50 : decode cX11_measureLegs 50 = .ok (.aload_n 0, 1) := getB' kX11_measureLegs_2 2 rfl
theorem dX11_measureLegs_51 : decode cX11_measureLegs 51 = .ok (.aload_n 0, 1) := getB' kX11_measureLegs_2 3 rfl
theorem dX11_measureLegs_52 : decode cX11_measureLegs 52 = .ok (.getfield 26, 3) := getB' kX11_measureLegs_2 4 rfl
theorem dX11_measureLegs_55 : decode cX11_measureLegs 55 = .ok (.getfield 593, 3) := getB' kX11_measureLegs_2 5 rfl
theorem dX11_measureLegs_58 : decode cX11_measureLegs 58 = .ok (.iload_n 2, 1) := getB' kX11_measureLegs_2 6 rfl
theorem dX11_measureLegs_59 : decode cX11_measureLegs 59 = .ok (.iconst 0, 1) := getB' kX11_measureLegs_2 7 rfl
theorem dX11_measureLegs_60 : decode cX11_measureLegs 60 = .ok (.invokevirtual 209, 3) := getB' kX11_measureLegs_2 8 rfl
theorem dX11_measureLegs_63 : decode cX11_measureLegs 63 = .ok (.iconst 1, 1) := getB' kX11_measureLegs_2 9 rfl
theorem dX11_measureLegs_64 : decode cX11_measureLegs 64 = .ok (.invokevirtual 169, 3) := getB' kX11_measureLegs_2 10 rfl
theorem dX11_measureLegs_67 : decode cX11_measureLegs 67 = .ok (.astore 4, 2) := getB' kX11_measureLegs_2 11 rfl
def LX11_measureLegs_3 : List (Nat × Instr × Nat) := [(69, .aload_n 3, 1), (70, .ifnull 42, 3), (73, .aload 4, 2), (75, .ifnull 37, 3), (78, .aload_n 0, 1), (79, .getfield 26, 3), (82, .getfield 623, 3), (85, .iload_n 1, 1), (86, .bipush 8, 2), (88, .imul, 1), (89, .iload_n 2, 1), (90, .iadd, 1)]
theorem kX11_measureLegs_3 : chkB cX11_measureLegs LX11_measureLegs_3 = true := by decide +kernel
theorem dX11_measureLegs_69 : decode cX11_measureLegs 69 = .ok (.aload_n 3, 1) := getB' kX11_measureLegs_3 0 rfl
theorem dX11_measureLegs_70 : decode cX11_measureLegs 70 = .ok (.ifnull 42, 3) := getB' kX11_measureLegs_3 1 rfl
theorem dX11_measureLegs_73 : decode cX11_measureLegs 73 = .ok (.aload 4, 2) := getB' kX11_measureLegs_3 2 rfl
theorem dX11_measureLegs_75 : decode cX11_measureLegs 75 = .ok (.ifnull 37, 3) := getB' kX11_measureLegs_3 3 rfl
theorem dX11_measureLegs_78 : decode cX11_measureLegs 78 = .ok (.aload_n 0, 1) := getB' kX11_measureLegs_3 4 rfl
theorem dX11_measureLegs_79 : decode cX11_measureLegs 79 = .ok (.getfield 26, 3) := getB' kX11_measureLegs_3 5 rfl
theorem dX11_measureLegs_82 : decode cX11_measureLegs 82 = .ok (.getfield 623, 3) := getB' kX11_measureLegs_3 6 rfl
theorem dX11_measureLegs_85 : decode cX11_measureLegs 85 = .ok (.iload_n 1, 1) := getB' kX11_measureLegs_3 7 rfl
theorem dX11_measureLegs_86 : decode cX11_measureLegs 86 = .ok (.bipush 8, 2) := getB' kX11_measureLegs_3 8 rfl
theorem dX11_measureLegs_88 : decode cX11_measureLegs 88 = .ok (.imul, 1) := getB' kX11_measureLegs_3 9 rfl
theorem dX11_measureLegs_89 : decode cX11_measureLegs 89 = .ok (.iload_n 2, 1) := getB' kX11_measureLegs_3 10 rfl
theorem dX11_measureLegs_90 : decode cX11_measureLegs 90 = .ok (.iadd, 1) := getB' kX11_measureLegs_3 11 rfl
def LX11_measureLegs_4 : List (Nat × Instr × Nat) := [(91, .iconst 2, 1), (92, .aload_n 0, 1), (93, .getfield 12, 3), (96, .aload_n 3, 1), (97, .getfield 344, 3), (100, .aload 4, 2), (102, .getfield 344, 3), (105, .invokevirtual 388, 3), (108, .imul, 1), (109, .invokestatic 108, 3), (112, .iinc 2 1, 3), (115, .goto (-97), 3)]
theorem kX11_measureLegs_4 : chkB cX11_measureLegs LX11_measureLegs_4 = true := by decide +kernel
theorem dX11_measureLegs_91 : decode cX11_measureLegs 91 = .ok (.iconst 2, 1) := getB' kX11_measureLegs_4 0 rfl
theorem dX11_measureLegs_92 : decode cX11_measureLegs 92 = .ok (.aload_n 0, 1) := getB' kX11_measureLegs_4 1 rfl
theorem dX11_measureLegs_93 : decode cX11_measureLegs 93 = .ok (.getfield 12, 3) := getB' kX11_measureLegs_4 2 rfl
theorem dX11_measureLegs_96 : decode cX11_measureLegs 96 = .ok (.aload_n 3, 1) := getB' kX11_measureLegs_4 3 rfl
theorem dX11_measureLegs_97 : decode cX11_measureLegs 97 = .ok (.getfield 344, 3) := getB' kX11_measureLegs_4 4 rfl
theorem dX11_measureLegs_100 : decode cX11_measureLegs 100 = .ok (.aload 4, 2) := getB' kX11_measureLegs_4 5 rfl
theorem dX11_measureLegs_102 : decode cX11_measureLegs 102 = .ok (.getfield 344, 3) := getB' kX11_measureLegs_4 6 rfl
theorem dX11_measureLegs_105 : decode cX11_measureLegs 105 = .ok (.invokevirtual 388, 3) := getB' kX11_measureLegs_4 7 rfl
theorem dX11_measureLegs_108 : decode cX11_measureLegs 108 = .ok (.imul, 1) := getB' kX11_measureLegs_4 8 rfl
theorem dX11_measureLegs_109 : decode cX11_measureLegs 109 = .ok (.invokestatic 108, 3) := getB' kX11_measureLegs_4 9 rfl
theorem dX11_measureLegs_112 : decode cX11_measureLegs 112 = .ok (.iinc 2 1, 3) := getB' kX11_measureLegs_4 10 rfl
theorem dX11_measureLegs_115 : decode cX11_measureLegs 115 = .ok (.goto (-97), 3) := getB' kX11_measureLegs_4 11 rfl
def LX11_measureLegs_5 : List (Nat × Instr × Nat) := [(118, .iinc 1 1, 3), (121, .goto (-119), 3), (124, .return_, 1)]
theorem kX11_measureLegs_5 : chkB cX11_measureLegs LX11_measureLegs_5 = true := by decide +kernel
theorem dX11_measureLegs_118 : decode cX11_measureLegs 118 = .ok (.iinc 1 1, 3) := getB' kX11_measureLegs_5 0 rfl
theorem dX11_measureLegs_121 : decode cX11_measureLegs 121 = .ok (.goto (-119), 3) := getB' kX11_measureLegs_5 1 rfl
theorem dX11_measureLegs_124 : decode cX11_measureLegs 124 = .ok (.return_, 1) := getB' kX11_measureLegs_5 2 rfl
def LX11_report_0 : List (Nat × Instr × Nat) := [(0, .aload_n 0, 1), (1, .iload_n 1, 1), (2, .iconst 1, 1), (3, .invokevirtual 169, 3), (6, .ifnull 18, 3), (9, .iload_n 2, 1), (10, .iconst 0, 1), (11, .aload_n 0, 1), (12, .getfield 12, 3), (15, .getfield 145, 3), (18, .invokestatic 112, 3), (21, .ifCond .ne 5, 3)]
theorem kX11_report_0 : chkB cX11_report LX11_report_0 = true := by decide +kernel
theorem dX11_report_0 : decode cX11_report 0 = .ok (.aload_n 0, 1) := getB' kX11_report_0 0 rfl
theorem dX11_report_1 : decode cX11_report 1 = .ok (.iload_n 1, 1) := getB' kX11_report_0 1 rfl
theorem dX11_report_2 : decode cX11_report 2 = .ok (.iconst 1, 1) := getB' kX11_report_0 2 rfl
theorem dX11_report_3 : decode cX11_report 3 = .ok (.invokevirtual 169, 3) := getB' kX11_report_0 3 rfl
theorem dX11_report_6 : decode cX11_report 6 = .ok (.ifnull 18, 3) := getB' kX11_report_0 4 rfl
theorem dX11_report_9 : decode cX11_report 9 = .ok (.iload_n 2, 1) := getB' kX11_report_0 5 rfl
theorem dX11_report_10 : decode cX11_report 10 = .ok (.iconst 0, 1) := getB' kX11_report_0 6 rfl
theorem dX11_report_11 : decode cX11_report 11 = .ok (.aload_n 0, 1) := getB' kX11_report_0 7 rfl
theorem dX11_report_12 : decode cX11_report 12 = .ok (.getfield 12, 3) := getB' kX11_report_0 8 rfl
theorem dX11_report_15 : decode cX11_report 15 = .ok (.getfield 145, 3) := getB' kX11_report_0 9 rfl
theorem dX11_report_18 : decode cX11_report 18 = .ok (.invokestatic 112, 3) := getB' kX11_report_0 10 rfl
theorem dX11_report_21 : decode cX11_report 21 = .ok (.ifCond .ne 5, 3) := getB' kX11_report_0 11 rfl
def LX11_report_1 : List (Nat × Instr × Nat) := [(24, .iconst 0, 1), (25, .ireturn, 1), (26, .iload 4, 2), (28, .ifCond .eq 18, 3), (31, .iload_n 3, 1), (32, .sipush (-1000), 3), (35, .ldc_w 424, 3), (38, .invokestatic 112, 3), (41, .ifCond .ne 5, 3), (44, .iconst 0, 1), (45, .ireturn, 1), (46, .aload_n 0, 1)]
theorem kX11_report_1 : chkB cX11_report LX11_report_1 = true := by decide +kernel
theorem dX11_report_24 : decode cX11_report 24 = .ok (.iconst 0, 1) := getB' kX11_report_1 0 rfl
theorem dX11_report_25 : decode cX11_report 25 = .ok (.ireturn, 1) := getB' kX11_report_1 1 rfl
theorem dX11_report_26 : decode cX11_report 26 = .ok (.iload 4, 2) := getB' kX11_report_1 2 rfl
theorem dX11_report_28 : decode cX11_report 28 = .ok (.ifCond .eq 18, 3) := getB' kX11_report_1 3 rfl
theorem dX11_report_31 : decode cX11_report 31 = .ok (.iload_n 3, 1) := getB' kX11_report_1 4 rfl
theorem dX11_report_32 : decode cX11_report 32 = .ok (.sipush (-1000), 3) := getB' kX11_report_1 5 rfl
theorem dX11_report_35 : decode cX11_report 35 = .ok (.ldc_w 424, 3) := getB' kX11_report_1 6 rfl
theorem dX11_report_38 : decode cX11_report 38 = .ok (.invokestatic 112, 3) := getB' kX11_report_1 7 rfl
theorem dX11_report_41 : decode cX11_report 41 = .ok (.ifCond .ne 5, 3) := getB' kX11_report_1 8 rfl
theorem dX11_report_44 : decode cX11_report 44 = .ok (.iconst 0, 1) := getB' kX11_report_1 9 rfl
theorem dX11_report_45 : decode cX11_report 45 = .ok (.ireturn, 1) := getB' kX11_report_1 10 rfl
theorem dX11_report_46 : decode cX11_report 46 = .ok (.aload_n 0, 1) := getB' kX11_report_1 11 rfl
def LX11_report_2 : List (Nat × Instr × Nat) := [(47, .getfield 85, 3), (50, .iload_n 1, 1), (51, .iload_n 2, 1), (52, .iload_n 3, 1), (53, .iload 4, 2), (55, .ifCond .eq 7, 3), (58, .iconst 1, 1), (59, .goto 4, 3), (62, .iconst 0, 1), (63, .aload_n 0, 1), (64, .getfield 12, 3), (67, .getfield 145, 3)]
theorem kX11_report_2 : chkB cX11_report LX11_report_2 = true := by decide +kernel
theorem dX11_report_47 : decode cX11_report 47 = .ok (.getfield 85, 3) := getB' kX11_report_2 0 rfl
theorem dX11_report_50 : decode cX11_report 50 = .ok (.iload_n 1, 1) := getB' kX11_report_2 1 rfl
theorem dX11_report_51 : decode cX11_report 51 = .ok (.iload_n 2, 1) := getB' kX11_report_2 2 rfl
theorem dX11_report_52 : decode cX11_report 52 = .ok (.iload_n 3, 1) := getB' kX11_report_2 3 rfl
theorem dX11_report_53 : decode cX11_report 53 = .ok (.iload 4, 2) := getB' kX11_report_2 4 rfl
theorem dX11_report_55 : decode cX11_report 55 = .ok (.ifCond .eq 7, 3) := getB' kX11_report_2 5 rfl
theorem dX11_report_58 : decode cX11_report 58 = .ok (.iconst 1, 1) := getB' kX11_report_2 6 rfl
theorem dX11_report_59 : decode cX11_report 59 = .ok (.goto 4, 3) := getB' kX11_report_2 7 rfl
theorem dX11_report_62 : decode cX11_report 62 = .ok (.iconst 0, 1) := getB' kX11_report_2 8 rfl
theorem dX11_report_63 : decode cX11_report 63 = .ok (.aload_n 0, 1) := getB' kX11_report_2 9 rfl
theorem dX11_report_64 : decode cX11_report 64 = .ok (.getfield 12, 3) := getB' kX11_report_2 10 rfl
theorem dX11_report_67 : decode cX11_report 67 = .ok (.getfield 145, 3) := getB' kX11_report_2 11 rfl
def LX11_report_3 : List (Nat × Instr × Nat) := [(70, .invokevirtual 205, 3), (73, .iconst (-1), 1), (74, .if_icmp .eq 7, 3), (77, .iconst 1, 1), (78, .goto 4, 3), (81, .iconst 0, 1), (82, .ireturn, 1)]
theorem kX11_report_3 : chkB cX11_report LX11_report_3 = true := by decide +kernel
theorem dX11_report_70 : decode cX11_report 70 = .ok (.invokevirtual 205, 3) := getB' kX11_report_3 0 rfl
theorem dX11_report_73 : decode cX11_report 73 = .ok (.iconst (-1), 1) := getB' kX11_report_3 1 rfl
theorem dX11_report_74 : decode cX11_report 74 = .ok (.if_icmp .eq 7, 3) := getB' kX11_report_3 2 rfl
theorem dX11_report_77 : decode cX11_report 77 = .ok (.iconst 1, 1) := getB' kX11_report_3 3 rfl
theorem dX11_report_78 : decode cX11_report 78 = .ok (.goto 4, 3) := getB' kX11_report_3 4 rfl
theorem dX11_report_81 : decode cX11_report 81 = .ok (.iconst 0, 1) := getB' kX11_report_3 5 rfl
theorem dX11_report_82 : decode cX11_report 82 = .ok (.ireturn, 1) := getB' kX11_report_3 6 rfl
def LX11_known_0 : List (Nat × Instr × Nat) := [(0, .aload_n 0, 1), (1, .iload_n 1, 1), (2, .iconst 1, 1), (3, .invokevirtual 169, 3), (6, .ifnull 17, 3), (9, .iload_n 2, 1), (10, .invokestatic 276, 3), (13, .ifCond .eq 10, 3), (16, .iload_n 3, 1), (17, .invokestatic 276, 3), (20, .ifCond .ne 7, 3), (23, .ldc_w 626, 3)]
theorem kX11_known_0 : chkB cX11_known LX11_known_0 = true := by decide +kernel
theorem dX11_known_0 : decode cX11_known 0 = .ok (.aload_n 0, 1) := getB' kX11_known_0 0 rfl
theorem dX11_known_1 : decode cX11_known 1 = .ok (.iload_n 1, 1) := getB' kX11_known_0 1 rfl
theorem dX11_known_2 : decode cX11_known 2 = .ok (.iconst 1, 1) := getB' kX11_known_0 2 rfl
theorem dX11_known_3 : decode cX11_known 3 = .ok (.invokevirtual 169, 3) := getB' kX11_known_0 3 rfl
theorem dX11_known_6 : decode cX11_known 6 = .ok (.ifnull 17, 3) := getB' kX11_known_0 4 rfl
theorem dX11_known_9 : decode cX11_known 9 = .ok (.iload_n 2, 1) := getB' kX11_known_0 5 rfl
theorem dX11_known_10 : decode cX11_known 10 = .ok (.invokestatic 276, 3) := getB' kX11_known_0 6 rfl
theorem dX11_known_13 : decode cX11_known 13 = .ok (.ifCond .eq 10, 3) := getB' kX11_known_0 7 rfl
theorem dX11_known_16 : decode cX11_known 16 = .ok (.iload_n 3, 1) := getB' kX11_known_0 8 rfl
theorem dX11_known_17 : decode cX11_known 17 = .ok (.invokestatic 276, 3) := getB' kX11_known_0 9 rfl
theorem dX11_known_20 : decode cX11_known 20 = .ok (.ifCond .ne 7, 3) := getB' kX11_known_0 10 rfl
theorem dX11_known_23 : decode cX11_known 23 = .ok (.ldc_w 626, 3) := getB' kX11_known_0 11 rfl
def LX11_known_1 : List (Nat × Instr × Nat) := [(26, .ireturn, 1), (27, .iconst (-1), 1), (28, .istore 4, 2), (30, .iconst (-1), 1), (31, .istore 5, 2), (33, .iconst 0, 1), (34, .istore 6, 2), (36, .iload 6, 2), (38, .aload_n 0, 1), (39, .getfield 85, 3), (42, .getfield 199, 3), (45, .if_icmp .ge 131, 3)]
theorem kX11_known_1 : chkB cX11_known LX11_known_1 = true := by decide +kernel
theorem dX11_known_26 : decode cX11_known 26 = .ok (.ireturn, 1) := getB' kX11_known_1 0 rfl
theorem dX11_known_27 : decode cX11_known 27 = .ok (.iconst (-1), 1) := getB' kX11_known_1 1 rfl
theorem dX11_known_28 : decode cX11_known 28 = .ok (.istore 4, 2) := getB' kX11_known_1 2 rfl
theorem dX11_known_30 : decode cX11_known 30 = .ok (.iconst (-1), 1) := getB' kX11_known_1 3 rfl
theorem dX11_known_31 : decode cX11_known 31 = .ok (.istore 5, 2) := getB' kX11_known_1 4 rfl
theorem dX11_known_33 : decode cX11_known 33 = .ok (.iconst 0, 1) := getB' kX11_known_1 5 rfl
theorem dX11_known_34 : decode cX11_known 34 = .ok (.istore 6, 2) := getB' kX11_known_1 6 rfl
theorem dX11_known_36 : decode cX11_known 36 = .ok (.iload 6, 2) := getB' kX11_known_1 7 rfl
theorem dX11_known_38 : decode cX11_known 38 = .ok (.aload_n 0, 1) := getB' kX11_known_1 8 rfl
theorem dX11_known_39 : decode cX11_known 39 = .ok (.getfield 85, 3) := getB' kX11_known_1 9 rfl
theorem dX11_known_42 : decode cX11_known 42 = .ok (.getfield 199, 3) := getB' kX11_known_1 10 rfl
theorem dX11_known_45 : decode cX11_known 45 = .ok (.if_icmp .ge 131, 3) := getB' kX11_known_1 11 rfl
def LX11_known_2 : List (Nat × Instr × Nat) := [(48, .aload_n 0, 1), (49, .getfield 85, 3), (52, .iload 6, 2), (54, .iconst 0, 1), (55, .invokevirtual 209, 3), (58, .iload_n 1, 1), (59, .if_icmp .ne 111, 3), (62, .aload_n 0, 1), (63, .getfield 85, 3), (66, .iload 6, 2), (68, .iconst 4, 1), (69, .invokevirtual 209, 3)]
theorem kX11_known_2 : chkB cX11_known LX11_known_2 = true := by decide +kernel
theorem dX11_known_48 : decode cX11_known 48 = .ok (.aload_n 0, 1) := getB' kX11_known_2 0 rfl
theorem dX11_known_49 : decode cX11_known 49 = .ok (.getfield 85, 3) := getB' kX11_known_2 1 rfl
theorem dX11_known_52 : decode cX11_known 52 = .ok (.iload 6, 2) := getB' kX11_known_2 2 rfl
theorem dX11_known_54 : decode cX11_known 54 = .ok (.iconst 0, 1) := getB' kX11_known_2 3 rfl
theorem dX11_known_55 : decode cX11_known 55 = .ok (.invokevirtual 209, 3) := getB' kX11_known_2 4 rfl
theorem dX11_known_58 : decode cX11_known 58 = .ok (.iload_n 1, 1) := getB' kX11_known_2 5 rfl
theorem dX11_known_59 : decode cX11_known 59 = .ok (.if_icmp .ne 111, 3) := getB' kX11_known_2 6 rfl
theorem dX11_known_62 : decode cX11_known 62 = .ok (.aload_n 0, 1) := getB' kX11_known_2 7 rfl
theorem dX11_known_63 : decode cX11_known 63 = .ok (.getfield 85, 3) := getB' kX11_known_2 8 rfl
theorem dX11_known_66 : decode cX11_known 66 = .ok (.iload 6, 2) := getB' kX11_known_2 9 rfl
theorem dX11_known_68 : decode cX11_known 68 = .ok (.iconst 4, 1) := getB' kX11_known_2 10 rfl
theorem dX11_known_69 : decode cX11_known 69 = .ok (.invokevirtual 209, 3) := getB' kX11_known_2 11 rfl
def LX11_known_3 : List (Nat × Instr × Nat) := [(72, .iload_n 3, 1), (73, .if_icmp .le 6, 3), (76, .goto 94, 3), (79, .aload_n 0, 1), (80, .getfield 85, 3), (83, .iload 6, 2), (85, .iconst 1, 1), (86, .invokevirtual 209, 3), (89, .istore 7, 2), (91, .aload_n 0, 1), (92, .getfield 85, 3), (95, .iload 6, 2)]
theorem kX11_known_3 : chkB cX11_known LX11_known_3 = true := by decide +kernel
theorem dX11_known_72 : decode cX11_known 72 = .ok (.iload_n 3, 1) := getB' kX11_known_3 0 rfl
theorem dX11_known_73 : decode cX11_known 73 = .ok (.if_icmp .le 6, 3) := getB' kX11_known_3 1 rfl
theorem dX11_known_76 : decode cX11_known 76 = .ok (.goto 94, 3) := getB' kX11_known_3 2 rfl
theorem dX11_known_79 : decode cX11_known 79 = .ok (.aload_n 0, 1) := getB' kX11_known_3 3 rfl
theorem dX11_known_80 : decode cX11_known 80 = .ok (.getfield 85, 3) := getB' kX11_known_3 4 rfl
theorem dX11_known_83 : decode cX11_known 83 = .ok (.iload 6, 2) := getB' kX11_known_3 5 rfl
theorem dX11_known_85 : decode cX11_known 85 = .ok (.iconst 1, 1) := getB' kX11_known_3 6 rfl
theorem dX11_known_86 : decode cX11_known 86 = .ok (.invokevirtual 209, 3) := getB' kX11_known_3 7 rfl
theorem dX11_known_89 : decode cX11_known 89 = .ok (.istore 7, 2) := getB' kX11_known_3 8 rfl
theorem dX11_known_91 : decode cX11_known 91 = .ok (.aload_n 0, 1) := getB' kX11_known_3 9 rfl
theorem dX11_known_92 : decode cX11_known 92 = .ok (.getfield 85, 3) := getB' kX11_known_3 10 rfl
theorem dX11_known_95 : decode cX11_known 95 = .ok (.iload 6, 2) := getB' kX11_known_3 11 rfl
def LX11_known_4 : List (Nat × Instr × Nat) := [(97, .iconst 3, 1), (98, .invokevirtual 209, 3), (101, .iconst 1, 1), (102, .if_icmp .ne 7, 3), (105, .iconst 1, 1), (106, .goto 4, 3), (109, .iconst 0, 1), (110, .istore 8, 2), (112, .iload 7, 2), (114, .iload_n 2, 1), (115, .if_icmp .ne 19, 3), (118, .iload 8, 2)]
theorem kX11_known_4 : chkB cX11_known LX11_known_4 = true := by decide +kernel
theorem dX11_known_97 : decode cX11_known 97 = .ok (.iconst 3, 1) := getB' kX11_known_4 0 rfl
theorem dX11_known_98 : decode cX11_known 98 = .ok (.invokevirtual 209, 3) := getB' kX11_known_4 1 rfl
theorem dX11_known_101 : decode cX11_known 101 = .ok (.iconst 1, 1) := getB' kX11_known_4 2 rfl
theorem dX11_known_102 : decode cX11_known 102 = .ok (.if_icmp .ne 7, 3) := getB' kX11_known_4 3 rfl
theorem dX11_known_105 : decode cX11_known 105 = .ok (.iconst 1, 1) := getB' kX11_known_4 4 rfl
theorem dX11_known_106 : decode cX11_known 106 = .ok (.goto 4, 3) := getB' kX11_known_4 5 rfl
theorem dX11_known_109 : decode cX11_known 109 = .ok (.iconst 0, 1) := getB' kX11_known_4 6 rfl
theorem dX11_known_110 : decode cX11_known 110 = .ok (.istore 8, 2) := getB' kX11_known_4 7 rfl
theorem dX11_known_112 : decode cX11_known 112 = .ok (.iload 7, 2) := getB' kX11_known_4 8 rfl
theorem dX11_known_114 : decode cX11_known 114 = .ok (.iload_n 2, 1) := getB' kX11_known_4 9 rfl
theorem dX11_known_115 : decode cX11_known 115 = .ok (.if_icmp .ne 19, 3) := getB' kX11_known_4 10 rfl
theorem dX11_known_118 : decode cX11_known 118 = .ok (.iload 8, 2) := getB' kX11_known_4 11 rfl
def LX11_known_5 : List (Nat × Instr × Nat) := [(120, .ifCond .eq 8, 3), (123, .iload 6, 2), (125, .goto 4, 3), (128, .iconst (-1), 1), (129, .istore 4, 2), (131, .goto 39, 3), (134, .iload 7, 2), (136, .iload_n 2, 1), (137, .if_icmp .ge 33, 3), (140, .iload 8, 2), (142, .ifCond .eq 28, 3), (145, .iload 5, 2)]
theorem kX11_known_5 : chkB cX11_known LX11_known_5 = true := by decide +kernel
theorem dX11_known_120 : decode cX11_known 120 = .ok (.ifCond .eq 8, 3) := getB' kX11_known_5 0 rfl
theorem dX11_known_123 : decode cX11_known 123 = .ok (.iload 6, 2) := getB' kX11_known_5 1 rfl
theorem dX11_known_125 : decode cX11_known 125 = .ok (.goto 4, 3) := getB' kX11_known_5 2 rfl
theorem dX11_known_128 : decode cX11_known 128 = .ok (.iconst (-1), 1) := getB' kX11_known_5 3 rfl
theorem dX11_known_129 : decode cX11_known 129 = .ok (.istore 4, 2) := getB' kX11_known_5 4 rfl
theorem dX11_known_131 : decode cX11_known 131 = .ok (.goto 39, 3) := getB' kX11_known_5 5 rfl
theorem dX11_known_134 : decode cX11_known 134 = .ok (.iload 7, 2) := getB' kX11_known_5 6 rfl
theorem dX11_known_136 : decode cX11_known 136 = .ok (.iload_n 2, 1) := getB' kX11_known_5 7 rfl
theorem dX11_known_137 : decode cX11_known 137 = .ok (.if_icmp .ge 33, 3) := getB' kX11_known_5 8 rfl
theorem dX11_known_140 : decode cX11_known 140 = .ok (.iload 8, 2) := getB' kX11_known_5 9 rfl
theorem dX11_known_142 : decode cX11_known 142 = .ok (.ifCond .eq 28, 3) := getB' kX11_known_5 10 rfl
theorem dX11_known_145 : decode cX11_known 145 = .ok (.iload 5, 2) := getB' kX11_known_5 11 rfl
def LX11_known_6 : List (Nat × Instr × Nat) := [(147, .iconst (-1), 1), (148, .if_icmp .eq 18, 3), (151, .iload 7, 2), (153, .aload_n 0, 1), (154, .getfield 85, 3), (157, .iload 5, 2), (159, .iconst 1, 1), (160, .invokevirtual 209, 3), (163, .if_icmp .lt 7, 3), (166, .iload 6, 2), (168, .istore 5, 2), (170, .iinc 6 1, 3)]
theorem kX11_known_6 : chkB cX11_known LX11_known_6 = true := by decide +kernel
theorem dX11_known_147 : decode cX11_known 147 = .ok (.iconst (-1), 1) := getB' kX11_known_6 0 rfl
theorem dX11_known_148 : decode cX11_known 148 = .ok (.if_icmp .eq 18, 3) := getB' kX11_known_6 1 rfl
theorem dX11_known_151 : decode cX11_known 151 = .ok (.iload 7, 2) := getB' kX11_known_6 2 rfl
theorem dX11_known_153 : decode cX11_known 153 = .ok (.aload_n 0, 1) := getB' kX11_known_6 3 rfl
theorem dX11_known_154 : decode cX11_known 154 = .ok (.getfield 85, 3) := getB' kX11_known_6 4 rfl
theorem dX11_known_157 : decode cX11_known 157 = .ok (.iload 5, 2) := getB' kX11_known_6 5 rfl
theorem dX11_known_159 : decode cX11_known 159 = .ok (.iconst 1, 1) := getB' kX11_known_6 6 rfl
theorem dX11_known_160 : decode cX11_known 160 = .ok (.invokevirtual 209, 3) := getB' kX11_known_6 7 rfl
theorem dX11_known_163 : decode cX11_known 163 = .ok (.if_icmp .lt 7, 3) := getB' kX11_known_6 8 rfl
theorem dX11_known_166 : decode cX11_known 166 = .ok (.iload 6, 2) := getB' kX11_known_6 9 rfl
theorem dX11_known_168 : decode cX11_known 168 = .ok (.istore 5, 2) := getB' kX11_known_6 10 rfl
theorem dX11_known_170 : decode cX11_known 170 = .ok (.iinc 6 1, 3) := getB' kX11_known_6 11 rfl
def LX11_known_7 : List (Nat × Instr × Nat) := [(173, .goto (-137), 3), (176, .iload 4, 2), (178, .iconst (-1), 1), (179, .if_icmp .eq 8, 3), (182, .iload 4, 2), (184, .goto 5, 3), (187, .iload 5, 2), (189, .istore 6, 2), (191, .iload 6, 2), (193, .iconst (-1), 1), (194, .if_icmp .ne 9, 3), (197, .ldc_w 626, 3)]
theorem kX11_known_7 : chkB cX11_known LX11_known_7 = true := by decide +kernel
theorem dX11_known_173 : decode cX11_known 173 = .ok (.goto (-137), 3) := getB' kX11_known_7 0 rfl
theorem dX11_known_176 : decode cX11_known 176 = .ok (.iload 4, 2) := getB' kX11_known_7 1 rfl
theorem dX11_known_178 : decode cX11_known 178 = .ok (.iconst (-1), 1) := getB' kX11_known_7 2 rfl
theorem dX11_known_179 : decode cX11_known 179 = .ok (.if_icmp .eq 8, 3) := getB' kX11_known_7 3 rfl
theorem dX11_known_182 : decode cX11_known 182 = .ok (.iload 4, 2) := getB' kX11_known_7 4 rfl
theorem dX11_known_184 : decode cX11_known 184 = .ok (.goto 5, 3) := getB' kX11_known_7 5 rfl
theorem dX11_known_187 : decode cX11_known 187 = .ok (.iload 5, 2) := getB' kX11_known_7 6 rfl
theorem dX11_known_189 : decode cX11_known 189 = .ok (.istore 6, 2) := getB' kX11_known_7 7 rfl
theorem dX11_known_191 : decode cX11_known 191 = .ok (.iload 6, 2) := getB' kX11_known_7 8 rfl
theorem dX11_known_193 : decode cX11_known 193 = .ok (.iconst (-1), 1) := getB' kX11_known_7 9 rfl
theorem dX11_known_194 : decode cX11_known 194 = .ok (.if_icmp .ne 9, 3) := getB' kX11_known_7 10 rfl
theorem dX11_known_197 : decode cX11_known 197 = .ok (.ldc_w 626, 3) := getB' kX11_known_7 11 rfl
def LX11_known_8 : List (Nat × Instr × Nat) := [(200, .goto 13, 3), (203, .aload_n 0, 1), (204, .getfield 85, 3), (207, .iload 6, 2), (209, .iconst 2, 1), (210, .invokevirtual 209, 3), (213, .ireturn, 1)]
theorem kX11_known_8 : chkB cX11_known LX11_known_8 = true := by decide +kernel
theorem dX11_known_200 : decode cX11_known 200 = .ok (.goto 13, 3) := getB' kX11_known_8 0 rfl
theorem dX11_known_203 : decode cX11_known 203 = .ok (.aload_n 0, 1) := getB' kX11_known_8 1 rfl
theorem dX11_known_204 : decode cX11_known 204 = .ok (.getfield 85, 3) := getB' kX11_known_8 2 rfl
theorem dX11_known_207 : decode cX11_known 207 = .ok (.iload 6, 2) := getB' kX11_known_8 3 rfl
theorem dX11_known_209 : decode cX11_known 209 = .ok (.iconst 2, 1) := getB' kX11_known_8 4 rfl
theorem dX11_known_210 : decode cX11_known 210 = .ok (.invokevirtual 209, 3) := getB' kX11_known_8 5 rfl
theorem dX11_known_213 : decode cX11_known 213 = .ok (.ireturn, 1) := getB' kX11_known_8 6 rfl
