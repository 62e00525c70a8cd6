def LX12_say_0 : List (Nat × Instr × Nat) := [(0, .aload_n 0, 1), (1, .iload_n 1, 1), (2, .invokevirtual 406, 3), (5, .ifCond .eq 11, 3), (8, .aload_n 0, 1), (9, .iload_n 2, 1), (10, .invokevirtual 566, 3), (13, .ifCond .ne 5, 3), (16, .iconst 0, 1), (17, .ireturn, 1), (18, .aload_n 0, 1), (19, .getfield 202, 3)]
theorem kX12_say_0 : chkB cX12_say LX12_say_0 = true := by decide +kernel
theorem dX12_say_0 : decode cX12_say 0 = .ok (.aload_n 0, 1) := getB' kX12_say_0 0 rfl
theorem dX12_say_1 : decode cX12_say 1 = .ok (.iload_n 1, 1) := getB' kX12_say_0 1 rfl
theorem dX12_say_2 : decode cX12_say 2 = .ok (.invokevirtual 406, 3) := getB' kX12_say_0 2 rfl
theorem dX12_say_5 : decode cX12_say 5 = .ok (.ifCond .eq 11, 3) := getB' kX12_say_0 3 rfl
theorem dX12_say_8 : decode cX12_say 8 = .ok (.aload_n 0, 1) := getB' kX12_say_0 4 rfl
theorem dX12_say_9 : decode cX12_say 9 = .ok (.iload_n 2, 1) := getB' kX12_say_0 5 rfl
theorem dX12_say_10 : decode cX12_say 10 = .ok (.invokevirtual 566, 3) := getB' kX12_say_0 6 rfl
theorem dX12_say_13 : decode cX12_say 13 = .ok (.ifCond .ne 5, 3) := getB' kX12_say_0 7 rfl
theorem dX12_say_16 : decode cX12_say 16 = .ok (.iconst 0, 1) := getB' kX12_say_0 8 rfl
theorem dX12_say_17 : decode cX12_say 17 = .ok (.ireturn, 1) := getB' kX12_say_0 9 rfl
theorem dX12_say_18 : decode cX12_say 18 = .ok (.aload_n 0, 1) := getB' kX12_say_0 10 rfl
theorem dX12_say_19 : decode cX12_say 19 = .ok (.getfield 202, 3) := getB' kX12_say_0 11 rfl
def LX12_say_1 : List (Nat × Instr × Nat) := [(22, .bipush 9, 2), (24, .iload_n 2, 1), (25, .imul, 1), (26, .iload_n 1, 1), (27, .iadd, 1), (28, .iload_n 3, 1), (29, .ifCond .eq 7, 3), (32, .iconst 1, 1), (33, .goto 4, 3), (36, .iconst 2, 1), (37, .iastore, 1), (38, .iconst 1, 1)]
theorem kX12_say_1 : chkB cX12_say LX12_say_1 = true := by decide +kernel
theorem dX12_say_22 : decode cX12_say 22 = .ok (.bipush 9, 2) := getB' kX12_say_1 0 rfl
theorem dX12_say_24 : decode cX12_say 24 = .ok (.iload_n 2, 1) := getB' kX12_say_1 1 rfl
theorem dX12_say_25 : decode cX12_say 25 = .ok (.imul, 1) := getB' kX12_say_1 2 rfl
theorem dX12_say_26 : decode cX12_say 26 = .ok (.iload_n 1, 1) := getB' kX12_say_1 3 rfl
theorem dX12_say_27 : decode cX12_say 27 = .ok (.iadd, 1) := getB' kX12_say_1 4 rfl
theorem dX12_say_28 : decode cX12_say 28 = .ok (.iload_n 3, 1) := getB' kX12_say_1 5 rfl
theorem dX12_say_29 : decode cX12_say 29 = .ok (.ifCond .eq 7, 3) := getB' kX12_say_1 6 rfl
theorem dX12_say_32 : decode cX12_say 32 = .ok (.iconst 1, 1) := getB' kX12_say_1 7 rfl
theorem dX12_say_33 : decode cX12_say 33 = .ok (.goto 4, 3) := getB' kX12_say_1 8 rfl
theorem dX12_say_36 : decode cX12_say 36 = .ok (.iconst 2, 1) := getB' kX12_say_1 9 rfl
theorem dX12_say_37 : decode cX12_say 37 = .ok (.iastore, 1) := getB' kX12_say_1 10 rfl
theorem dX12_say_38 : decode cX12_say 38 = .ok (.iconst 1, 1) := getB' kX12_say_1 11 rfl
def LX12_say_2 : List (Nat × Instr × Nat) := [(39, .ireturn, 1)]
theorem kX12_say_2 : chkB cX12_say LX12_say_2 = true := by decide +kernel
theorem dX12_say_39 : decode cX12_say 39 = .ok (.ireturn, 1) := getB' kX12_say_2 0 rfl
def LX12_isConsented_0 : List (Nat × Instr × Nat) := [(0, .iconst 0, 1), (1, .istore_n 3, 1), (2, .iconst 0, 1), (3, .istore 4, 2), (5, .iconst 0, 1), (6, .istore 5, 2), (8, .iload 5, 2), (10, .aload_n 0, 1), (11, .getfield 393, 3), (14, .if_icmp .ge 70, 3), (17, .aload_n 0, 1), (18, .iload 5, 2)]
theorem kX12_isConsented_0 : chkB cX12_isConsented LX12_isConsented_0 = true := by decide +kernel
theorem dX12_isConsented_0 : decode cX12_isConsented 0 = .ok (.iconst 0, 1) := getB' kX12_isConsented_0 0 rfl
theorem dX12_isConsented_1 : decode cX12_isConsented 1 = .ok (.istore_n 3, 1) := getB' kX12_isConsented_0 1 rfl
theorem dX12_isConsented_2 : decode cX12_isConsented 2 = .ok (.iconst 0, 1) := getB' kX12_isConsented_0 2 rfl
theorem dX12_isConsented_3 : decode cX12_isConsented 3 = .ok (.istore 4, 2) := getB' kX12_isConsented_0 3 rfl
theorem dX12_isConsented_5 : decode cX12_isConsented 5 = .ok (.iconst 0, 1) := getB' kX12_isConsented_0 4 rfl
theorem dX12_isConsented_6 : decode cX12_isConsented 6 = .ok (.istore 5, 2) := getB' kX12_isConsented_0 5 rfl
theorem dX12_isConsented_8 : decode cX12_isConsented 8 = .ok (.iload 5, 2) := getB' kX12_isConsented_0 6 rfl
theorem dX12_isConsented_10 : decode cX12_isConsented 10 = .ok (.aload_n 0, 1) := getB' kX12_isConsented_0 7 rfl
theorem dX12_isConsented_11 : decode cX12_isConsented 11 = .ok (.getfield 393, 3) := getB' kX12_isConsented_0 8 rfl
theorem dX12_isConsented_14 : decode cX12_isConsented 14 = .ok (.if_icmp .ge 70, 3) := getB' kX12_isConsented_0 9 rfl
theorem dX12_isConsented_17 : decode cX12_isConsented 17 = .ok (.aload_n 0, 1) := getB' kX12_isConsented_0 10 rfl
theorem dX12_isConsented_18 : decode cX12_isConsented 18 = .ok (.iload 5, 2) := getB' kX12_isConsented_0 11 rfl
def LX12_isConsented_1 : List (Nat × Instr × Nat) := [(20, .iload_n 2, 1), (21, .invokevirtual 412, 3), (24, .ifCond .ne 6, 3), (27, .goto 51, 3), (30, .aload_n 0, 1), (31, .getfield 202, 3), (34, .bipush 9, 2), (36, .iload_n 1, 1), (37, .imul, 1), (38, .iload 5, 2), (40, .iadd, 1), (41, .iaload, 1)]
theorem kX12_isConsented_1 : chkB cX12_isConsented LX12_isConsented_1 = true := by decide +kernel
theorem dX12_isConsented_20 : decode cX12_isConsented 20 = .ok (.iload_n 2, 1) := getB' kX12_isConsented_1 0 rfl
theorem dX12_isConsented_21 : decode cX12_isConsented 21 = .ok (.invokevirtual 412, 3) := getB' kX12_isConsented_1 1 rfl
theorem dX12_isConsented_24 : decode cX12_isConsented 24 = .ok (.ifCond .ne 6, 3) := getB' kX12_isConsented_1 2 rfl
theorem dX12_isConsented_27 : decode cX12_isConsented 27 = .ok (.goto 51, 3) := getB' kX12_isConsented_1 3 rfl
theorem dX12_isConsented_30 : decode cX12_isConsented 30 = .ok (.aload_n 0, 1) := getB' kX12_isConsented_1 4 rfl
theorem dX12_isConsented_31 : decode cX12_isConsented 31 = .ok (.getfield 202, 3) := getB' kX12_isConsented_1 5 rfl
theorem dX12_isConsented_34 : decode cX12_isConsented 34 = .ok (.bipush 9, 2) := getB' kX12_isConsented_1 6 rfl
theorem dX12_isConsented_36 : decode cX12_isConsented 36 = .ok (.iload_n 1, 1) := getB' kX12_isConsented_1 7 rfl
theorem dX12_isConsented_37 : decode cX12_isConsented 37 = .ok (.imul, 1) := getB' kX12_isConsented_1 8 rfl
theorem dX12_isConsented_38 : decode cX12_isConsented 38 = .ok (.iload 5, 2) := getB' kX12_isConsented_1 9 rfl
theorem dX12_isConsented_40 : decode cX12_isConsented 40 = .ok (.iadd, 1) := getB' kX12_isConsented_1 10 rfl
theorem dX12_isConsented_41 : decode cX12_isConsented 41 = .ok (.iaload, 1) := getB' kX12_isConsented_1 11 rfl
def LX12_isConsented_2 : List (Nat × Instr × Nat) := [(42, .iconst 2, 1), (43, .if_icmp .ne 5, 3), (46, .iconst 0, 1), (47, .ireturn, 1), (48, .iload_n 3, 1), (49, .iconst 1, 1), (50, .iadd, 1), (51, .istore_n 3, 1), (52, .iload 4, 2), (54, .aload_n 0, 1), (55, .getfield 202, 3), (58, .bipush 9, 2)]
theorem kX12_isConsented_2 : chkB cX12_isConsented LX12_isConsented_2 = true := by decide +kernel
theorem dX12_isConsented_42 : decode cX12_isConsented 42 = .ok (.iconst 2, 1) := getB' kX12_isConsented_2 0 rfl
theorem dX12_isConsented_43 : decode cX12_isConsented 43 = .ok (.if_icmp .ne 5, 3) := getB' kX12_isConsented_2 1 rfl
theorem dX12_isConsented_46 : decode cX12_isConsented 46 = .ok (.iconst 0, 1) := getB' kX12_isConsented_2 2 rfl
theorem dX12_isConsented_47 : decode cX12_isConsented 47 = .ok (.ireturn, 1) := getB' kX12_isConsented_2 3 rfl
theorem dX12_isConsented_48 : decode cX12_isConsented 48 = .ok (.iload_n 3, 1) := getB' kX12_isConsented_2 4 rfl
theorem dX12_isConsented_49 : decode cX12_isConsented 49 = .ok (.iconst 1, 1) := getB' kX12_isConsented_2 5 rfl
theorem dX12_isConsented_50 : decode cX12_isConsented 50 = .ok (.iadd, 1) := getB' kX12_isConsented_2 6 rfl
theorem dX12_isConsented_51 : decode cX12_isConsented 51 = .ok (.istore_n 3, 1) := getB' kX12_isConsented_2 7 rfl
theorem dX12_isConsented_52 : decode cX12_isConsented 52 = .ok (.iload 4, 2) := getB' kX12_isConsented_2 8 rfl
theorem dX12_isConsented_54 : decode cX12_isConsented 54 = .ok (.aload_n 0, 1) := getB' kX12_isConsented_2 9 rfl
theorem dX12_isConsented_55 : decode cX12_isConsented 55 = .ok (.getfield 202, 3) := getB' kX12_isConsented_2 10 rfl
theorem dX12_isConsented_58 : decode cX12_isConsented 58 = .ok (.bipush 9, 2) := getB' kX12_isConsented_2 11 rfl
def LX12_isConsented_3 : List (Nat × Instr × Nat) := [(60, .iload_n 1, 1), (61, .imul, 1), (62, .iload 5, 2), (64, .iadd, 1), (65, .iaload, 1), (66, .iconst 1, 1), (67, .if_icmp .ne 7, 3), (70, .iconst 1, 1), (71, .goto 4, 3), (74, .iconst 0, 1), (75, .iadd, 1), (76, .istore 4, 2)]
theorem kX12_isConsented_3 : chkB cX12_isConsented LX12_isConsented_3 = true := by decide +kernel
theorem dX12_isConsented_60 : decode cX12_isConsented 60 = .ok (.iload_n 1, 1) := getB' kX12_isConsented_3 0 rfl
theorem dX12_isConsented_61 : decode cX12_isConsented 61 = .ok (.imul, 1) := getB' kX12_isConsented_3 1 rfl
theorem dX12_isConsented_62 : decode cX12_isConsented 62 = .ok (.iload 5, 2) := getB' kX12_isConsented_3 2 rfl
theorem dX12_isConsented_64 : decode cX12_isConsented 64 = .ok (.iadd, 1) := getB' kX12_isConsented_3 3 rfl
theorem dX12_isConsented_65 : decode cX12_isConsented 65 = .ok (.iaload, 1) := getB' kX12_isConsented_3 4 rfl
theorem dX12_isConsented_66 : decode cX12_isConsented 66 = .ok (.iconst 1, 1) := getB' kX12_isConsented_3 5 rfl
theorem dX12_isConsented_67 : decode cX12_isConsented 67 = .ok (.if_icmp .ne 7, 3) := getB' kX12_isConsented_3 6 rfl
theorem dX12_isConsented_70 : decode cX12_isConsented 70 = .ok (.iconst 1, 1) := getB' kX12_isConsented_3 7 rfl
theorem dX12_isConsented_71 : decode cX12_isConsented 71 = .ok (.goto 4, 3) := getB' kX12_isConsented_3 8 rfl
theorem dX12_isConsented_74 : decode cX12_isConsented 74 = .ok (.iconst 0, 1) := getB' kX12_isConsented_3 9 rfl
theorem dX12_isConsented_75 : decode cX12_isConsented 75 = .ok (.iadd, 1) := getB' kX12_isConsented_3 10 rfl
theorem dX12_isConsented_76 : decode cX12_isConsented 76 = .ok (.istore 4, 2) := getB' kX12_isConsented_3 11 rfl
def LX12_isConsented_4 : List (Nat × Instr × Nat) := [(78, .iinc 5 1, 3), (81, .goto (-73), 3), (84, .iconst 2, 1), (85, .iload 4, 2), (87, .imul, 1), (88, .iload_n 3, 1), (89, .if_icmp .le 7, 3), (92, .iconst 1, 1), (93, .goto 4, 3), (96, .iconst 0, 1), (97, .ireturn, 1)]
theorem kX12_isConsented_4 : chkB cX12_isConsented LX12_isConsented_4 = true := by decide +kernel
theorem dX12_isConsented_78 : decode cX12_isConsented 78 = .ok (.iinc 5 1, 3) := getB' kX12_isConsented_4 0 rfl
theorem dX12_isConsented_81 : decode cX12_isConsented 81 = .ok (.goto (-73), 3) := getB' kX12_isConsented_4 1 rfl
theorem dX12_isConsented_84 : decode cX12_isConsented 84 = .ok (.iconst 2, 1) := getB' kX12_isConsented_4 2 rfl
theorem dX12_isConsented_85 : decode cX12_isConsented 85 = .ok (.iload 4, 2) := getB' kX12_isConsented_4 3 rfl
theorem dX12_isConsented_87 : decode cX12_isConsented 87 = .ok (.imul, 1) := getB' kX12_isConsented_4 4 rfl
theorem dX12_isConsented_88 : decode cX12_isConsented 88 = .ok (.iload_n 3, 1) := getB' kX12_isConsented_4 5 rfl
theorem dX12_isConsented_89 : decode cX12_isConsented 89 = .ok (.if_icmp .le 7, 3) := getB' kX12_isConsented_4 6 rfl
theorem dX12_isConsented_92 : decode cX12_isConsented 92 = .ok (.iconst 1, 1) := getB' kX12_isConsented_4 7 rfl
theorem dX12_isConsented_93 : decode cX12_isConsented 93 = .ok (.goto 4, 3) := getB' kX12_isConsented_4 8 rfl
theorem dX12_isConsented_96 : decode cX12_isConsented 96 = .ok (.iconst 0, 1) := getB' kX12_isConsented_4 9 rfl
theorem dX12_isConsented_97 : decode cX12_isConsented 97 = .ok (.ireturn, 1) := getB' kX12_isConsented_4 10 rfl
def LX12_nearPlaces_0 : List (Nat × Instr × Nat) := [(0, .iconst 0, 1), (1, .istore 4, 2), (3, .iconst 0, 1), (4, .istore 5, 2), (6, .iload 5, 2), (8, .aload_n 0, 1), (9, .getfield 375, 3), (12, .if_icmp .ge 46, 3), (15, .iload 4, 2), (17, .aload_n 0, 1), (18, .getfield 35, 3), (21, .iload 5, 2)]
theorem kX12_nearPlaces_0 : chkB cX12_nearPlaces LX12_nearPlaces_0 = true := by decide +kernel
theorem dX12_nearPlaces_0 : decode cX12_nearPlaces 0 = .ok (.iconst 0, 1) := getB' kX12_nearPlaces_0 0 rfl
theorem dX12_nearPlaces_1 : decode cX12_nearPlaces 1 = .ok (.istore 4, 2) := getB' kX12_nearPlaces_0 1 rfl
theorem dX12_nearPlaces_3 : decode cX12_nearPlaces 3 = .ok (.iconst 0, 1) := getB' kX12_nearPlaces_0 2 rfl
theorem dX12_nearPlaces_4 : decode cX12_nearPlaces 4 = .ok (.istore 5, 2) := getB' kX12_nearPlaces_0 3 rfl
theorem dX12_nearPlaces_6 : decode cX12_nearPlaces 6 = .ok (.iload 5, 2) := getB' kX12_nearPlaces_0 4 rfl
theorem dX12_nearPlaces_8 : decode cX12_nearPlaces 8 = .ok (.aload_n 0, 1) := getB' kX12_nearPlaces_0 5 rfl
theorem dX12_nearPlaces_9 : decode cX12_nearPlaces 9 = .ok (.getfield 375, 3) := getB' kX12_nearPlaces_0 6 rfl
theorem dX12_nearPlaces_12 : decode cX12_nearPlaces 12 = .ok (.if_icmp .ge 46, 3) := getB' kX12_nearPlaces_0 7 rfl
theorem dX12_nearPlaces_15 : decode cX12_nearPlaces 15 = .ok (.iload 4, 2) := getB' kX12_nearPlaces_0 8 rfl
theorem dX12_nearPlaces_17 : decode cX12_nearPlaces 17 = .ok (.aload_n 0, 1) := getB' kX12_nearPlaces_0 9 rfl
theorem dX12_nearPlaces_18 : decode cX12_nearPlaces 18 = .ok (.getfield 35, 3) := getB' kX12_nearPlaces_0 10 rfl
theorem dX12_nearPlaces_21 : decode cX12_nearPlaces 21 = .ok (.iload 5, 2) := getB' kX12_nearPlaces_0 11 rfl
def LX12_nearPlaces_1 : List (Nat × Instr × Nat) := [(23, .iaload, 1), (24, .iload_n 1, 1), (25, .if_icmp .ne 23, 3), (28, .aload_n 0, 1), (29, .aload_n 0, 1), (30, .getfield 41, 3), (33, .iload 5, 2), (35, .iaload, 1), (36, .iload_n 2, 1), (37, .invokevirtual 389, 3), (40, .iload_n 3, 1), (41, .if_icmp .gt 7, 3)]
theorem kX12_nearPlaces_1 : chkB cX12_nearPlaces LX12_nearPlaces_1 = true := by decide +kernel
theorem dX12_nearPlaces_23 : decode cX12_nearPlaces 23 = .ok (.iaload, 1) := getB' kX12_nearPlaces_1 0 rfl
theorem dX12_nearPlaces_24 : decode cX12_nearPlaces 24 = .ok (.iload_n 1, 1) := getB' kX12_nearPlaces_1 1 rfl
theorem dX12_nearPlaces_25 : decode cX12_nearPlaces 25 = .ok (.if_icmp .ne 23, 3) := getB' kX12_nearPlaces_1 2 rfl
theorem dX12_nearPlaces_28 : decode cX12_nearPlaces 28 = .ok (.aload_n 0, 1) := getB' kX12_nearPlaces_1 3 rfl
theorem dX12_nearPlaces_29 : decode cX12_nearPlaces 29 = .ok (.aload_n 0, 1) := getB' kX12_nearPlaces_1 4 rfl
theorem dX12_nearPlaces_30 : decode cX12_nearPlaces 30 = .ok (.getfield 41, 3) := getB' kX12_nearPlaces_1 5 rfl
theorem dX12_nearPlaces_33 : decode cX12_nearPlaces 33 = .ok (.iload 5, 2) := getB' kX12_nearPlaces_1 6 rfl
theorem dX12_nearPlaces_35 : decode cX12_nearPlaces 35 = .ok (.iaload, 1) := getB' kX12_nearPlaces_1 7 rfl
theorem dX12_nearPlaces_36 : decode cX12_nearPlaces 36 = .ok (.iload_n 2, 1) := getB' kX12_nearPlaces_1 8 rfl
theorem dX12_nearPlaces_37 : decode cX12_nearPlaces 37 = .ok (.invokevirtual 389, 3) := getB' kX12_nearPlaces_1 9 rfl
theorem dX12_nearPlaces_40 : decode cX12_nearPlaces 40 = .ok (.iload_n 3, 1) := getB' kX12_nearPlaces_1 10 rfl
theorem dX12_nearPlaces_41 : decode cX12_nearPlaces 41 = .ok (.if_icmp .gt 7, 3) := getB' kX12_nearPlaces_1 11 rfl
def LX12_nearPlaces_2 : List (Nat × Instr × Nat) := [(44, .iconst 1, 1), (45, .goto 4, 3), (48, .iconst 0, 1), (49, .iadd, 1), (50, .istore 4, 2), (52, .iinc 5 1, 3), (55, .goto (-49), 3), (58, .iload 4, 2), (60, .ireturn, 1)]
theorem kX12_nearPlaces_2 : chkB cX12_nearPlaces LX12_nearPlaces_2 = true := by decide +kernel
theorem dX12_nearPlaces_44 : decode cX12_nearPlaces 44 = .ok (.iconst 1, 1) := getB' kX12_nearPlaces_2 0 rfl
theorem dX12_nearPlaces_45 : decode cX12_nearPlaces 45 = .ok (.goto 4, 3) := getB' kX12_nearPlaces_2 1 rfl
theorem dX12_nearPlaces_48 : decode cX12_nearPlaces 48 = .ok (.iconst 0, 1) := getB' kX12_nearPlaces_2 2 rfl
theorem dX12_nearPlaces_49 : decode cX12_nearPlaces 49 = .ok (.iadd, 1) := getB' kX12_nearPlaces_2 3 rfl
theorem dX12_nearPlaces_50 : decode cX12_nearPlaces 50 = .ok (.istore 4, 2) := getB' kX12_nearPlaces_2 4 rfl
theorem dX12_nearPlaces_52 : decode cX12_nearPlaces 52 = .ok (.iinc 5 1, 3) := getB' kX12_nearPlaces_2 5 rfl
theorem dX12_nearPlaces_55 : decode cX12_nearPlaces 55 = .ok (.goto (-49), 3) := getB' kX12_nearPlaces_2 6 rfl
theorem dX12_nearPlaces_58 : decode cX12_nearPlaces 58 = .ok (.iload 4, 2) := getB' kX12_nearPlaces_2 7 rfl
theorem dX12_nearPlaces_60 : decode cX12_nearPlaces 60 = .ok (.ireturn, 1) := getB' kX12_nearPlaces_2 8 rfl
def LX12_othersNear_0 : List (Nat × Instr × Nat) := [(0, .iconst 0, 1), (1, .istore_n 3, 1), (2, .iconst 0, 1), (3, .istore 4, 2), (5, .iload 4, 2), (7, .aload_n 0, 1), (8, .getfield 375, 3), (11, .if_icmp .ge 53, 3), (14, .iload_n 3, 1), (15, .aload_n 0, 1), (16, .iload 4, 2), (18, .invokevirtual 433, 3)]
theorem kX12_othersNear_0 : chkB cX12_othersNear LX12_othersNear_0 = true := by decide +kernel
theorem dX12_othersNear_0 : decode cX12_othersNear 0 = .ok (.iconst 0, 1) := getB' kX12_othersNear_0 0 rfl
theorem dX12_othersNear_1 : decode cX12_othersNear 1 = .ok (.istore_n 3, 1) := getB' kX12_othersNear_0 1 rfl
theorem dX12_othersNear_2 : decode cX12_othersNear 2 = .ok (.iconst 0, 1) := getB' kX12_othersNear_0 2 rfl
theorem dX12_othersNear_3 : decode cX12_othersNear 3 = .ok (.istore 4, 2) := getB' kX12_othersNear_0 3 rfl
theorem dX12_othersNear_5 : decode cX12_othersNear 5 = .ok (.iload 4, 2) := getB' kX12_othersNear_0 4 rfl
theorem dX12_othersNear_7 : decode cX12_othersNear 7 = .ok (.aload_n 0, 1) := getB' kX12_othersNear_0 5 rfl
theorem dX12_othersNear_8 : decode cX12_othersNear 8 = .ok (.getfield 375, 3) := getB' kX12_othersNear_0 6 rfl
theorem dX12_othersNear_11 : decode cX12_othersNear 11 = .ok (.if_icmp .ge 53, 3) := getB' kX12_othersNear_0 7 rfl
theorem dX12_othersNear_14 : decode cX12_othersNear 14 = .ok (.iload_n 3, 1) := getB' kX12_othersNear_0 8 rfl
theorem dX12_othersNear_15 : decode cX12_othersNear 15 = .ok (.aload_n 0, 1) := getB' kX12_othersNear_0 9 rfl
theorem dX12_othersNear_16 : decode cX12_othersNear 16 = .ok (.iload 4, 2) := getB' kX12_othersNear_0 10 rfl
theorem dX12_othersNear_18 : decode cX12_othersNear 18 = .ok (.invokevirtual 433, 3) := getB' kX12_othersNear_0 11 rfl
def LX12_othersNear_1 : List (Nat × Instr × Nat) := [(21, .ifCond .eq 34, 3), (24, .aload_n 0, 1), (25, .getfield 38, 3), (28, .iload 4, 2), (30, .iaload, 1), (31, .iload_n 1, 1), (32, .if_icmp .eq 23, 3), (35, .aload_n 0, 1), (36, .aload_n 0, 1), (37, .getfield 41, 3), (40, .iload 4, 2), (42, .iaload, 1)]
theorem kX12_othersNear_1 : chkB cX12_othersNear LX12_othersNear_1 = true := by decide +kernel
theorem dX12_othersNear_21 : decode cX12_othersNear 21 = .ok (.ifCond .eq 34, 3) := getB' kX12_othersNear_1 0 rfl
theorem dX12_othersNear_24 : decode cX12_othersNear 24 = .ok (.aload_n 0, 1) := getB' kX12_othersNear_1 1 rfl
theorem dX12_othersNear_25 : decode cX12_othersNear 25 = .ok (.getfield 38, 3) := getB' kX12_othersNear_1 2 rfl
theorem dX12_othersNear_28 : decode cX12_othersNear 28 = .ok (.iload 4, 2) := getB' kX12_othersNear_1 3 rfl
theorem dX12_othersNear_30 : decode cX12_othersNear 30 = .ok (.iaload, 1) := getB' kX12_othersNear_1 4 rfl
theorem dX12_othersNear_31 : decode cX12_othersNear 31 = .ok (.iload_n 1, 1) := getB' kX12_othersNear_1 5 rfl
theorem dX12_othersNear_32 : decode cX12_othersNear 32 = .ok (.if_icmp .eq 23, 3) := getB' kX12_othersNear_1 6 rfl
theorem dX12_othersNear_35 : decode cX12_othersNear 35 = .ok (.aload_n 0, 1) := getB' kX12_othersNear_1 7 rfl
theorem dX12_othersNear_36 : decode cX12_othersNear 36 = .ok (.aload_n 0, 1) := getB' kX12_othersNear_1 8 rfl
theorem dX12_othersNear_37 : decode cX12_othersNear 37 = .ok (.getfield 41, 3) := getB' kX12_othersNear_1 9 rfl
theorem dX12_othersNear_40 : decode cX12_othersNear 40 = .ok (.iload 4, 2) := getB' kX12_othersNear_1 10 rfl
theorem dX12_othersNear_42 : decode cX12_othersNear 42 = .ok (.iaload, 1) := getB' kX12_othersNear_1 11 rfl
def LX12_othersNear_2 : List (Nat × Instr × Nat) := [(43, .iload_n 2, 1), (44, .invokevirtual 389, 3), (47, .iconst 3, 1), (48, .if_icmp .gt 7, 3), (51, .iconst 1, 1), (52, .goto 4, 3), (55, .iconst 0, 1), (56, .iadd, 1), (57, .istore_n 3, 1), (58, .iinc 4 1, 3), (61, .goto (-56), 3), (64, .iload_n 3, 1)]
theorem kX12_othersNear_2 : chkB cX12_othersNear LX12_othersNear_2 = true := by decide +kernel
theorem dX12_othersNear_43 : decode cX12_othersNear 43 = .ok (.iload_n 2, 1) := getB' kX12_othersNear_2 0 rfl
theorem dX12_othersNear_44 : decode cX12_othersNear 44 = .ok (.invokevirtual 389, 3) := getB' kX12_othersNear_2 1 rfl
theorem dX12_othersNear_47 : decode cX12_othersNear 47 = .ok (.iconst 3, 1) := getB' kX12_othersNear_2 2 rfl
theorem dX12_othersNear_48 : decode cX12_othersNear 48 = .ok (.if_icmp .gt 7, 3) := getB' kX12_othersNear_2 3 rfl
theorem dX12_othersNear_51 : decode cX12_othersNear 51 = .ok (.iconst 1, 1) := getB' kX12_othersNear_2 4 rfl
theorem dX12_othersNear_52 : decode cX12_othersNear 52 = .ok (.goto 4, 3) := getB' kX12_othersNear_2 5 rfl
theorem dX12_othersNear_55 : decode cX12_othersNear 55 = .ok (.iconst 0, 1) := getB' kX12_othersNear_2 6 rfl
theorem dX12_othersNear_56 : decode cX12_othersNear 56 = .ok (.iadd, 1) := getB' kX12_othersNear_2 7 rfl
theorem dX12_othersNear_57 : decode cX12_othersNear 57 = .ok (.istore_n 3, 1) := getB' kX12_othersNear_2 8 rfl
theorem dX12_othersNear_58 : decode cX12_othersNear 58 = .ok (.iinc 4 1, 3) := getB' kX12_othersNear_2 9 rfl
theorem dX12_othersNear_61 : decode cX12_othersNear 61 = .ok (.goto (-56), 3) := getB' kX12_othersNear_2 10 rfl
theorem dX12_othersNear_64 : decode cX12_othersNear 64 = .ok (.iload_n 3, 1) := getB' kX12_othersNear_2 11 rfl
def LX12_othersNear_3 : List (Nat × Instr × Nat) := [(65, .ireturn, 1)]
theorem kX12_othersNear_3 : chkB cX12_othersNear LX12_othersNear_3 = true := by decide +kernel
theorem dX12_othersNear_65 : decode cX12_othersNear 65 = .ok (.ireturn, 1) := getB' kX12_othersNear_3 0 rfl
def LX12_rankAt_0 : List (Nat × Instr × Nat) := [(0, .iconst 0, 1), (1, .istore_n 2, 1), (2, .iconst 0, 1), (3, .istore_n 3, 1), (4, .iload_n 3, 1), (5, .aload_n 0, 1), (6, .getfield 375, 3), (9, .if_icmp .ge 49, 3), (12, .aload_n 0, 1), (13, .getfield 35, 3), (16, .iload_n 3, 1), (17, .iaload, 1)]
theorem kX12_rankAt_0 : chkB cX12_rankAt LX12_rankAt_0 = true := by decide +kernel
theorem dX12_rankAt_0 : decode cX12_rankAt 0 = .ok (.iconst 0, 1) := getB' kX12_rankAt_0 0 rfl
theorem dX12_rankAt_1 : decode cX12_rankAt 1 = .ok (.istore_n 2, 1) := getB' kX12_rankAt_0 1 rfl
theorem dX12_rankAt_2 : decode cX12_rankAt 2 = .ok (.iconst 0, 1) := getB' kX12_rankAt_0 2 rfl
theorem dX12_rankAt_3 : decode cX12_rankAt 3 = .ok (.istore_n 3, 1) := getB' kX12_rankAt_0 3 rfl
theorem dX12_rankAt_4 : decode cX12_rankAt 4 = .ok (.iload_n 3, 1) := getB' kX12_rankAt_0 4 rfl
theorem dX12_rankAt_5 : decode cX12_rankAt 5 = .ok (.aload_n 0, 1) := getB' kX12_rankAt_0 5 rfl
theorem dX12_rankAt_6 : decode cX12_rankAt 6 = .ok (.getfield 375, 3) := getB' kX12_rankAt_0 6 rfl
theorem dX12_rankAt_9 : decode cX12_rankAt 9 = .ok (.if_icmp .ge 49, 3) := getB' kX12_rankAt_0 7 rfl
theorem dX12_rankAt_12 : decode cX12_rankAt 12 = .ok (.aload_n 0, 1) := getB' kX12_rankAt_0 8 rfl
theorem dX12_rankAt_13 : decode cX12_rankAt 13 = .ok (.getfield 35, 3) := getB' kX12_rankAt_0 9 rfl
theorem dX12_rankAt_16 : decode cX12_rankAt 16 = .ok (.iload_n 3, 1) := getB' kX12_rankAt_0 10 rfl
theorem dX12_rankAt_17 : decode cX12_rankAt 17 = .ok (.iaload, 1) := getB' kX12_rankAt_0 11 rfl
def LX12_rankAt_1 : List (Nat × Instr × Nat) := [(18, .iconst 3, 1), (19, .if_icmp .ne 31, 3), (22, .aload_n 0, 1), (23, .iload_n 1, 1), (24, .iload_n 3, 1), (25, .invokevirtual 569, 3), (28, .ifCond .eq 22, 3), (31, .aload_n 0, 1), (32, .getfield 47, 3), (35, .iload_n 3, 1), (36, .iaload, 1), (37, .iload_n 2, 1)]
theorem kX12_rankAt_1 : chkB cX12_rankAt LX12_rankAt_1 = true := by decide +kernel
theorem dX12_rankAt_18 : decode cX12_rankAt 18 = .ok (.iconst 3, 1) := getB' kX12_rankAt_1 0 rfl
theorem dX12_rankAt_19 : decode cX12_rankAt 19 = .ok (.if_icmp .ne 31, 3) := getB' kX12_rankAt_1 1 rfl
theorem dX12_rankAt_22 : decode cX12_rankAt 22 = .ok (.aload_n 0, 1) := getB' kX12_rankAt_1 2 rfl
theorem dX12_rankAt_23 : decode cX12_rankAt 23 = .ok (.iload_n 1, 1) := getB' kX12_rankAt_1 3 rfl
theorem dX12_rankAt_24 : decode cX12_rankAt 24 = .ok (.iload_n 3, 1) := getB' kX12_rankAt_1 4 rfl
theorem dX12_rankAt_25 : decode cX12_rankAt 25 = .ok (.invokevirtual 569, 3) := getB' kX12_rankAt_1 5 rfl
theorem dX12_rankAt_28 : decode cX12_rankAt 28 = .ok (.ifCond .eq 22, 3) := getB' kX12_rankAt_1 6 rfl
theorem dX12_rankAt_31 : decode cX12_rankAt 31 = .ok (.aload_n 0, 1) := getB' kX12_rankAt_1 7 rfl
theorem dX12_rankAt_32 : decode cX12_rankAt 32 = .ok (.getfield 47, 3) := getB' kX12_rankAt_1 8 rfl
theorem dX12_rankAt_35 : decode cX12_rankAt 35 = .ok (.iload_n 3, 1) := getB' kX12_rankAt_1 9 rfl
theorem dX12_rankAt_36 : decode cX12_rankAt 36 = .ok (.iaload, 1) := getB' kX12_rankAt_1 10 rfl
theorem dX12_rankAt_37 : decode cX12_rankAt 37 = .ok (.iload_n 2, 1) := getB' kX12_rankAt_1 11 rfl
def LX12_rankAt_2 : List (Nat × Instr × Nat) := [(38, .if_icmp .le 12, 3), (41, .aload_n 0, 1), (42, .getfield 47, 3), (45, .iload_n 3, 1), (46, .iaload, 1), (47, .goto 4, 3), (50, .iload_n 2, 1), (51, .istore_n 2, 1), (52, .iinc 3 1, 3), (55, .goto (-51), 3), (58, .iload_n 2, 1), (59, .ireturn, 1)]
theorem kX12_rankAt_2 : chkB cX12_rankAt LX12_rankAt_2 = true := by decide +kernel
theorem dX12_rankAt_38 : decode cX12_rankAt 38 = .ok (.if_icmp .le 12, 3) := getB' kX12_rankAt_2 0 rfl
theorem dX12_rankAt_41 : decode cX12_rankAt 41 = .ok (.aload_n 0, 1) := getB' kX12_rankAt_2 1 rfl
theorem dX12_rankAt_42 : decode cX12_rankAt 42 = .ok (.getfield 47, 3) := getB' kX12_rankAt_2 2 rfl
theorem dX12_rankAt_45 : decode cX12_rankAt 45 = .ok (.iload_n 3, 1) := getB' kX12_rankAt_2 3 rfl
theorem dX12_rankAt_46 : decode cX12_rankAt 46 = .ok (.iaload, 1) := getB' kX12_rankAt_2 4 rfl
theorem dX12_rankAt_47 : decode cX12_rankAt 47 = .ok (.goto 4, 3) := getB' kX12_rankAt_2 5 rfl
theorem dX12_rankAt_50 : decode cX12_rankAt 50 = .ok (.iload_n 2, 1) := getB' kX12_rankAt_2 6 rfl
theorem dX12_rankAt_51 : decode cX12_rankAt 51 = .ok (.istore_n 2, 1) := getB' kX12_rankAt_2 7 rfl
theorem dX12_rankAt_52 : decode cX12_rankAt 52 = .ok (.iinc 3 1, 3) := getB' kX12_rankAt_2 8 rfl
theorem dX12_rankAt_55 : decode cX12_rankAt 55 = .ok (.goto (-51), 3) := getB' kX12_rankAt_2 9 rfl
theorem dX12_rankAt_58 : decode cX12_rankAt 58 = .ok (.iload_n 2, 1) := getB' kX12_rankAt_2 10 rfl
theorem dX12_rankAt_59 : decode cX12_rankAt 59 = .ok (.ireturn, 1) := getB' kX12_rankAt_2 11 rfl
def LX12_valueOf_0 : List (Nat × Instr × Nat) := [(0, .aload_n 0, 1), (1, .getfield 169, 3), (4, .iload_n 2, 1), (5, .iaload, 1), (6, .istore 4, 2), (8, .iload_n 1, 1), (9, .tableswitch 181 0 12 #[67, 74, 81, 101, 109, 117, 124, 133, 142, 155, 162, 169, 175], 67), (76, .aload_n 0, 1), (77, .getfield 163, 3), (80, .iload_n 2, 1), (81, .iaload, 1), (82, .ireturn, 1)]
theorem kX12_valueOf_0 : chkB cX12_valueOf LX12_valueOf_0 = true := by decide +kernel
theorem dX12_valueOf_0 : decode cX12_valueOf 0 = .ok (.aload_n 0, 1) := getB' kX12_valueOf_0 0 rfl
theorem dX12_valueOf_1 : decode cX12_valueOf 1 = .ok (.getfield 169, 3) := getB' kX12_valueOf_0 1 rfl
theorem dX12_valueOf_4 : decode cX12_valueOf 4 = .ok (.iload_n 2, 1) := getB' kX12_valueOf_0 2 rfl
theorem dX12_valueOf_5 : decode cX12_valueOf 5 = .ok (.iaload, 1) := getB' kX12_valueOf_0 3 rfl
theorem dX12_valueOf_6 : decode cX12_valueOf 6 = .ok (.istore 4, 2) := getB' kX12_valueOf_0 4 rfl
theorem dX12_valueOf_8 : decode cX12_valueOf 8 = .ok (.iload_n 1, 1) := getB' kX12_valueOf_0 5 rfl
theorem dX12_valueOf_9 : decode cX12_valueOf 9 = .ok (.tableswitch 181 0 12 #[67, 74, 81, 101, 109, 117, 124, 133, 142, 155, 162, 169, 175], 67) := getB' kX12_valueOf_0 6 rfl
theorem dX12_valueOf_76 : decode cX12_valueOf 76 = .ok (.aload_n 0, 1) := getB' kX12_valueOf_0 7 rfl
theorem dX12_valueOf_77 : decode cX12_valueOf 77 = .ok (.getfield 163, 3) := getB' kX12_valueOf_0 8 rfl
theorem dX12_valueOf_80 : decode cX12_valueOf 80 = .ok (.iload_n 2, 1) := getB' kX12_valueOf_0 9 rfl
theorem dX12_valueOf_81 : decode cX12_valueOf 81 = .ok (.iaload, 1) := getB' kX12_valueOf_0 10 rfl
theorem dX12_valueOf_82 : decode cX12_valueOf 82 = .ok (.ireturn, 1) := getB' kX12_valueOf_0 11 rfl
def LX12_valueOf_1 : List (Nat × Instr × Nat) := [(83, .aload_n 0, 1), (84, .getfield 166, 3), (87, .iload_n 2, 1), (88, .iaload, 1), (89, .ireturn, 1), (90, .aload_n 0, 1), (91, .aload_n 0, 1), (92, .getfield 166, 3), (95, .iload_n 2, 1), (96, .iaload, 1), (97, .iload_n 3, 1), (98, .invokevirtual 412, 3)]
theorem kX12_valueOf_1 : chkB cX12_valueOf LX12_valueOf_1 = true := by decide +kernel
theorem dX12_valueOf_83 : decode cX12_valueOf 83 = .ok (.aload_n 0, 1) := getB' kX12_valueOf_1 0 rfl
theorem dX12_valueOf_84 : decode cX12_valueOf 84 = .ok (.getfield 166, 3) := getB' kX12_valueOf_1 1 rfl
theorem dX12_valueOf_87 : decode cX12_valueOf 87 = .ok (.iload_n 2, 1) := getB' kX12_valueOf_1 2 rfl
theorem dX12_valueOf_88 : decode cX12_valueOf 88 = .ok (.iaload, 1) := getB' kX12_valueOf_1 3 rfl
theorem dX12_valueOf_89 : decode cX12_valueOf 89 = .ok (.ireturn, 1) := getB' kX12_valueOf_1 4 rfl
theorem dX12_valueOf_90 : decode cX12_valueOf 90 = .ok (.aload_n 0, 1) := getB' kX12_valueOf_1 5 rfl
theorem dX12_valueOf_91 : decode cX12_valueOf 91 = .ok (.aload_n 0, 1) := getB' kX12_valueOf_1 6 rfl
theorem dX12_valueOf_92 : decode cX12_valueOf 92 = .ok (.getfield 166, 3) := getB' kX12_valueOf_1 7 rfl
theorem dX12_valueOf_95 : decode cX12_valueOf 95 = .ok (.iload_n 2, 1) := getB' kX12_valueOf_1 8 rfl
theorem dX12_valueOf_96 : decode cX12_valueOf 96 = .ok (.iaload, 1) := getB' kX12_valueOf_1 9 rfl
theorem dX12_valueOf_97 : decode cX12_valueOf 97 = .ok (.iload_n 3, 1) := getB' kX12_valueOf_1 10 rfl
theorem dX12_valueOf_98 : decode cX12_valueOf 98 = .ok (.invokevirtual 412, 3) := getB' kX12_valueOf_1 11 rfl
def LX12_valueOf_2 : List (Nat × Instr × Nat) := [(101, .ifCond .eq 7, 3), (104, .iconst 1, 1), (105, .goto 4, 3), (108, .iconst 0, 1), (109, .ireturn, 1), (110, .aload_n 0, 1), (111, .getfield 16, 3), (114, .iload 4, 2), (116, .iaload, 1), (117, .ireturn, 1), (118, .aload_n 0, 1), (119, .getfield 20, 3)]
theorem kX12_valueOf_2 : chkB cX12_valueOf LX12_valueOf_2 = true := by decide +kernel
theorem dX12_valueOf_101 : decode cX12_valueOf 101 = .ok (.ifCond .eq 7, 3) := getB' kX12_valueOf_2 0 rfl
theorem dX12_valueOf_104 : decode cX12_valueOf 104 = .ok (.iconst 1, 1) := getB' kX12_valueOf_2 1 rfl
theorem dX12_valueOf_105 : decode cX12_valueOf 105 = .ok (.goto 4, 3) := getB' kX12_valueOf_2 2 rfl
theorem dX12_valueOf_108 : decode cX12_valueOf 108 = .ok (.iconst 0, 1) := getB' kX12_valueOf_2 3 rfl
theorem dX12_valueOf_109 : decode cX12_valueOf 109 = .ok (.ireturn, 1) := getB' kX12_valueOf_2 4 rfl
theorem dX12_valueOf_110 : decode cX12_valueOf 110 = .ok (.aload_n 0, 1) := getB' kX12_valueOf_2 5 rfl
theorem dX12_valueOf_111 : decode cX12_valueOf 111 = .ok (.getfield 16, 3) := getB' kX12_valueOf_2 6 rfl
theorem dX12_valueOf_114 : decode cX12_valueOf 114 = .ok (.iload 4, 2) := getB' kX12_valueOf_2 7 rfl
theorem dX12_valueOf_116 : decode cX12_valueOf 116 = .ok (.iaload, 1) := getB' kX12_valueOf_2 8 rfl
theorem dX12_valueOf_117 : decode cX12_valueOf 117 = .ok (.ireturn, 1) := getB' kX12_valueOf_2 9 rfl
theorem dX12_valueOf_118 : decode cX12_valueOf 118 = .ok (.aload_n 0, 1) := getB' kX12_valueOf_2 10 rfl
theorem dX12_valueOf_119 : decode cX12_valueOf 119 = .ok (.getfield 20, 3) := getB' kX12_valueOf_2 11 rfl
def LX12_valueOf_3 : List (Nat × Instr × Nat) := [(122, .iload 4, 2), (124, .iaload, 1), (125, .ireturn, 1), (126, .aload_n 0, 1), (127, .iload 4, 2), (129, .invokevirtual 572, 3), (132, .ireturn, 1), (133, .aload_n 0, 1), (134, .iconst 4, 1), (135, .iload 4, 2), (137, .iconst 1, 1), (138, .invokevirtual 575, 3)]
theorem kX12_valueOf_3 : chkB cX12_valueOf LX12_valueOf_3 = true := by decide +kernel
theorem dX12_valueOf_122 : decode cX12_valueOf 122 = .ok (.iload 4, 2) := getB' kX12_valueOf_3 0 rfl
theorem dX12_valueOf_124 : decode cX12_valueOf 124 = .ok (.iaload, 1) := getB' kX12_valueOf_3 1 rfl
theorem dX12_valueOf_125 : decode cX12_valueOf 125 = .ok (.ireturn, 1) := getB' kX12_valueOf_3 2 rfl
theorem dX12_valueOf_126 : decode cX12_valueOf 126 = .ok (.aload_n 0, 1) := getB' kX12_valueOf_3 3 rfl
theorem dX12_valueOf_127 : decode cX12_valueOf 127 = .ok (.iload 4, 2) := getB' kX12_valueOf_3 4 rfl
theorem dX12_valueOf_129 : decode cX12_valueOf 129 = .ok (.invokevirtual 572, 3) := getB' kX12_valueOf_3 5 rfl
theorem dX12_valueOf_132 : decode cX12_valueOf 132 = .ok (.ireturn, 1) := getB' kX12_valueOf_3 6 rfl
theorem dX12_valueOf_133 : decode cX12_valueOf 133 = .ok (.aload_n 0, 1) := getB' kX12_valueOf_3 7 rfl
theorem dX12_valueOf_134 : decode cX12_valueOf 134 = .ok (.iconst 4, 1) := getB' kX12_valueOf_3 8 rfl
theorem dX12_valueOf_135 : decode cX12_valueOf 135 = .ok (.iload 4, 2) := getB' kX12_valueOf_3 9 rfl
theorem dX12_valueOf_137 : decode cX12_valueOf 137 = .ok (.iconst 1, 1) := getB' kX12_valueOf_3 10 rfl
theorem dX12_valueOf_138 : decode cX12_valueOf 138 = .ok (.invokevirtual 575, 3) := getB' kX12_valueOf_3 11 rfl
def LX12_valueOf_4 : List (Nat × Instr × Nat) := [(141, .ireturn, 1), (142, .aload_n 0, 1), (143, .iconst 5, 1), (144, .iload 4, 2), (146, .iconst 2, 1), (147, .invokevirtual 575, 3), (150, .ireturn, 1), (151, .aload_n 0, 1), (152, .aload_n 0, 1), (153, .getfield 166, 3), (156, .iload_n 2, 1), (157, .iaload, 1)]
theorem kX12_valueOf_4 : chkB cX12_valueOf LX12_valueOf_4 = true := by decide +kernel
theorem dX12_valueOf_141 : decode cX12_valueOf 141 = .ok (.ireturn, 1) := getB' kX12_valueOf_4 0 rfl
theorem dX12_valueOf_142 : decode cX12_valueOf 142 = .ok (.aload_n 0, 1) := getB' kX12_valueOf_4 1 rfl
theorem dX12_valueOf_143 : decode cX12_valueOf 143 = .ok (.iconst 5, 1) := getB' kX12_valueOf_4 2 rfl
theorem dX12_valueOf_144 : decode cX12_valueOf 144 = .ok (.iload 4, 2) := getB' kX12_valueOf_4 3 rfl
theorem dX12_valueOf_146 : decode cX12_valueOf 146 = .ok (.iconst 2, 1) := getB' kX12_valueOf_4 4 rfl
theorem dX12_valueOf_147 : decode cX12_valueOf 147 = .ok (.invokevirtual 575, 3) := getB' kX12_valueOf_4 5 rfl
theorem dX12_valueOf_150 : decode cX12_valueOf 150 = .ok (.ireturn, 1) := getB' kX12_valueOf_4 6 rfl
theorem dX12_valueOf_151 : decode cX12_valueOf 151 = .ok (.aload_n 0, 1) := getB' kX12_valueOf_4 7 rfl
theorem dX12_valueOf_152 : decode cX12_valueOf 152 = .ok (.aload_n 0, 1) := getB' kX12_valueOf_4 8 rfl
theorem dX12_valueOf_153 : decode cX12_valueOf 153 = .ok (.getfield 166, 3) := getB' kX12_valueOf_4 9 rfl
theorem dX12_valueOf_156 : decode cX12_valueOf 156 = .ok (.iload_n 2, 1) := getB' kX12_valueOf_4 10 rfl
theorem dX12_valueOf_157 : decode cX12_valueOf 157 = .ok (.iaload, 1) := getB' kX12_valueOf_4 11 rfl
def LX12_valueOf_5 : List (Nat × Instr × Nat) := [(158, .iload 4, 2), (160, .invokevirtual 579, 3), (163, .ireturn, 1), (164, .aload_n 0, 1), (165, .getfield 178, 3), (168, .iload_n 2, 1), (169, .iaload, 1), (170, .ireturn, 1), (171, .aload_n 0, 1), (172, .getfield 181, 3), (175, .iload_n 2, 1), (176, .iaload, 1)]
theorem kX12_valueOf_5 : chkB cX12_valueOf LX12_valueOf_5 = true := by decide +kernel
theorem dX12_valueOf_158 : decode cX12_valueOf 158 = .ok (.iload 4, 2) := getB' kX12_valueOf_5 0 rfl
theorem dX12_valueOf_160 : decode cX12_valueOf 160 = .ok (.invokevirtual 579, 3) := getB' kX12_valueOf_5 1 rfl
theorem dX12_valueOf_163 : decode cX12_valueOf 163 = .ok (.ireturn, 1) := getB' kX12_valueOf_5 2 rfl
theorem dX12_valueOf_164 : decode cX12_valueOf 164 = .ok (.aload_n 0, 1) := getB' kX12_valueOf_5 3 rfl
theorem dX12_valueOf_165 : decode cX12_valueOf 165 = .ok (.getfield 178, 3) := getB' kX12_valueOf_5 4 rfl
theorem dX12_valueOf_168 : decode cX12_valueOf 168 = .ok (.iload_n 2, 1) := getB' kX12_valueOf_5 5 rfl
theorem dX12_valueOf_169 : decode cX12_valueOf 169 = .ok (.iaload, 1) := getB' kX12_valueOf_5 6 rfl
theorem dX12_valueOf_170 : decode cX12_valueOf 170 = .ok (.ireturn, 1) := getB' kX12_valueOf_5 7 rfl
theorem dX12_valueOf_171 : decode cX12_valueOf 171 = .ok (.aload_n 0, 1) := getB' kX12_valueOf_5 8 rfl
theorem dX12_valueOf_172 : decode cX12_valueOf 172 = .ok (.getfield 181, 3) := getB' kX12_valueOf_5 9 rfl
theorem dX12_valueOf_175 : decode cX12_valueOf 175 = .ok (.iload_n 2, 1) := getB' kX12_valueOf_5 10 rfl
theorem dX12_valueOf_176 : decode cX12_valueOf 176 = .ok (.iaload, 1) := getB' kX12_valueOf_5 11 rfl
def LX12_valueOf_6 : List (Nat × Instr × Nat) := [(177, .ireturn, 1), (178, .iload_n 3, 1), (179, .sipush 360, 3), (182, .irem, 1), (183, .ireturn, 1), (184, .iload_n 3, 1), (185, .sipush 360, 3), (188, .idiv, 1), (189, .ireturn, 1), (190, .aload_n 0, 1), (191, .iload_n 3, 1), (192, .invokevirtual 582, 3)]
theorem kX12_valueOf_6 : chkB cX12_valueOf LX12_valueOf_6 = true := by decide +kernel
theorem dX12_valueOf_177 : decode cX12_valueOf 177 = .ok (.ireturn, 1) := getB' kX12_valueOf_6 0 rfl
theorem dX12_valueOf_178 : decode cX12_valueOf 178 = .ok (.iload_n 3, 1) := getB' kX12_valueOf_6 1 rfl
theorem dX12_valueOf_179 : decode cX12_valueOf 179 = .ok (.sipush 360, 3) := getB' kX12_valueOf_6 2 rfl
theorem dX12_valueOf_182 : decode cX12_valueOf 182 = .ok (.irem, 1) := getB' kX12_valueOf_6 3 rfl
theorem dX12_valueOf_183 : decode cX12_valueOf 183 = .ok (.ireturn, 1) := getB' kX12_valueOf_6 4 rfl
theorem dX12_valueOf_184 : decode cX12_valueOf 184 = .ok (.iload_n 3, 1) := getB' kX12_valueOf_6 5 rfl
theorem dX12_valueOf_185 : decode cX12_valueOf 185 = .ok (.sipush 360, 3) := getB' kX12_valueOf_6 6 rfl
theorem dX12_valueOf_188 : decode cX12_valueOf 188 = .ok (.idiv, 1) := getB' kX12_valueOf_6 7 rfl
theorem dX12_valueOf_189 : decode cX12_valueOf 189 = .ok (.ireturn, 1) := getB' kX12_valueOf_6 8 rfl
theorem dX12_valueOf_190 : decode cX12_valueOf 190 = .ok (.aload_n 0, 1) := getB' kX12_valueOf_6 9 rfl
theorem dX12_valueOf_191 : decode cX12_valueOf 191 = .ok (.iload_n 3, 1) := getB' kX12_valueOf_6 10 rfl
theorem dX12_valueOf_192 : decode cX12_valueOf 192 = .ok (.invokevirtual 582, 3) := getB' kX12_valueOf_6 11 rfl
def LX12_valueOf_7 : List (Nat × Instr × Nat) := [(195, .ifCond .eq 7, 3), (198, .iconst 1, 1), (199, .goto 4, 3), (202, .iconst 0, 1), (203, .ireturn, 1)]
theorem kX12_valueOf_7 : chkB cX12_valueOf LX12_valueOf_7 = true := by decide +kernel
theorem dX12_valueOf_195 : decode cX12_valueOf 195 = .ok (.ifCond .eq 7, 3) := getB' kX12_valueOf_7 0 rfl
theorem dX12_valueOf_198 : decode cX12_valueOf 198 = .ok (.iconst 1, 1) := getB' kX12_valueOf_7 1 rfl
theorem dX12_valueOf_199 : decode cX12_valueOf 199 = .ok (.goto 4, 3) := getB' kX12_valueOf_7 2 rfl
theorem dX12_valueOf_202 : decode cX12_valueOf 202 = .ok (.iconst 0, 1) := getB' kX12_valueOf_7 3 rfl
theorem dX12_valueOf_203 : decode cX12_valueOf 203 = .ok (.ireturn, 1) := getB' kX12_valueOf_7 4 rfl
def LX12_reckon_0 : List (Nat × Instr × Nat) := [(0, .iload_n 0, 1), (1, .tableswitch 85 2 8 #[43, 47, 51, 55, 59, 63, 74], 43), (44, .iload_n 1, 1), (45, .iload_n 2, 1), (46, .iadd, 1), (47, .ireturn, 1), (48, .iload_n 1, 1), (49, .iload_n 2, 1), (50, .isub, 1), (51, .ireturn, 1), (52, .iload_n 1, 1), (53, .iload_n 2, 1)]
theorem kX12_reckon_0 : chkB cX12_reckon LX12_reckon_0 = true := by decide +kernel
theorem dX12_reckon_0 : decode cX12_reckon 0 = .ok (.iload_n 0, 1) := getB' kX12_reckon_0 0 rfl
theorem dX12_reckon_1 : decode cX12_reckon 1 = .ok (.tableswitch 85 2 8 #[43, 47, 51, 55, 59, 63, 74], 43) := getB' kX12_reckon_0 1 rfl
theorem dX12_reckon_44 : decode cX12_reckon 44 = .ok (.iload_n 1, 1) := getB' kX12_reckon_0 2 rfl
theorem dX12_reckon_45 : decode cX12_reckon 45 = .ok (.iload_n 2, 1) := getB' kX12_reckon_0 3 rfl
theorem dX12_reckon_46 : decode cX12_reckon 46 = .ok (.iadd, 1) := getB' kX12_reckon_0 4 rfl
theorem dX12_reckon_47 : decode cX12_reckon 47 = .ok (.ireturn, 1) := getB' kX12_reckon_0 5 rfl
theorem dX12_reckon_48 : decode cX12_reckon 48 = .ok (.iload_n 1, 1) := getB' kX12_reckon_0 6 rfl
theorem dX12_reckon_49 : decode cX12_reckon 49 = .ok (.iload_n 2, 1) := getB' kX12_reckon_0 7 rfl
theorem dX12_reckon_50 : decode cX12_reckon 50 = .ok (.isub, 1) := getB' kX12_reckon_0 8 rfl
theorem dX12_reckon_51 : decode cX12_reckon 51 = .ok (.ireturn, 1) := getB' kX12_reckon_0 9 rfl
theorem dX12_reckon_52 : decode cX12_reckon 52 = .ok (.iload_n 1, 1) := getB' kX12_reckon_0 10 rfl
theorem dX12_reckon_53 : decode cX12_reckon 53 = .ok (.iload_n 2, 1) := getB' kX12_reckon_0 11 rfl
def LX12_reckon_1 : List (Nat × Instr × Nat) := [(54, .imul, 1), (55, .ireturn, 1), (56, .iload_n 1, 1), (57, .iload_n 2, 1), (58, .idiv, 1), (59, .ireturn, 1), (60, .iload_n 1, 1), (61, .iload_n 2, 1), (62, .irem, 1), (63, .ireturn, 1), (64, .iload_n 1, 1), (65, .iload_n 2, 1)]
theorem kX12_reckon_1 : chkB cX12_reckon LX12_reckon_1 = true := by decide +kernel
theorem dX12_reckon_54 : decode cX12_reckon 54 = .ok (.imul, 1) := getB' kX12_reckon_1 0 rfl
theorem dX12_reckon_55 : decode cX12_reckon 55 = .ok (.ireturn, 1) := getB' kX12_reckon_1 1 rfl
theorem dX12_reckon_56 : decode cX12_reckon 56 = .ok (.iload_n 1, 1) := getB' kX12_reckon_1 2 rfl
theorem dX12_reckon_57 : decode cX12_reckon 57 = .ok (.iload_n 2, 1) := getB' kX12_reckon_1 3 rfl
theorem dX12_reckon_58 : decode cX12_reckon 58 = .ok (.idiv, 1) := getB' kX12_reckon_1 4 rfl
theorem dX12_reckon_59 : decode cX12_reckon 59 = .ok (.ireturn, 1) := getB' kX12_reckon_1 5 rfl
theorem dX12_reckon_60 : decode cX12_reckon 60 = .ok (.iload_n 1, 1) := getB' kX12_reckon_1 6 rfl
theorem dX12_reckon_61 : decode cX12_reckon 61 = .ok (.iload_n 2, 1) := getB' kX12_reckon_1 7 rfl
theorem dX12_reckon_62 : decode cX12_reckon 62 = .ok (.irem, 1) := getB' kX12_reckon_1 8 rfl
theorem dX12_reckon_63 : decode cX12_reckon 63 = .ok (.ireturn, 1) := getB' kX12_reckon_1 9 rfl
theorem dX12_reckon_64 : decode cX12_reckon 64 = .ok (.iload_n 1, 1) := getB' kX12_reckon_1 10 rfl
theorem dX12_reckon_65 : decode cX12_reckon 65 = .ok (.iload_n 2, 1) := getB' kX12_reckon_1 11 rfl
def LX12_reckon_2 : List (Nat × Instr × Nat) := [(66, .if_icmp .ge 7, 3), (69, .iconst 1, 1), (70, .goto 4, 3), (73, .iconst 0, 1), (74, .ireturn, 1), (75, .iload_n 1, 1), (76, .iload_n 2, 1), (77, .if_icmp .le 7, 3), (80, .iconst 1, 1), (81, .goto 4, 3), (84, .iconst 0, 1), (85, .ireturn, 1)]
theorem kX12_reckon_2 : chkB cX12_reckon LX12_reckon_2 = true := by decide +kernel
theorem dX12_reckon_66 : decode cX12_reckon 66 = .ok (.if_icmp .ge 7, 3) := getB' kX12_reckon_2 0 rfl
theorem dX12_reckon_69 : decode cX12_reckon 69 = .ok (.iconst 1, 1) := getB' kX12_reckon_2 1 rfl
theorem dX12_reckon_70 : decode cX12_reckon 70 = .ok (.goto 4, 3) := getB' kX12_reckon_2 2 rfl
theorem dX12_reckon_73 : decode cX12_reckon 73 = .ok (.iconst 0, 1) := getB' kX12_reckon_2 3 rfl
theorem dX12_reckon_74 : decode cX12_reckon 74 = .ok (.ireturn, 1) := getB' kX12_reckon_2 4 rfl
theorem dX12_reckon_75 : decode cX12_reckon 75 = .ok (.iload_n 1, 1) := getB' kX12_reckon_2 5 rfl
theorem dX12_reckon_76 : decode cX12_reckon 76 = .ok (.iload_n 2, 1) := getB' kX12_reckon_2 6 rfl
theorem dX12_reckon_77 : decode cX12_reckon 77 = .ok (.if_icmp .le 7, 3) := getB' kX12_reckon_2 7 rfl
theorem dX12_reckon_80 : decode cX12_reckon 80 = .ok (.iconst 1, 1) := getB' kX12_reckon_2 8 rfl
theorem dX12_reckon_81 : decode cX12_reckon 81 = .ok (.goto 4, 3) := getB' kX12_reckon_2 9 rfl
theorem dX12_reckon_84 : decode cX12_reckon 84 = .ok (.iconst 0, 1) := getB' kX12_reckon_2 10 rfl
theorem dX12_reckon_85 : decode cX12_reckon 85 = .ok (.ireturn, 1) := getB' kX12_reckon_2 11 rfl
def LX12_reckon_3 : List (Nat × Instr × Nat) := [(86, .iload_n 1, 1), (87, .iload_n 2, 1), (88, .if_icmp .ne 7, 3), (91, .iconst 1, 1), (92, .goto 4, 3), (95, .iconst 0, 1), (96, .ireturn, 1)]
theorem kX12_reckon_3 : chkB cX12_reckon LX12_reckon_3 = true := by decide +kernel
theorem dX12_reckon_86 : decode cX12_reckon 86 = .ok (.iload_n 1, 1) := getB' kX12_reckon_3 0 rfl
theorem dX12_reckon_87 : decode cX12_reckon 87 = .ok (.iload_n 2, 1) := getB' kX12_reckon_3 1 rfl
theorem dX12_reckon_88 : decode cX12_reckon 88 = .ok (.if_icmp .ne 7, 3) := getB' kX12_reckon_3 2 rfl
theorem dX12_reckon_91 : decode cX12_reckon 91 = .ok (.iconst 1, 1) := getB' kX12_reckon_3 3 rfl
theorem dX12_reckon_92 : decode cX12_reckon 92 = .ok (.goto 4, 3) := getB' kX12_reckon_3 4 rfl
theorem dX12_reckon_95 : decode cX12_reckon 95 = .ok (.iconst 0, 1) := getB' kX12_reckon_3 5 rfl
theorem dX12_reckon_96 : decode cX12_reckon 96 = .ok (.ireturn, 1) := getB' kX12_reckon_3 6 rfl
def LX12_holds_0 : List (Nat × Instr × Nat) := [(0, .iconst 0, 1), (1, .istore 7, 2), (3, .iload_n 3, 1), (4, .istore 8, 2), (6, .iload 8, 2), (8, .iload 4, 2), (10, .if_icmp .ge 226, 3), (13, .aload_n 1, 1), (14, .iload 8, 2), (16, .iaload, 1), (17, .ldc_w 469, 3), (20, .idiv, 1)]
theorem kX12_holds_0 : chkB cX12_holds LX12_holds_0 = true := by decide +kernel
theorem dX12_holds_0 : decode cX12_holds 0 = .ok (.iconst 0, 1) := getB' kX12_holds_0 0 rfl
theorem dX12_holds_1 : decode cX12_holds 1 = .ok (.istore 7, 2) := getB' kX12_holds_0 1 rfl
theorem dX12_holds_3 : decode cX12_holds 3 = .ok (.iload_n 3, 1) := getB' kX12_holds_0 2 rfl
theorem dX12_holds_4 : decode cX12_holds 4 = .ok (.istore 8, 2) := getB' kX12_holds_0 3 rfl
theorem dX12_holds_6 : decode cX12_holds 6 = .ok (.iload 8, 2) := getB' kX12_holds_0 4 rfl
theorem dX12_holds_8 : decode cX12_holds 8 = .ok (.iload 4, 2) := getB' kX12_holds_0 5 rfl
theorem dX12_holds_10 : decode cX12_holds 10 = .ok (.if_icmp .ge 226, 3) := getB' kX12_holds_0 6 rfl
theorem dX12_holds_13 : decode cX12_holds 13 = .ok (.aload_n 1, 1) := getB' kX12_holds_0 7 rfl
theorem dX12_holds_14 : decode cX12_holds 14 = .ok (.iload 8, 2) := getB' kX12_holds_0 8 rfl
theorem dX12_holds_16 : decode cX12_holds 16 = .ok (.iaload, 1) := getB' kX12_holds_0 9 rfl
theorem dX12_holds_17 : decode cX12_holds 17 = .ok (.ldc_w 469, 3) := getB' kX12_holds_0 10 rfl
theorem dX12_holds_20 : decode cX12_holds 20 = .ok (.idiv, 1) := getB' kX12_holds_0 11 rfl
def LX12_holds_1 : List (Nat × Instr × Nat) := [(21, .istore 9, 2), (23, .aload_n 1, 1), (24, .iload 8, 2), (26, .iaload, 1), (27, .ldc_w 469, 3), (30, .irem, 1), (31, .istore 10, 2), (33, .iload 8, 2), (35, .iconst 1, 1), (36, .iadd, 1), (37, .istore 8, 2), (39, .iload 9, 2)]
theorem kX12_holds_1 : chkB cX12_holds LX12_holds_1 = true := by decide +kernel
theorem dX12_holds_21 : decode cX12_holds 21 = .ok (.istore 9, 2) := getB' kX12_holds_1 0 rfl
theorem dX12_holds_23 : decode cX12_holds 23 = .ok (.aload_n 1, 1) := getB' kX12_holds_1 1 rfl
theorem dX12_holds_24 : decode cX12_holds 24 = .ok (.iload 8, 2) := getB' kX12_holds_1 2 rfl
theorem dX12_holds_26 : decode cX12_holds 26 = .ok (.iaload, 1) := getB' kX12_holds_1 3 rfl
theorem dX12_holds_27 : decode cX12_holds 27 = .ok (.ldc_w 469, 3) := getB' kX12_holds_1 4 rfl
theorem dX12_holds_30 : decode cX12_holds 30 = .ok (.irem, 1) := getB' kX12_holds_1 5 rfl
theorem dX12_holds_31 : decode cX12_holds 31 = .ok (.istore 10, 2) := getB' kX12_holds_1 6 rfl
theorem dX12_holds_33 : decode cX12_holds 33 = .ok (.iload 8, 2) := getB' kX12_holds_1 7 rfl
theorem dX12_holds_35 : decode cX12_holds 35 = .ok (.iconst 1, 1) := getB' kX12_holds_1 8 rfl
theorem dX12_holds_36 : decode cX12_holds 36 = .ok (.iadd, 1) := getB' kX12_holds_1 9 rfl
theorem dX12_holds_37 : decode cX12_holds 37 = .ok (.istore 8, 2) := getB' kX12_holds_1 10 rfl
theorem dX12_holds_39 : decode cX12_holds 39 = .ok (.iload 9, 2) := getB' kX12_holds_1 11 rfl
def LX12_holds_2 : List (Nat × Instr × Nat) := [(41, .ifCond .eq 9, 3), (44, .iload 9, 2), (46, .iconst 1, 1), (47, .if_icmp .ne 39, 3), (50, .aload_n 0, 1), (51, .getfield 205, 3), (54, .iload 7, 2), (56, .iload 9, 2), (58, .ifCond .ne 8, 3), (61, .iload 10, 2), (63, .goto 13, 3), (66, .aload_n 0, 1)]
theorem kX12_holds_2 : chkB cX12_holds LX12_holds_2 = true := by decide +kernel
theorem dX12_holds_41 : decode cX12_holds 41 = .ok (.ifCond .eq 9, 3) := getB' kX12_holds_2 0 rfl
theorem dX12_holds_44 : decode cX12_holds 44 = .ok (.iload 9, 2) := getB' kX12_holds_2 1 rfl
theorem dX12_holds_46 : decode cX12_holds 46 = .ok (.iconst 1, 1) := getB' kX12_holds_2 2 rfl
theorem dX12_holds_47 : decode cX12_holds 47 = .ok (.if_icmp .ne 39, 3) := getB' kX12_holds_2 3 rfl
theorem dX12_holds_50 : decode cX12_holds 50 = .ok (.aload_n 0, 1) := getB' kX12_holds_2 4 rfl
theorem dX12_holds_51 : decode cX12_holds 51 = .ok (.getfield 205, 3) := getB' kX12_holds_2 5 rfl
theorem dX12_holds_54 : decode cX12_holds 54 = .ok (.iload 7, 2) := getB' kX12_holds_2 6 rfl
theorem dX12_holds_56 : decode cX12_holds 56 = .ok (.iload 9, 2) := getB' kX12_holds_2 7 rfl
theorem dX12_holds_58 : decode cX12_holds 58 = .ok (.ifCond .ne 8, 3) := getB' kX12_holds_2 8 rfl
theorem dX12_holds_61 : decode cX12_holds 61 = .ok (.iload 10, 2) := getB' kX12_holds_2 9 rfl
theorem dX12_holds_63 : decode cX12_holds 63 = .ok (.goto 13, 3) := getB' kX12_holds_2 10 rfl
theorem dX12_holds_66 : decode cX12_holds 66 = .ok (.aload_n 0, 1) := getB' kX12_holds_2 11 rfl
def LX12_holds_3 : List (Nat × Instr × Nat) := [(67, .iload 10, 2), (69, .iload 5, 2), (71, .iload 6, 2), (73, .invokevirtual 585, 3), (76, .iastore, 1), (77, .iload 7, 2), (79, .iconst 1, 1), (80, .iadd, 1), (81, .istore 7, 2), (83, .goto 150, 3), (86, .iload 9, 2), (88, .bipush 10, 2)]
theorem kX12_holds_3 : chkB cX12_holds LX12_holds_3 = true := by decide +kernel
theorem dX12_holds_67 : decode cX12_holds 67 = .ok (.iload 10, 2) := getB' kX12_holds_3 0 rfl
theorem dX12_holds_69 : decode cX12_holds 69 = .ok (.iload 5, 2) := getB' kX12_holds_3 1 rfl
theorem dX12_holds_71 : decode cX12_holds 71 = .ok (.iload 6, 2) := getB' kX12_holds_3 2 rfl
theorem dX12_holds_73 : decode cX12_holds 73 = .ok (.invokevirtual 585, 3) := getB' kX12_holds_3 3 rfl
theorem dX12_holds_76 : decode cX12_holds 76 = .ok (.iastore, 1) := getB' kX12_holds_3 4 rfl
theorem dX12_holds_77 : decode cX12_holds 77 = .ok (.iload 7, 2) := getB' kX12_holds_3 5 rfl
theorem dX12_holds_79 : decode cX12_holds 79 = .ok (.iconst 1, 1) := getB' kX12_holds_3 6 rfl
theorem dX12_holds_80 : decode cX12_holds 80 = .ok (.iadd, 1) := getB' kX12_holds_3 7 rfl
theorem dX12_holds_81 : decode cX12_holds 81 = .ok (.istore 7, 2) := getB' kX12_holds_3 8 rfl
theorem dX12_holds_83 : decode cX12_holds 83 = .ok (.goto 150, 3) := getB' kX12_holds_3 9 rfl
theorem dX12_holds_86 : decode cX12_holds 86 = .ok (.iload 9, 2) := getB' kX12_holds_3 10 rfl
theorem dX12_holds_88 : decode cX12_holds 88 = .ok (.bipush 10, 2) := getB' kX12_holds_3 11 rfl
def LX12_holds_4 : List (Nat × Instr × Nat) := [(90, .if_icmp .ne 26, 3), (93, .aload_n 0, 1), (94, .getfield 205, 3), (97, .iload 7, 2), (99, .iconst 1, 1), (100, .isub, 1), (101, .iconst 1, 1), (102, .aload_n 0, 1), (103, .getfield 205, 3), (106, .iload 7, 2), (108, .iconst 1, 1), (109, .isub, 1)]
theorem kX12_holds_4 : chkB cX12_holds LX12_holds_4 = true := by decide +kernel
theorem dX12_holds_90 : decode cX12_holds 90 = .ok (.if_icmp .ne 26, 3) := getB' kX12_holds_4 0 rfl
theorem dX12_holds_93 : decode cX12_holds 93 = .ok (.aload_n 0, 1) := getB' kX12_holds_4 1 rfl
theorem dX12_holds_94 : decode cX12_holds 94 = .ok (.getfield 205, 3) := getB' kX12_holds_4 2 rfl
theorem dX12_holds_97 : decode cX12_holds 97 = .ok (.iload 7, 2) := getB' kX12_holds_4 3 rfl
theorem dX12_holds_99 : decode cX12_holds 99 = .ok (.iconst 1, 1) := getB' kX12_holds_4 4 rfl
theorem dX12_holds_100 : decode cX12_holds 100 = .ok (.isub, 1) := getB' kX12_holds_4 5 rfl
theorem dX12_holds_101 : decode cX12_holds 101 = .ok (.iconst 1, 1) := getB' kX12_holds_4 6 rfl
theorem dX12_holds_102 : decode cX12_holds 102 = .ok (.aload_n 0, 1) := getB' kX12_holds_4 7 rfl
theorem dX12_holds_103 : decode cX12_holds 103 = .ok (.getfield 205, 3) := getB' kX12_holds_4 8 rfl
theorem dX12_holds_106 : decode cX12_holds 106 = .ok (.iload 7, 2) := getB' kX12_holds_4 9 rfl
theorem dX12_holds_108 : decode cX12_holds 108 = .ok (.iconst 1, 1) := getB' kX12_holds_4 10 rfl
theorem dX12_holds_109 : decode cX12_holds 109 = .ok (.isub, 1) := getB' kX12_holds_4 11 rfl
def LX12_holds_5 : List (Nat × Instr × Nat) := [(110, .iaload, 1), (111, .isub, 1), (112, .iastore, 1), (113, .goto 120, 3), (116, .iload 9, 2), (118, .bipush 11, 2), (120, .if_icmp .eq 10, 3), (123, .iload 9, 2), (125, .bipush 12, 2), (127, .if_icmp .ne 45, 3), (130, .aload_n 0, 1), (131, .getfield 205, 3)]
theorem kX12_holds_5 : chkB cX12_holds LX12_holds_5 = true := by decide +kernel
theorem dX12_holds_110 : decode cX12_holds 110 = .ok (.iaload, 1) := getB' kX12_holds_5 0 rfl
theorem dX12_holds_111 : decode cX12_holds 111 = .ok (.isub, 1) := getB' kX12_holds_5 1 rfl
theorem dX12_holds_112 : decode cX12_holds 112 = .ok (.iastore, 1) := getB' kX12_holds_5 2 rfl
theorem dX12_holds_113 : decode cX12_holds 113 = .ok (.goto 120, 3) := getB' kX12_holds_5 3 rfl
theorem dX12_holds_116 : decode cX12_holds 116 = .ok (.iload 9, 2) := getB' kX12_holds_5 4 rfl
theorem dX12_holds_118 : decode cX12_holds 118 = .ok (.bipush 11, 2) := getB' kX12_holds_5 5 rfl
theorem dX12_holds_120 : decode cX12_holds 120 = .ok (.if_icmp .eq 10, 3) := getB' kX12_holds_5 6 rfl
theorem dX12_holds_123 : decode cX12_holds 123 = .ok (.iload 9, 2) := getB' kX12_holds_5 7 rfl
theorem dX12_holds_125 : decode cX12_holds 125 = .ok (.bipush 12, 2) := getB' kX12_holds_5 8 rfl
theorem dX12_holds_127 : decode cX12_holds 127 = .ok (.if_icmp .ne 45, 3) := getB' kX12_holds_5 9 rfl
theorem dX12_holds_130 : decode cX12_holds 130 = .ok (.aload_n 0, 1) := getB' kX12_holds_5 10 rfl
theorem dX12_holds_131 : decode cX12_holds 131 = .ok (.getfield 205, 3) := getB' kX12_holds_5 11 rfl
def LX12_holds_6 : List (Nat × Instr × Nat) := [(134, .iload 7, 2), (136, .iconst 1, 1), (137, .isub, 1), (138, .iaload, 1), (139, .iload 9, 2), (141, .bipush 12, 2), (143, .if_icmp .ne 7, 3), (146, .iconst 1, 1), (147, .goto 4, 3), (150, .iconst 0, 1), (151, .if_icmp .ne 12, 3), (154, .iload_n 2, 1)]
theorem kX12_holds_6 : chkB cX12_holds LX12_holds_6 = true := by decide +kernel
theorem dX12_holds_134 : decode cX12_holds 134 = .ok (.iload 7, 2) := getB' kX12_holds_6 0 rfl
theorem dX12_holds_136 : decode cX12_holds 136 = .ok (.iconst 1, 1) := getB' kX12_holds_6 1 rfl
theorem dX12_holds_137 : decode cX12_holds 137 = .ok (.isub, 1) := getB' kX12_holds_6 2 rfl
theorem dX12_holds_138 : decode cX12_holds 138 = .ok (.iaload, 1) := getB' kX12_holds_6 3 rfl
theorem dX12_holds_139 : decode cX12_holds 139 = .ok (.iload 9, 2) := getB' kX12_holds_6 4 rfl
theorem dX12_holds_141 : decode cX12_holds 141 = .ok (.bipush 12, 2) := getB' kX12_holds_6 5 rfl
theorem dX12_holds_143 : decode cX12_holds 143 = .ok (.if_icmp .ne 7, 3) := getB' kX12_holds_6 6 rfl
theorem dX12_holds_146 : decode cX12_holds 146 = .ok (.iconst 1, 1) := getB' kX12_holds_6 7 rfl
theorem dX12_holds_147 : decode cX12_holds 147 = .ok (.goto 4, 3) := getB' kX12_holds_6 8 rfl
theorem dX12_holds_150 : decode cX12_holds 150 = .ok (.iconst 0, 1) := getB' kX12_holds_6 9 rfl
theorem dX12_holds_151 : decode cX12_holds 151 = .ok (.if_icmp .ne 12, 3) := getB' kX12_holds_6 10 rfl
theorem dX12_holds_154 : decode cX12_holds 154 = .ok (.iload_n 2, 1) := getB' kX12_holds_6 11 rfl
def LX12_holds_7 : List (Nat × Instr × Nat) := [(155, .iload 10, 2), (157, .iadd, 1), (158, .istore 8, 2), (160, .goto 73, 3), (163, .iload 7, 2), (165, .iconst 1, 1), (166, .isub, 1), (167, .istore 7, 2), (169, .goto 64, 3), (172, .iload 7, 2), (174, .iconst 1, 1), (175, .isub, 1)]
theorem kX12_holds_7 : chkB cX12_holds LX12_holds_7 = true := by decide +kernel
theorem dX12_holds_155 : decode cX12_holds 155 = .ok (.iload 10, 2) := getB' kX12_holds_7 0 rfl
theorem dX12_holds_157 : decode cX12_holds 157 = .ok (.iadd, 1) := getB' kX12_holds_7 1 rfl
theorem dX12_holds_158 : decode cX12_holds 158 = .ok (.istore 8, 2) := getB' kX12_holds_7 2 rfl
theorem dX12_holds_160 : decode cX12_holds 160 = .ok (.goto 73, 3) := getB' kX12_holds_7 3 rfl
theorem dX12_holds_163 : decode cX12_holds 163 = .ok (.iload 7, 2) := getB' kX12_holds_7 4 rfl
theorem dX12_holds_165 : decode cX12_holds 165 = .ok (.iconst 1, 1) := getB' kX12_holds_7 5 rfl
theorem dX12_holds_166 : decode cX12_holds 166 = .ok (.isub, 1) := getB' kX12_holds_7 6 rfl
theorem dX12_holds_167 : decode cX12_holds 167 = .ok (.istore 7, 2) := getB' kX12_holds_7 7 rfl
theorem dX12_holds_169 : decode cX12_holds 169 = .ok (.goto 64, 3) := getB' kX12_holds_7 8 rfl
theorem dX12_holds_172 : decode cX12_holds 172 = .ok (.iload 7, 2) := getB' kX12_holds_7 9 rfl
theorem dX12_holds_174 : decode cX12_holds 174 = .ok (.iconst 1, 1) := getB' kX12_holds_7 10 rfl
theorem dX12_holds_175 : decode cX12_holds 175 = .ok (.isub, 1) := getB' kX12_holds_7 11 rfl
def LX12_holds_8 : List (Nat × Instr × Nat) := [(176, .istore 7, 2), (178, .iload 9, 2), (180, .iconst 5, 1), (181, .if_icmp .eq 10, 3), (184, .iload 9, 2), (186, .bipush 6, 2), (188, .if_icmp .ne 15, 3), (191, .aload_n 0, 1), (192, .getfield 205, 3), (195, .iload 7, 2), (197, .iaload, 1), (198, .ifCond .ne 5, 3)]
theorem kX12_holds_8 : chkB cX12_holds LX12_holds_8 = true := by decide +kernel
theorem dX12_holds_176 : decode cX12_holds 176 = .ok (.istore 7, 2) := getB' kX12_holds_8 0 rfl
theorem dX12_holds_178 : decode cX12_holds 178 = .ok (.iload 9, 2) := getB' kX12_holds_8 1 rfl
theorem dX12_holds_180 : decode cX12_holds 180 = .ok (.iconst 5, 1) := getB' kX12_holds_8 2 rfl
theorem dX12_holds_181 : decode cX12_holds 181 = .ok (.if_icmp .eq 10, 3) := getB' kX12_holds_8 3 rfl
theorem dX12_holds_184 : decode cX12_holds 184 = .ok (.iload 9, 2) := getB' kX12_holds_8 4 rfl
theorem dX12_holds_186 : decode cX12_holds 186 = .ok (.bipush 6, 2) := getB' kX12_holds_8 5 rfl
theorem dX12_holds_188 : decode cX12_holds 188 = .ok (.if_icmp .ne 15, 3) := getB' kX12_holds_8 6 rfl
theorem dX12_holds_191 : decode cX12_holds 191 = .ok (.aload_n 0, 1) := getB' kX12_holds_8 7 rfl
theorem dX12_holds_192 : decode cX12_holds 192 = .ok (.getfield 205, 3) := getB' kX12_holds_8 8 rfl
theorem dX12_holds_195 : decode cX12_holds 195 = .ok (.iload 7, 2) := getB' kX12_holds_8 9 rfl
theorem dX12_holds_197 : decode cX12_holds 197 = .ok (.iaload, 1) := getB' kX12_holds_8 10 rfl
theorem dX12_holds_198 : decode cX12_holds 198 = .ok (.ifCond .ne 5, 3) := getB' kX12_holds_8 11 rfl
def LX12_holds_9 : List (Nat × Instr × Nat) := [(201, .iconst 2, 1), (202, .ireturn, 1), (203, .aload_n 0, 1), (204, .getfield 205, 3), (207, .iload 7, 2), (209, .iconst 1, 1), (210, .isub, 1), (211, .iload 9, 2), (213, .aload_n 0, 1), (214, .getfield 205, 3), (217, .iload 7, 2), (219, .iconst 1, 1)]
theorem kX12_holds_9 : chkB cX12_holds LX12_holds_9 = true := by decide +kernel
theorem dX12_holds_201 : decode cX12_holds 201 = .ok (.iconst 2, 1) := getB' kX12_holds_9 0 rfl
theorem dX12_holds_202 : decode cX12_holds 202 = .ok (.ireturn, 1) := getB' kX12_holds_9 1 rfl
theorem dX12_holds_203 : decode cX12_holds 203 = .ok (.aload_n 0, 1) := getB' kX12_holds_9 2 rfl
theorem dX12_holds_204 : decode cX12_holds 204 = .ok (.getfield 205, 3) := getB' kX12_holds_9 3 rfl
theorem dX12_holds_207 : decode cX12_holds 207 = .ok (.iload 7, 2) := getB' kX12_holds_9 4 rfl
theorem dX12_holds_209 : decode cX12_holds 209 = .ok (.iconst 1, 1) := getB' kX12_holds_9 5 rfl
theorem dX12_holds_210 : decode cX12_holds 210 = .ok (.isub, 1) := getB' kX12_holds_9 6 rfl
theorem dX12_holds_211 : decode cX12_holds 211 = .ok (.iload 9, 2) := getB' kX12_holds_9 7 rfl
theorem dX12_holds_213 : decode cX12_holds 213 = .ok (.aload_n 0, 1) := getB' kX12_holds_9 8 rfl
theorem dX12_holds_214 : decode cX12_holds 214 = .ok (.getfield 205, 3) := getB' kX12_holds_9 9 rfl
theorem dX12_holds_217 : decode cX12_holds 217 = .ok (.iload 7, 2) := getB' kX12_holds_9 10 rfl
theorem dX12_holds_219 : decode cX12_holds 219 = .ok (.iconst 1, 1) := getB' kX12_holds_9 11 rfl
def LX12_holds_10 : List (Nat × Instr × Nat) := [(220, .isub, 1), (221, .iaload, 1), (222, .aload_n 0, 1), (223, .getfield 205, 3), (226, .iload 7, 2), (228, .iaload, 1), (229, .invokestatic 588, 3), (232, .iastore, 1), (233, .goto (-227), 3), (236, .aload_n 0, 1), (237, .getfield 205, 3), (240, .iconst 0, 1)]
theorem kX12_holds_10 : chkB cX12_holds LX12_holds_10 = true := by decide +kernel
theorem dX12_holds_220 : decode cX12_holds 220 = .ok (.isub, 1) := getB' kX12_holds_10 0 rfl
theorem dX12_holds_221 : decode cX12_holds 221 = .ok (.iaload, 1) := getB' kX12_holds_10 1 rfl
theorem dX12_holds_222 : decode cX12_holds 222 = .ok (.aload_n 0, 1) := getB' kX12_holds_10 2 rfl
theorem dX12_holds_223 : decode cX12_holds 223 = .ok (.getfield 205, 3) := getB' kX12_holds_10 3 rfl
theorem dX12_holds_226 : decode cX12_holds 226 = .ok (.iload 7, 2) := getB' kX12_holds_10 4 rfl
theorem dX12_holds_228 : decode cX12_holds 228 = .ok (.iaload, 1) := getB' kX12_holds_10 5 rfl
theorem dX12_holds_229 : decode cX12_holds 229 = .ok (.invokestatic 588, 3) := getB' kX12_holds_10 6 rfl
theorem dX12_holds_232 : decode cX12_holds 232 = .ok (.iastore, 1) := getB' kX12_holds_10 7 rfl
theorem dX12_holds_233 : decode cX12_holds 233 = .ok (.goto (-227), 3) := getB' kX12_holds_10 8 rfl
theorem dX12_holds_236 : decode cX12_holds 236 = .ok (.aload_n 0, 1) := getB' kX12_holds_10 9 rfl
theorem dX12_holds_237 : decode cX12_holds 237 = .ok (.getfield 205, 3) := getB' kX12_holds_10 10 rfl
theorem dX12_holds_240 : decode cX12_holds 240 = .ok (.iconst 0, 1) := getB' kX12_holds_10 11 rfl
def LX12_holds_11 : List (Nat × Instr × Nat) := [(241, .iaload, 1), (242, .ireturn, 1)]
theorem kX12_holds_11 : chkB cX12_holds LX12_holds_11 = true := by decide +kernel
theorem dX12_holds_241 : decode cX12_holds 241 = .ok (.iaload, 1) := getB' kX12_holds_11 0 rfl
theorem dX12_holds_242 : decode cX12_holds 242 = .ok (.ireturn, 1) := getB' kX12_holds_11 1 rfl
def LX12_clauseHolds_0 : List (Nat × Instr × Nat) := [(0, .aload_n 0, 1), (1, .getfield 547, 3), (4, .iconst 1, 1), (5, .isub, 1), (6, .istore 5, 2), (8, .iload 5, 2), (10, .ifCond .lt 75, 3), (13, .iload 4, 2), (15, .ifCond .eq 70, 3), (18, .aload_n 0, 1), (19, .getfield 151, 3), (22, .iload 5, 2)]
theorem kX12_clauseHolds_0 : chkB cX12_clauseHolds LX12_clauseHolds_0 = true := by decide +kernel
theorem dX12_clauseHolds_0 : decode cX12_clauseHolds 0 = .ok (.aload_n 0, 1) := getB' kX12_clauseHolds_0 0 rfl
theorem dX12_clauseHolds_1 : decode cX12_clauseHolds 1 = .ok (.getfield 547, 3) := getB' kX12_clauseHolds_0 1 rfl
theorem dX12_clauseHolds_4 : decode cX12_clauseHolds 4 = .ok (.iconst 1, 1) := getB' kX12_clauseHolds_0 2 rfl
theorem dX12_clauseHolds_5 : decode cX12_clauseHolds 5 = .ok (.isub, 1) := getB' kX12_clauseHolds_0 3 rfl
theorem dX12_clauseHolds_6 : decode cX12_clauseHolds 6 = .ok (.istore 5, 2) := getB' kX12_clauseHolds_0 4 rfl
theorem dX12_clauseHolds_8 : decode cX12_clauseHolds 8 = .ok (.iload 5, 2) := getB' kX12_clauseHolds_0 5 rfl
theorem dX12_clauseHolds_10 : decode cX12_clauseHolds 10 = .ok (.ifCond .lt 75, 3) := getB' kX12_clauseHolds_0 6 rfl
theorem dX12_clauseHolds_13 : decode cX12_clauseHolds 13 = .ok (.iload 4, 2) := getB' kX12_clauseHolds_0 7 rfl
theorem dX12_clauseHolds_15 : decode cX12_clauseHolds 15 = .ok (.ifCond .eq 70, 3) := getB' kX12_clauseHolds_0 8 rfl
theorem dX12_clauseHolds_18 : decode cX12_clauseHolds 18 = .ok (.aload_n 0, 1) := getB' kX12_clauseHolds_0 9 rfl
theorem dX12_clauseHolds_19 : decode cX12_clauseHolds 19 = .ok (.getfield 151, 3) := getB' kX12_clauseHolds_0 10 rfl
theorem dX12_clauseHolds_22 : decode cX12_clauseHolds 22 = .ok (.iload 5, 2) := getB' kX12_clauseHolds_0 11 rfl
def LX12_clauseHolds_1 : List (Nat × Instr × Nat) := [(24, .iaload, 1), (25, .aload_n 0, 1), (26, .getfield 166, 3), (29, .iload_n 2, 1), (30, .iaload, 1), (31, .if_icmp .ne 48, 3), (34, .aload_n 0, 1), (35, .getfield 154, 3), (38, .iload 5, 2), (40, .iaload, 1), (41, .iload_n 1, 1), (42, .if_icmp .ne 37, 3)]
theorem kX12_clauseHolds_1 : chkB cX12_clauseHolds LX12_clauseHolds_1 = true := by decide +kernel
theorem dX12_clauseHolds_24 : decode cX12_clauseHolds 24 = .ok (.iaload, 1) := getB' kX12_clauseHolds_1 0 rfl
theorem dX12_clauseHolds_25 : decode cX12_clauseHolds 25 = .ok (.aload_n 0, 1) := getB' kX12_clauseHolds_1 1 rfl
theorem dX12_clauseHolds_26 : decode cX12_clauseHolds 26 = .ok (.getfield 166, 3) := getB' kX12_clauseHolds_1 2 rfl
theorem dX12_clauseHolds_29 : decode cX12_clauseHolds 29 = .ok (.iload_n 2, 1) := getB' kX12_clauseHolds_1 3 rfl
theorem dX12_clauseHolds_30 : decode cX12_clauseHolds 30 = .ok (.iaload, 1) := getB' kX12_clauseHolds_1 4 rfl
theorem dX12_clauseHolds_31 : decode cX12_clauseHolds 31 = .ok (.if_icmp .ne 48, 3) := getB' kX12_clauseHolds_1 5 rfl
theorem dX12_clauseHolds_34 : decode cX12_clauseHolds 34 = .ok (.aload_n 0, 1) := getB' kX12_clauseHolds_1 6 rfl
theorem dX12_clauseHolds_35 : decode cX12_clauseHolds 35 = .ok (.getfield 154, 3) := getB' kX12_clauseHolds_1 7 rfl
theorem dX12_clauseHolds_38 : decode cX12_clauseHolds 38 = .ok (.iload 5, 2) := getB' kX12_clauseHolds_1 8 rfl
theorem dX12_clauseHolds_40 : decode cX12_clauseHolds 40 = .ok (.iaload, 1) := getB' kX12_clauseHolds_1 9 rfl
theorem dX12_clauseHolds_41 : decode cX12_clauseHolds 41 = .ok (.iload_n 1, 1) := getB' kX12_clauseHolds_1 10 rfl
theorem dX12_clauseHolds_42 : decode cX12_clauseHolds 42 = .ok (.if_icmp .ne 37, 3) := getB' kX12_clauseHolds_1 11 rfl
def LX12_clauseHolds_2 : List (Nat × Instr × Nat) := [(45, .aload_n 0, 1), (46, .aload_n 0, 1), (47, .getfield 145, 3), (50, .bipush 110, 2), (52, .iload 5, 2), (54, .imul, 1), (55, .bipush 110, 2), (57, .iload 5, 2), (59, .imul, 1), (60, .bipush 110, 2), (62, .iload 5, 2), (64, .imul, 1)]
theorem kX12_clauseHolds_2 : chkB cX12_clauseHolds LX12_clauseHolds_2 = true := by decide +kernel
theorem dX12_clauseHolds_45 : decode cX12_clauseHolds 45 = .ok (.aload_n 0, 1) := getB' kX12_clauseHolds_2 0 rfl
theorem dX12_clauseHolds_46 : decode cX12_clauseHolds 46 = .ok (.aload_n 0, 1) := getB' kX12_clauseHolds_2 1 rfl
theorem dX12_clauseHolds_47 : decode cX12_clauseHolds 47 = .ok (.getfield 145, 3) := getB' kX12_clauseHolds_2 2 rfl
theorem dX12_clauseHolds_50 : decode cX12_clauseHolds 50 = .ok (.bipush 110, 2) := getB' kX12_clauseHolds_2 3 rfl
theorem dX12_clauseHolds_52 : decode cX12_clauseHolds 52 = .ok (.iload 5, 2) := getB' kX12_clauseHolds_2 4 rfl
theorem dX12_clauseHolds_54 : decode cX12_clauseHolds 54 = .ok (.imul, 1) := getB' kX12_clauseHolds_2 5 rfl
theorem dX12_clauseHolds_55 : decode cX12_clauseHolds 55 = .ok (.bipush 110, 2) := getB' kX12_clauseHolds_2 6 rfl
theorem dX12_clauseHolds_57 : decode cX12_clauseHolds 57 = .ok (.iload 5, 2) := getB' kX12_clauseHolds_2 7 rfl
theorem dX12_clauseHolds_59 : decode cX12_clauseHolds 59 = .ok (.imul, 1) := getB' kX12_clauseHolds_2 8 rfl
theorem dX12_clauseHolds_60 : decode cX12_clauseHolds 60 = .ok (.bipush 110, 2) := getB' kX12_clauseHolds_2 9 rfl
theorem dX12_clauseHolds_62 : decode cX12_clauseHolds 62 = .ok (.iload 5, 2) := getB' kX12_clauseHolds_2 10 rfl
theorem dX12_clauseHolds_64 : decode cX12_clauseHolds 64 = .ok (.imul, 1) := getB' kX12_clauseHolds_2 11 rfl
def LX12_clauseHolds_3 : List (Nat × Instr × Nat) := [(65, .aload_n 0, 1), (66, .getfield 148, 3), (69, .iload 5, 2), (71, .iaload, 1), (72, .iadd, 1), (73, .iload_n 2, 1), (74, .iload_n 3, 1), (75, .invokevirtual 591, 3), (78, .ireturn, 1), (79, .iinc 5 (-1), 3), (82, .goto (-74), 3), (85, .aload_n 0, 1)]
theorem kX12_clauseHolds_3 : chkB cX12_clauseHolds LX12_clauseHolds_3 = true := by decide +kernel
theorem dX12_clauseHolds_65 : decode cX12_clauseHolds 65 = .ok (.aload_n 0, 1) := getB' kX12_clauseHolds_3 0 rfl
theorem dX12_clauseHolds_66 : decode cX12_clauseHolds 66 = .ok (.getfield 148, 3) := getB' kX12_clauseHolds_3 1 rfl
theorem dX12_clauseHolds_69 : decode cX12_clauseHolds 69 = .ok (.iload 5, 2) := getB' kX12_clauseHolds_3 2 rfl
theorem dX12_clauseHolds_71 : decode cX12_clauseHolds 71 = .ok (.iaload, 1) := getB' kX12_clauseHolds_3 3 rfl
theorem dX12_clauseHolds_72 : decode cX12_clauseHolds 72 = .ok (.iadd, 1) := getB' kX12_clauseHolds_3 4 rfl
theorem dX12_clauseHolds_73 : decode cX12_clauseHolds 73 = .ok (.iload_n 2, 1) := getB' kX12_clauseHolds_3 5 rfl
theorem dX12_clauseHolds_74 : decode cX12_clauseHolds 74 = .ok (.iload_n 3, 1) := getB' kX12_clauseHolds_3 6 rfl
theorem dX12_clauseHolds_75 : decode cX12_clauseHolds 75 = .ok (.invokevirtual 591, 3) := getB' kX12_clauseHolds_3 7 rfl
theorem dX12_clauseHolds_78 : decode cX12_clauseHolds 78 = .ok (.ireturn, 1) := getB' kX12_clauseHolds_3 8 rfl
theorem dX12_clauseHolds_79 : decode cX12_clauseHolds 79 = .ok (.iinc 5 (-1), 3) := getB' kX12_clauseHolds_3 9 rfl
theorem dX12_clauseHolds_82 : decode cX12_clauseHolds 82 = .ok (.goto (-74), 3) := getB' kX12_clauseHolds_3 10 rfl
theorem dX12_clauseHolds_85 : decode cX12_clauseHolds 85 = .ok (.aload_n 0, 1) := getB' kX12_clauseHolds_3 11 rfl
def LX12_clauseHolds_4 : List (Nat × Instr × Nat) := [(86, .aload_n 0, 1), (87, .getfield 112, 3), (90, .sipush 220, 3), (93, .iload_n 1, 1), (94, .bipush 12, 2), (96, .idiv, 1), (97, .imul, 1), (98, .aload_n 0, 1), (99, .getfield 127, 3), (102, .iload_n 1, 1), (103, .iaload, 1), (104, .aload_n 0, 1)]
theorem kX12_clauseHolds_4 : chkB cX12_clauseHolds LX12_clauseHolds_4 = true := by decide +kernel
theorem dX12_clauseHolds_86 : decode cX12_clauseHolds 86 = .ok (.aload_n 0, 1) := getB' kX12_clauseHolds_4 0 rfl
theorem dX12_clauseHolds_87 : decode cX12_clauseHolds 87 = .ok (.getfield 112, 3) := getB' kX12_clauseHolds_4 1 rfl
theorem dX12_clauseHolds_90 : decode cX12_clauseHolds 90 = .ok (.sipush 220, 3) := getB' kX12_clauseHolds_4 2 rfl
theorem dX12_clauseHolds_93 : decode cX12_clauseHolds 93 = .ok (.iload_n 1, 1) := getB' kX12_clauseHolds_4 3 rfl
theorem dX12_clauseHolds_94 : decode cX12_clauseHolds 94 = .ok (.bipush 12, 2) := getB' kX12_clauseHolds_4 4 rfl
theorem dX12_clauseHolds_96 : decode cX12_clauseHolds 96 = .ok (.idiv, 1) := getB' kX12_clauseHolds_4 5 rfl
theorem dX12_clauseHolds_97 : decode cX12_clauseHolds 97 = .ok (.imul, 1) := getB' kX12_clauseHolds_4 6 rfl
theorem dX12_clauseHolds_98 : decode cX12_clauseHolds 98 = .ok (.aload_n 0, 1) := getB' kX12_clauseHolds_4 7 rfl
theorem dX12_clauseHolds_99 : decode cX12_clauseHolds 99 = .ok (.getfield 127, 3) := getB' kX12_clauseHolds_4 8 rfl
theorem dX12_clauseHolds_102 : decode cX12_clauseHolds 102 = .ok (.iload_n 1, 1) := getB' kX12_clauseHolds_4 9 rfl
theorem dX12_clauseHolds_103 : decode cX12_clauseHolds 103 = .ok (.iaload, 1) := getB' kX12_clauseHolds_4 10 rfl
theorem dX12_clauseHolds_104 : decode cX12_clauseHolds 104 = .ok (.aload_n 0, 1) := getB' kX12_clauseHolds_4 11 rfl
def LX12_clauseHolds_5 : List (Nat × Instr × Nat) := [(105, .getfield 130, 3), (108, .iload_n 1, 1), (109, .iaload, 1), (110, .iload_n 2, 1), (111, .iload_n 3, 1), (112, .invokevirtual 591, 3), (115, .ireturn, 1)]
theorem kX12_clauseHolds_5 : chkB cX12_clauseHolds LX12_clauseHolds_5 = true := by decide +kernel
theorem dX12_clauseHolds_105 : decode cX12_clauseHolds 105 = .ok (.getfield 130, 3) := getB' kX12_clauseHolds_5 0 rfl
theorem dX12_clauseHolds_108 : decode cX12_clauseHolds 108 = .ok (.iload_n 1, 1) := getB' kX12_clauseHolds_5 1 rfl
theorem dX12_clauseHolds_109 : decode cX12_clauseHolds 109 = .ok (.iaload, 1) := getB' kX12_clauseHolds_5 2 rfl
theorem dX12_clauseHolds_110 : decode cX12_clauseHolds 110 = .ok (.iload_n 2, 1) := getB' kX12_clauseHolds_5 3 rfl
theorem dX12_clauseHolds_111 : decode cX12_clauseHolds 111 = .ok (.iload_n 3, 1) := getB' kX12_clauseHolds_5 4 rfl
theorem dX12_clauseHolds_112 : decode cX12_clauseHolds 112 = .ok (.invokevirtual 591, 3) := getB' kX12_clauseHolds_5 5 rfl
theorem dX12_clauseHolds_115 : decode cX12_clauseHolds 115 = .ok (.ireturn, 1) := getB' kX12_clauseHolds_5 6 rfl
def LX12_barOf_0 : List (Nat × Instr × Nat) := [(0, .aload_n 0, 1), (1, .iload_n 1, 1), (2, .iload_n 2, 1), (3, .iload_n 3, 1), (4, .iload 4, 2), (6, .invokevirtual 595, 3), (9, .istore 5, 2), (11, .iload 5, 2), (13, .iconst 2, 1), (14, .if_icmp .ne 6, 3), (17, .bipush 6, 2), (19, .ireturn, 1)]
theorem kX12_barOf_0 : chkB cX12_barOf LX12_barOf_0 = true := by decide +kernel
theorem dX12_barOf_0 : decode cX12_barOf 0 = .ok (.aload_n 0, 1) := getB' kX12_barOf_0 0 rfl
theorem dX12_barOf_1 : decode cX12_barOf 1 = .ok (.iload_n 1, 1) := getB' kX12_barOf_0 1 rfl
theorem dX12_barOf_2 : decode cX12_barOf 2 = .ok (.iload_n 2, 1) := getB' kX12_barOf_0 2 rfl
theorem dX12_barOf_3 : decode cX12_barOf 3 = .ok (.iload_n 3, 1) := getB' kX12_barOf_0 3 rfl
theorem dX12_barOf_4 : decode cX12_barOf 4 = .ok (.iload 4, 2) := getB' kX12_barOf_0 4 rfl
theorem dX12_barOf_6 : decode cX12_barOf 6 = .ok (.invokevirtual 595, 3) := getB' kX12_barOf_0 5 rfl
theorem dX12_barOf_9 : decode cX12_barOf 9 = .ok (.istore 5, 2) := getB' kX12_barOf_0 6 rfl
theorem dX12_barOf_11 : decode cX12_barOf 11 = .ok (.iload 5, 2) := getB' kX12_barOf_0 7 rfl
theorem dX12_barOf_13 : decode cX12_barOf 13 = .ok (.iconst 2, 1) := getB' kX12_barOf_0 8 rfl
theorem dX12_barOf_14 : decode cX12_barOf 14 = .ok (.if_icmp .ne 6, 3) := getB' kX12_barOf_0 9 rfl
theorem dX12_barOf_17 : decode cX12_barOf 17 = .ok (.bipush 6, 2) := getB' kX12_barOf_0 10 rfl
theorem dX12_barOf_19 : decode cX12_barOf 19 = .ok (.ireturn, 1) := getB' kX12_barOf_0 11 rfl
def LX12_barOf_1 : List (Nat × Instr × Nat) := [(20, .iload 5, 2), (22, .ifCond .ne 5, 3), (25, .iconst 0, 1), (26, .ireturn, 1), (27, .aload_n 0, 1), (28, .getfield 124, 3), (31, .iload_n 1, 1), (32, .iaload, 1), (33, .lookupswitch 147 #[(102, 43), (108, 45), (110, 71), (115, 109)], 43), (76, .iconst 1, 1), (77, .ireturn, 1), (78, .aload_n 0, 1)]
theorem kX12_barOf_1 : chkB cX12_barOf LX12_barOf_1 = true := by decide +kernel
theorem dX12_barOf_20 : decode cX12_barOf 20 = .ok (.iload 5, 2) := getB' kX12_barOf_1 0 rfl
theorem dX12_barOf_22 : decode cX12_barOf 22 = .ok (.ifCond .ne 5, 3) := getB' kX12_barOf_1 1 rfl
theorem dX12_barOf_25 : decode cX12_barOf 25 = .ok (.iconst 0, 1) := getB' kX12_barOf_1 2 rfl
theorem dX12_barOf_26 : decode cX12_barOf 26 = .ok (.ireturn, 1) := getB' kX12_barOf_1 3 rfl
theorem dX12_barOf_27 : decode cX12_barOf 27 = .ok (.aload_n 0, 1) := getB' kX12_barOf_1 4 rfl
theorem dX12_barOf_28 : decode cX12_barOf 28 = .ok (.getfield 124, 3) := getB' kX12_barOf_1 5 rfl
theorem dX12_barOf_31 : decode cX12_barOf 31 = .ok (.iload_n 1, 1) := getB' kX12_barOf_1 6 rfl
theorem dX12_barOf_32 : decode cX12_barOf 32 = .ok (.iaload, 1) := getB' kX12_barOf_1 7 rfl
theorem dX12_barOf_33 : decode cX12_barOf 33 = .ok (.lookupswitch 147 #[(102, 43), (108, 45), (110, 71), (115, 109)], 43) := getB' kX12_barOf_1 8 rfl
theorem dX12_barOf_76 : decode cX12_barOf 76 = .ok (.iconst 1, 1) := getB' kX12_barOf_1 9 rfl
theorem dX12_barOf_77 : decode cX12_barOf 77 = .ok (.ireturn, 1) := getB' kX12_barOf_1 10 rfl
theorem dX12_barOf_78 : decode cX12_barOf 78 = .ok (.aload_n 0, 1) := getB' kX12_barOf_1 11 rfl
def LX12_barOf_2 : List (Nat × Instr × Nat) := [(79, .getfield 193, 3), (82, .iload_n 2, 1), (83, .iaload, 1), (84, .iconst (-1), 1), (85, .if_icmp .eq 17, 3), (88, .aload_n 0, 1), (89, .getfield 193, 3), (92, .iload_n 2, 1), (93, .iaload, 1), (94, .iload_n 3, 1), (95, .if_icmp .gt 7, 3), (98, .iconst 0, 1)]
theorem kX12_barOf_2 : chkB cX12_barOf LX12_barOf_2 = true := by decide +kernel
theorem dX12_barOf_79 : decode cX12_barOf 79 = .ok (.getfield 193, 3) := getB' kX12_barOf_2 0 rfl
theorem dX12_barOf_82 : decode cX12_barOf 82 = .ok (.iload_n 2, 1) := getB' kX12_barOf_2 1 rfl
theorem dX12_barOf_83 : decode cX12_barOf 83 = .ok (.iaload, 1) := getB' kX12_barOf_2 2 rfl
theorem dX12_barOf_84 : decode cX12_barOf 84 = .ok (.iconst (-1), 1) := getB' kX12_barOf_2 3 rfl
theorem dX12_barOf_85 : decode cX12_barOf 85 = .ok (.if_icmp .eq 17, 3) := getB' kX12_barOf_2 4 rfl
theorem dX12_barOf_88 : decode cX12_barOf 88 = .ok (.aload_n 0, 1) := getB' kX12_barOf_2 5 rfl
theorem dX12_barOf_89 : decode cX12_barOf 89 = .ok (.getfield 193, 3) := getB' kX12_barOf_2 6 rfl
theorem dX12_barOf_92 : decode cX12_barOf 92 = .ok (.iload_n 2, 1) := getB' kX12_barOf_2 7 rfl
theorem dX12_barOf_93 : decode cX12_barOf 93 = .ok (.iaload, 1) := getB' kX12_barOf_2 8 rfl
theorem dX12_barOf_94 : decode cX12_barOf 94 = .ok (.iload_n 3, 1) := getB' kX12_barOf_2 9 rfl
theorem dX12_barOf_95 : decode cX12_barOf 95 = .ok (.if_icmp .gt 7, 3) := getB' kX12_barOf_2 10 rfl
theorem dX12_barOf_98 : decode cX12_barOf 98 = .ok (.iconst 0, 1) := getB' kX12_barOf_2 11 rfl
def LX12_barOf_3 : List (Nat × Instr × Nat) := [(99, .goto 4, 3), (102, .iconst 2, 1), (103, .ireturn, 1), (104, .aload_n 0, 1), (105, .getfield 190, 3), (108, .iload_n 2, 1), (109, .iaload, 1), (110, .iconst (-1), 1), (111, .if_icmp .eq 29, 3), (114, .aload_n 0, 1), (115, .getfield 190, 3), (118, .iload_n 2, 1)]
theorem kX12_barOf_3 : chkB cX12_barOf LX12_barOf_3 = true := by decide +kernel
theorem dX12_barOf_99 : decode cX12_barOf 99 = .ok (.goto 4, 3) := getB' kX12_barOf_3 0 rfl
theorem dX12_barOf_102 : decode cX12_barOf 102 = .ok (.iconst 2, 1) := getB' kX12_barOf_3 1 rfl
theorem dX12_barOf_103 : decode cX12_barOf 103 = .ok (.ireturn, 1) := getB' kX12_barOf_3 2 rfl
theorem dX12_barOf_104 : decode cX12_barOf 104 = .ok (.aload_n 0, 1) := getB' kX12_barOf_3 3 rfl
theorem dX12_barOf_105 : decode cX12_barOf 105 = .ok (.getfield 190, 3) := getB' kX12_barOf_3 4 rfl
theorem dX12_barOf_108 : decode cX12_barOf 108 = .ok (.iload_n 2, 1) := getB' kX12_barOf_3 5 rfl
theorem dX12_barOf_109 : decode cX12_barOf 109 = .ok (.iaload, 1) := getB' kX12_barOf_3 6 rfl
theorem dX12_barOf_110 : decode cX12_barOf 110 = .ok (.iconst (-1), 1) := getB' kX12_barOf_3 7 rfl
theorem dX12_barOf_111 : decode cX12_barOf 111 = .ok (.if_icmp .eq 29, 3) := getB' kX12_barOf_3 8 rfl
theorem dX12_barOf_114 : decode cX12_barOf 114 = .ok (.aload_n 0, 1) := getB' kX12_barOf_3 9 rfl
theorem dX12_barOf_115 : decode cX12_barOf 115 = .ok (.getfield 190, 3) := getB' kX12_barOf_3 10 rfl
theorem dX12_barOf_118 : decode cX12_barOf 118 = .ok (.iload_n 2, 1) := getB' kX12_barOf_3 11 rfl
def LX12_barOf_4 : List (Nat × Instr × Nat) := [(119, .iaload, 1), (120, .aload_n 0, 1), (121, .getfield 133, 3), (124, .iload_n 1, 1), (125, .iaload, 1), (126, .iadd, 1), (127, .aload_n 0, 1), (128, .getfield 172, 3), (131, .iload_n 2, 1), (132, .iaload, 1), (133, .if_icmp .gt 7, 3), (136, .iconst 0, 1)]
theorem kX12_barOf_4 : chkB cX12_barOf LX12_barOf_4 = true := by decide +kernel
theorem dX12_barOf_119 : decode cX12_barOf 119 = .ok (.iaload, 1) := getB' kX12_barOf_4 0 rfl
theorem dX12_barOf_120 : decode cX12_barOf 120 = .ok (.aload_n 0, 1) := getB' kX12_barOf_4 1 rfl
theorem dX12_barOf_121 : decode cX12_barOf 121 = .ok (.getfield 133, 3) := getB' kX12_barOf_4 2 rfl
theorem dX12_barOf_124 : decode cX12_barOf 124 = .ok (.iload_n 1, 1) := getB' kX12_barOf_4 3 rfl
theorem dX12_barOf_125 : decode cX12_barOf 125 = .ok (.iaload, 1) := getB' kX12_barOf_4 4 rfl
theorem dX12_barOf_126 : decode cX12_barOf 126 = .ok (.iadd, 1) := getB' kX12_barOf_4 5 rfl
theorem dX12_barOf_127 : decode cX12_barOf 127 = .ok (.aload_n 0, 1) := getB' kX12_barOf_4 6 rfl
theorem dX12_barOf_128 : decode cX12_barOf 128 = .ok (.getfield 172, 3) := getB' kX12_barOf_4 7 rfl
theorem dX12_barOf_131 : decode cX12_barOf 131 = .ok (.iload_n 2, 1) := getB' kX12_barOf_4 8 rfl
theorem dX12_barOf_132 : decode cX12_barOf 132 = .ok (.iaload, 1) := getB' kX12_barOf_4 9 rfl
theorem dX12_barOf_133 : decode cX12_barOf 133 = .ok (.if_icmp .gt 7, 3) := getB' kX12_barOf_4 10 rfl
theorem dX12_barOf_136 : decode cX12_barOf 136 = .ok (.iconst 0, 1) := getB' kX12_barOf_4 11 rfl
def LX12_barOf_5 : List (Nat × Instr × Nat) := [(137, .goto 4, 3), (140, .iconst 3, 1), (141, .ireturn, 1), (142, .aload_n 0, 1), (143, .getfield 196, 3), (146, .iload_n 2, 1), (147, .iaload, 1), (148, .iconst (-1), 1), (149, .if_icmp .eq 29, 3), (152, .aload_n 0, 1), (153, .getfield 196, 3), (156, .iload_n 2, 1)]
theorem kX12_barOf_5 : chkB cX12_barOf LX12_barOf_5 = true := by decide +kernel
theorem dX12_barOf_137 : decode cX12_barOf 137 = .ok (.goto 4, 3) := getB' kX12_barOf_5 0 rfl
theorem dX12_barOf_140 : decode cX12_barOf 140 = .ok (.iconst 3, 1) := getB' kX12_barOf_5 1 rfl
theorem dX12_barOf_141 : decode cX12_barOf 141 = .ok (.ireturn, 1) := getB' kX12_barOf_5 2 rfl
theorem dX12_barOf_142 : decode cX12_barOf 142 = .ok (.aload_n 0, 1) := getB' kX12_barOf_5 3 rfl
theorem dX12_barOf_143 : decode cX12_barOf 143 = .ok (.getfield 196, 3) := getB' kX12_barOf_5 4 rfl
theorem dX12_barOf_146 : decode cX12_barOf 146 = .ok (.iload_n 2, 1) := getB' kX12_barOf_5 5 rfl
theorem dX12_barOf_147 : decode cX12_barOf 147 = .ok (.iaload, 1) := getB' kX12_barOf_5 6 rfl
theorem dX12_barOf_148 : decode cX12_barOf 148 = .ok (.iconst (-1), 1) := getB' kX12_barOf_5 7 rfl
theorem dX12_barOf_149 : decode cX12_barOf 149 = .ok (.if_icmp .eq 29, 3) := getB' kX12_barOf_5 8 rfl
theorem dX12_barOf_152 : decode cX12_barOf 152 = .ok (.aload_n 0, 1) := getB' kX12_barOf_5 9 rfl
theorem dX12_barOf_153 : decode cX12_barOf 153 = .ok (.getfield 196, 3) := getB' kX12_barOf_5 10 rfl
theorem dX12_barOf_156 : decode cX12_barOf 156 = .ok (.iload_n 2, 1) := getB' kX12_barOf_5 11 rfl
def LX12_barOf_6 : List (Nat × Instr × Nat) := [(157, .iaload, 1), (158, .aload_n 0, 1), (159, .getfield 133, 3), (162, .iload_n 1, 1), (163, .iaload, 1), (164, .iadd, 1), (165, .aload_n 0, 1), (166, .getfield 172, 3), (169, .iload_n 2, 1), (170, .iaload, 1), (171, .if_icmp .gt 7, 3), (174, .iconst 0, 1)]
theorem kX12_barOf_6 : chkB cX12_barOf LX12_barOf_6 = true := by decide +kernel
theorem dX12_barOf_157 : decode cX12_barOf 157 = .ok (.iaload, 1) := getB' kX12_barOf_6 0 rfl
theorem dX12_barOf_158 : decode cX12_barOf 158 = .ok (.aload_n 0, 1) := getB' kX12_barOf_6 1 rfl
theorem dX12_barOf_159 : decode cX12_barOf 159 = .ok (.getfield 133, 3) := getB' kX12_barOf_6 2 rfl
theorem dX12_barOf_162 : decode cX12_barOf 162 = .ok (.iload_n 1, 1) := getB' kX12_barOf_6 3 rfl
theorem dX12_barOf_163 : decode cX12_barOf 163 = .ok (.iaload, 1) := getB' kX12_barOf_6 4 rfl
theorem dX12_barOf_164 : decode cX12_barOf 164 = .ok (.iadd, 1) := getB' kX12_barOf_6 5 rfl
theorem dX12_barOf_165 : decode cX12_barOf 165 = .ok (.aload_n 0, 1) := getB' kX12_barOf_6 6 rfl
theorem dX12_barOf_166 : decode cX12_barOf 166 = .ok (.getfield 172, 3) := getB' kX12_barOf_6 7 rfl
theorem dX12_barOf_169 : decode cX12_barOf 169 = .ok (.iload_n 2, 1) := getB' kX12_barOf_6 8 rfl
theorem dX12_barOf_170 : decode cX12_barOf 170 = .ok (.iaload, 1) := getB' kX12_barOf_6 9 rfl
theorem dX12_barOf_171 : decode cX12_barOf 171 = .ok (.if_icmp .gt 7, 3) := getB' kX12_barOf_6 10 rfl
theorem dX12_barOf_174 : decode cX12_barOf 174 = .ok (.iconst 0, 1) := getB' kX12_barOf_6 11 rfl
def LX12_barOf_7 : List (Nat × Instr × Nat) := [(175, .goto 4, 3), (178, .iconst 4, 1), (179, .ireturn, 1), (180, .aload_n 0, 1), (181, .iload_n 2, 1), (182, .iload_n 3, 1), (183, .invokevirtual 599, 3), (186, .ifCond .eq 7, 3), (189, .iconst 0, 1), (190, .goto 4, 3), (193, .iconst 5, 1), (194, .ireturn, 1)]
theorem kX12_barOf_7 : chkB cX12_barOf LX12_barOf_7 = true := by decide +kernel
theorem dX12_barOf_175 : decode cX12_barOf 175 = .ok (.goto 4, 3) := getB' kX12_barOf_7 0 rfl
theorem dX12_barOf_178 : decode cX12_barOf 178 = .ok (.iconst 4, 1) := getB' kX12_barOf_7 1 rfl
theorem dX12_barOf_179 : decode cX12_barOf 179 = .ok (.ireturn, 1) := getB' kX12_barOf_7 2 rfl
theorem dX12_barOf_180 : decode cX12_barOf 180 = .ok (.aload_n 0, 1) := getB' kX12_barOf_7 3 rfl
theorem dX12_barOf_181 : decode cX12_barOf 181 = .ok (.iload_n 2, 1) := getB' kX12_barOf_7 4 rfl
theorem dX12_barOf_182 : decode cX12_barOf 182 = .ok (.iload_n 3, 1) := getB' kX12_barOf_7 5 rfl
theorem dX12_barOf_183 : decode cX12_barOf 183 = .ok (.invokevirtual 599, 3) := getB' kX12_barOf_7 6 rfl
theorem dX12_barOf_186 : decode cX12_barOf 186 = .ok (.ifCond .eq 7, 3) := getB' kX12_barOf_7 7 rfl
theorem dX12_barOf_189 : decode cX12_barOf 189 = .ok (.iconst 0, 1) := getB' kX12_barOf_7 8 rfl
theorem dX12_barOf_190 : decode cX12_barOf 190 = .ok (.goto 4, 3) := getB' kX12_barOf_7 9 rfl
theorem dX12_barOf_193 : decode cX12_barOf 193 = .ok (.iconst 5, 1) := getB' kX12_barOf_7 10 rfl
theorem dX12_barOf_194 : decode cX12_barOf 194 = .ok (.ireturn, 1) := getB' kX12_barOf_7 11 rfl
def LX12_mayOn_0 : List (Nat × Instr × Nat) := [(0, .aload_n 0, 1), (1, .aload_n 0, 1), (2, .getfield 166, 3), (5, .iload_n 1, 1), (6, .iaload, 1), (7, .iload_n 2, 1), (8, .invokevirtual 557, 3), (11, .iconst 0, 1), (12, .istore 4, 2), (14, .iload 4, 2), (16, .aload_n 0, 1), (17, .getfield 535, 3)]
theorem kX12_mayOn_0 : chkB cX12_mayOn LX12_mayOn_0 = true := by decide +kernel
theorem dX12_mayOn_0 : decode cX12_mayOn 0 = .ok (.aload_n 0, 1) := getB' kX12_mayOn_0 0 rfl
theorem dX12_mayOn_1 : decode cX12_mayOn 1 = .ok (.aload_n 0, 1) := getB' kX12_mayOn_0 1 rfl
theorem dX12_mayOn_2 : decode cX12_mayOn 2 = .ok (.getfield 166, 3) := getB' kX12_mayOn_0 2 rfl
theorem dX12_mayOn_5 : decode cX12_mayOn 5 = .ok (.iload_n 1, 1) := getB' kX12_mayOn_0 3 rfl
theorem dX12_mayOn_6 : decode cX12_mayOn 6 = .ok (.iaload, 1) := getB' kX12_mayOn_0 4 rfl
theorem dX12_mayOn_7 : decode cX12_mayOn 7 = .ok (.iload_n 2, 1) := getB' kX12_mayOn_0 5 rfl
theorem dX12_mayOn_8 : decode cX12_mayOn 8 = .ok (.invokevirtual 557, 3) := getB' kX12_mayOn_0 6 rfl
theorem dX12_mayOn_11 : decode cX12_mayOn 11 = .ok (.iconst 0, 1) := getB' kX12_mayOn_0 7 rfl
theorem dX12_mayOn_12 : decode cX12_mayOn 12 = .ok (.istore 4, 2) := getB' kX12_mayOn_0 8 rfl
theorem dX12_mayOn_14 : decode cX12_mayOn 14 = .ok (.iload 4, 2) := getB' kX12_mayOn_0 9 rfl
theorem dX12_mayOn_16 : decode cX12_mayOn 16 = .ok (.aload_n 0, 1) := getB' kX12_mayOn_0 10 rfl
theorem dX12_mayOn_17 : decode cX12_mayOn 17 = .ok (.getfield 535, 3) := getB' kX12_mayOn_0 11 rfl
def LX12_mayOn_1 : List (Nat × Instr × Nat) := [(20, .if_icmp .ge 104, 3), (23, .iconst 0, 1), (24, .istore 5, 2), (26, .iload 5, 2), (28, .aload_n 0, 1), (29, .getfield 115, 3), (32, .iload 4, 2), (34, .iaload, 1), (35, .if_icmp .ge 83, 3), (38, .aload_n 0, 1), (39, .getfield 157, 3), (42, .iload 4, 2)]
theorem kX12_mayOn_1 : chkB cX12_mayOn LX12_mayOn_1 = true := by decide +kernel
theorem dX12_mayOn_20 : decode cX12_mayOn 20 = .ok (.if_icmp .ge 104, 3) := getB' kX12_mayOn_1 0 rfl
theorem dX12_mayOn_23 : decode cX12_mayOn 23 = .ok (.iconst 0, 1) := getB' kX12_mayOn_1 1 rfl
theorem dX12_mayOn_24 : decode cX12_mayOn 24 = .ok (.istore 5, 2) := getB' kX12_mayOn_1 2 rfl
theorem dX12_mayOn_26 : decode cX12_mayOn 26 = .ok (.iload 5, 2) := getB' kX12_mayOn_1 3 rfl
theorem dX12_mayOn_28 : decode cX12_mayOn 28 = .ok (.aload_n 0, 1) := getB' kX12_mayOn_1 4 rfl
theorem dX12_mayOn_29 : decode cX12_mayOn 29 = .ok (.getfield 115, 3) := getB' kX12_mayOn_1 5 rfl
theorem dX12_mayOn_32 : decode cX12_mayOn 32 = .ok (.iload 4, 2) := getB' kX12_mayOn_1 6 rfl
theorem dX12_mayOn_34 : decode cX12_mayOn 34 = .ok (.iaload, 1) := getB' kX12_mayOn_1 7 rfl
theorem dX12_mayOn_35 : decode cX12_mayOn 35 = .ok (.if_icmp .ge 83, 3) := getB' kX12_mayOn_1 8 rfl
theorem dX12_mayOn_38 : decode cX12_mayOn 38 = .ok (.aload_n 0, 1) := getB' kX12_mayOn_1 9 rfl
theorem dX12_mayOn_39 : decode cX12_mayOn 39 = .ok (.getfield 157, 3) := getB' kX12_mayOn_1 10 rfl
theorem dX12_mayOn_42 : decode cX12_mayOn 42 = .ok (.iload 4, 2) := getB' kX12_mayOn_1 11 rfl
def LX12_mayOn_2 : List (Nat × Instr × Nat) := [(44, .baload, 1), (45, .ifCond .eq 73, 3), (48, .bipush 12, 2), (50, .iload 4, 2), (52, .imul, 1), (53, .iload 5, 2), (55, .iadd, 1), (56, .istore 6, 2), (58, .aload_n 0, 1), (59, .getfield 160, 3), (62, .iload 6, 2), (64, .baload, 1)]
theorem kX12_mayOn_2 : chkB cX12_mayOn LX12_mayOn_2 = true := by decide +kernel
theorem dX12_mayOn_44 : decode cX12_mayOn 44 = .ok (.baload, 1) := getB' kX12_mayOn_2 0 rfl
theorem dX12_mayOn_45 : decode cX12_mayOn 45 = .ok (.ifCond .eq 73, 3) := getB' kX12_mayOn_2 1 rfl
theorem dX12_mayOn_48 : decode cX12_mayOn 48 = .ok (.bipush 12, 2) := getB' kX12_mayOn_2 2 rfl
theorem dX12_mayOn_50 : decode cX12_mayOn 50 = .ok (.iload 4, 2) := getB' kX12_mayOn_2 3 rfl
theorem dX12_mayOn_52 : decode cX12_mayOn 52 = .ok (.imul, 1) := getB' kX12_mayOn_2 4 rfl
theorem dX12_mayOn_53 : decode cX12_mayOn 53 = .ok (.iload 5, 2) := getB' kX12_mayOn_2 5 rfl
theorem dX12_mayOn_55 : decode cX12_mayOn 55 = .ok (.iadd, 1) := getB' kX12_mayOn_2 6 rfl
theorem dX12_mayOn_56 : decode cX12_mayOn 56 = .ok (.istore 6, 2) := getB' kX12_mayOn_2 7 rfl
theorem dX12_mayOn_58 : decode cX12_mayOn 58 = .ok (.aload_n 0, 1) := getB' kX12_mayOn_2 8 rfl
theorem dX12_mayOn_59 : decode cX12_mayOn 59 = .ok (.getfield 160, 3) := getB' kX12_mayOn_2 9 rfl
theorem dX12_mayOn_62 : decode cX12_mayOn 62 = .ok (.iload 6, 2) := getB' kX12_mayOn_2 10 rfl
theorem dX12_mayOn_64 : decode cX12_mayOn 64 = .ok (.baload, 1) := getB' kX12_mayOn_2 11 rfl
def LX12_mayOn_3 : List (Nat × Instr × Nat) := [(65, .ifCond .ne 47, 3), (68, .aload_n 0, 1), (69, .getfield 124, 3), (72, .iload 6, 2), (74, .iaload, 1), (75, .invokestatic 520, 3), (78, .ifCond .ne 6, 3), (81, .goto 31, 3), (84, .aload_n 0, 1), (85, .iload 6, 2), (87, .iload_n 1, 1), (88, .iload_n 2, 1)]
theorem kX12_mayOn_3 : chkB cX12_mayOn LX12_mayOn_3 = true := by decide +kernel
theorem dX12_mayOn_65 : decode cX12_mayOn 65 = .ok (.ifCond .ne 47, 3) := getB' kX12_mayOn_3 0 rfl
theorem dX12_mayOn_68 : decode cX12_mayOn 68 = .ok (.aload_n 0, 1) := getB' kX12_mayOn_3 1 rfl
theorem dX12_mayOn_69 : decode cX12_mayOn 69 = .ok (.getfield 124, 3) := getB' kX12_mayOn_3 2 rfl
theorem dX12_mayOn_72 : decode cX12_mayOn 72 = .ok (.iload 6, 2) := getB' kX12_mayOn_3 3 rfl
theorem dX12_mayOn_74 : decode cX12_mayOn 74 = .ok (.iaload, 1) := getB' kX12_mayOn_3 4 rfl
theorem dX12_mayOn_75 : decode cX12_mayOn 75 = .ok (.invokestatic 520, 3) := getB' kX12_mayOn_3 5 rfl
theorem dX12_mayOn_78 : decode cX12_mayOn 78 = .ok (.ifCond .ne 6, 3) := getB' kX12_mayOn_3 6 rfl
theorem dX12_mayOn_81 : decode cX12_mayOn 81 = .ok (.goto 31, 3) := getB' kX12_mayOn_3 7 rfl
theorem dX12_mayOn_84 : decode cX12_mayOn 84 = .ok (.aload_n 0, 1) := getB' kX12_mayOn_3 8 rfl
theorem dX12_mayOn_85 : decode cX12_mayOn 85 = .ok (.iload 6, 2) := getB' kX12_mayOn_3 9 rfl
theorem dX12_mayOn_87 : decode cX12_mayOn 87 = .ok (.iload_n 1, 1) := getB' kX12_mayOn_3 10 rfl
theorem dX12_mayOn_88 : decode cX12_mayOn 88 = .ok (.iload_n 2, 1) := getB' kX12_mayOn_3 11 rfl
def LX12_mayOn_4 : List (Nat × Instr × Nat) := [(89, .iload_n 3, 1), (90, .invokevirtual 602, 3), (93, .istore 7, 2), (95, .iload 7, 2), (97, .ifCond .ne 6, 3), (100, .goto 12, 3), (103, .aload_n 0, 1), (104, .iload 6, 2), (106, .putfield 605, 3), (109, .iload 7, 2), (111, .ireturn, 1), (112, .iinc 5 1, 3)]
theorem kX12_mayOn_4 : chkB cX12_mayOn LX12_mayOn_4 = true := by decide +kernel
theorem dX12_mayOn_89 : decode cX12_mayOn 89 = .ok (.iload_n 3, 1) := getB' kX12_mayOn_4 0 rfl
theorem dX12_mayOn_90 : decode cX12_mayOn 90 = .ok (.invokevirtual 602, 3) := getB' kX12_mayOn_4 1 rfl
theorem dX12_mayOn_93 : decode cX12_mayOn 93 = .ok (.istore 7, 2) := getB' kX12_mayOn_4 2 rfl
theorem dX12_mayOn_95 : decode cX12_mayOn 95 = .ok (.iload 7, 2) := getB' kX12_mayOn_4 3 rfl
theorem dX12_mayOn_97 : decode cX12_mayOn 97 = .ok (.ifCond .ne 6, 3) := getB' kX12_mayOn_4 4 rfl
theorem dX12_mayOn_100 : decode cX12_mayOn 100 = .ok (.goto 12, 3) := getB' kX12_mayOn_4 5 rfl
theorem dX12_mayOn_103 : decode cX12_mayOn 103 = .ok (.aload_n 0, 1) := getB' kX12_mayOn_4 6 rfl
theorem dX12_mayOn_104 : decode cX12_mayOn 104 = .ok (.iload 6, 2) := getB' kX12_mayOn_4 7 rfl
theorem dX12_mayOn_106 : decode cX12_mayOn 106 = .ok (.putfield 605, 3) := getB' kX12_mayOn_4 8 rfl
theorem dX12_mayOn_109 : decode cX12_mayOn 109 = .ok (.iload 7, 2) := getB' kX12_mayOn_4 9 rfl
theorem dX12_mayOn_111 : decode cX12_mayOn 111 = .ok (.ireturn, 1) := getB' kX12_mayOn_4 10 rfl
theorem dX12_mayOn_112 : decode cX12_mayOn 112 = .ok (.iinc 5 1, 3) := getB' kX12_mayOn_4 11 rfl
def LX12_mayOn_5 : List (Nat × Instr × Nat) := [(115, .goto (-89), 3), (118, .iinc 4 1, 3), (121, .goto (-107), 3), (124, .iconst 0, 1), (125, .ireturn, 1)]
theorem kX12_mayOn_5 : chkB cX12_mayOn LX12_mayOn_5 = true := by decide +kernel
theorem dX12_mayOn_115 : decode cX12_mayOn 115 = .ok (.goto (-89), 3) := getB' kX12_mayOn_5 0 rfl
theorem dX12_mayOn_118 : decode cX12_mayOn 118 = .ok (.iinc 4 1, 3) := getB' kX12_mayOn_5 1 rfl
theorem dX12_mayOn_121 : decode cX12_mayOn 121 = .ok (.goto (-107), 3) := getB' kX12_mayOn_5 2 rfl
theorem dX12_mayOn_124 : decode cX12_mayOn 124 = .ok (.iconst 0, 1) := getB' kX12_mayOn_5 3 rfl
theorem dX12_mayOn_125 : decode cX12_mayOn 125 = .ok (.ireturn, 1) := getB' kX12_mayOn_5 4 rfl
def LX12_may_0 : List (Nat × Instr × Nat) := [(0, .aload_n 0, 1), (1, .iload_n 1, 1), (2, .invokevirtual 566, 3), (5, .ifCond .eq 20, 3), (8, .iload_n 2, 1), (9, .invokestatic 409, 3), (12, .ifCond .eq 13, 3), (15, .aload_n 0, 1), (16, .iload_n 1, 1), (17, .iload_n 2, 1), (18, .iload_n 3, 1), (19, .invokevirtual 608, 3)]
theorem kX12_may_0 : chkB cX12_may LX12_may_0 = true := by decide +kernel
theorem dX12_may_0 : decode cX12_may 0 = .ok (.aload_n 0, 1) := getB' kX12_may_0 0 rfl
theorem dX12_may_1 : decode cX12_may 1 = .ok (.iload_n 1, 1) := getB' kX12_may_0 1 rfl
theorem dX12_may_2 : decode cX12_may 2 = .ok (.invokevirtual 566, 3) := getB' kX12_may_0 2 rfl
theorem dX12_may_5 : decode cX12_may 5 = .ok (.ifCond .eq 20, 3) := getB' kX12_may_0 3 rfl
theorem dX12_may_8 : decode cX12_may 8 = .ok (.iload_n 2, 1) := getB' kX12_may_0 4 rfl
theorem dX12_may_9 : decode cX12_may 9 = .ok (.invokestatic 409, 3) := getB' kX12_may_0 5 rfl
theorem dX12_may_12 : decode cX12_may 12 = .ok (.ifCond .eq 13, 3) := getB' kX12_may_0 6 rfl
theorem dX12_may_15 : decode cX12_may 15 = .ok (.aload_n 0, 1) := getB' kX12_may_0 7 rfl
theorem dX12_may_16 : decode cX12_may 16 = .ok (.iload_n 1, 1) := getB' kX12_may_0 8 rfl
theorem dX12_may_17 : decode cX12_may 17 = .ok (.iload_n 2, 1) := getB' kX12_may_0 9 rfl
theorem dX12_may_18 : decode cX12_may 18 = .ok (.iload_n 3, 1) := getB' kX12_may_0 10 rfl
theorem dX12_may_19 : decode cX12_may 19 = .ok (.invokevirtual 608, 3) := getB' kX12_may_0 11 rfl
def LX12_may_1 : List (Nat × Instr × Nat) := [(22, .goto 4, 3), (25, .iconst (-1), 1), (26, .ireturn, 1)]
theorem kX12_may_1 : chkB cX12_may LX12_may_1 = true := by decide +kernel
theorem dX12_may_22 : decode cX12_may 22 = .ok (.goto 4, 3) := getB' kX12_may_1 0 rfl
theorem dX12_may_25 : decode cX12_may 25 = .ok (.iconst (-1), 1) := getB' kX12_may_1 1 rfl
theorem dX12_may_26 : decode cX12_may 26 = .ok (.ireturn, 1) := getB' kX12_may_1 2 rfl
def LX12_why_0 : List (Nat × Instr × Nat) := [(0, .aload_n 0, 1), (1, .iload_n 1, 1), (2, .invokevirtual 566, 3), (5, .ifCond .eq 30, 3), (8, .iload_n 2, 1), (9, .invokestatic 409, 3), (12, .ifCond .eq 23, 3), (15, .iload 4, 2), (17, .iconst 0, 1), (18, .iconst 1, 1), (19, .invokestatic 371, 3), (22, .ifCond .eq 13, 3)]
theorem kX12_why_0 : chkB cX12_why LX12_why_0 = true := by decide +kernel
theorem dX12_why_0 : decode cX12_why 0 = .ok (.aload_n 0, 1) := getB' kX12_why_0 0 rfl
theorem dX12_why_1 : decode cX12_why 1 = .ok (.iload_n 1, 1) := getB' kX12_why_0 1 rfl
theorem dX12_why_2 : decode cX12_why 2 = .ok (.invokevirtual 566, 3) := getB' kX12_why_0 2 rfl
theorem dX12_why_5 : decode cX12_why 5 = .ok (.ifCond .eq 30, 3) := getB' kX12_why_0 3 rfl
theorem dX12_why_8 : decode cX12_why 8 = .ok (.iload_n 2, 1) := getB' kX12_why_0 4 rfl
theorem dX12_why_9 : decode cX12_why 9 = .ok (.invokestatic 409, 3) := getB' kX12_why_0 5 rfl
theorem dX12_why_12 : decode cX12_why 12 = .ok (.ifCond .eq 23, 3) := getB' kX12_why_0 6 rfl
theorem dX12_why_15 : decode cX12_why 15 = .ok (.iload 4, 2) := getB' kX12_why_0 7 rfl
theorem dX12_why_17 : decode cX12_why 17 = .ok (.iconst 0, 1) := getB' kX12_why_0 8 rfl
theorem dX12_why_18 : decode cX12_why 18 = .ok (.iconst 1, 1) := getB' kX12_why_0 9 rfl
theorem dX12_why_19 : decode cX12_why 19 = .ok (.invokestatic 371, 3) := getB' kX12_why_0 10 rfl
theorem dX12_why_22 : decode cX12_why 22 = .ok (.ifCond .eq 13, 3) := getB' kX12_why_0 11 rfl
def LX12_why_1 : List (Nat × Instr × Nat) := [(25, .aload_n 0, 1), (26, .iload_n 1, 1), (27, .iload_n 2, 1), (28, .iload_n 3, 1), (29, .invokevirtual 608, 3), (32, .ifCond .ne 5, 3), (35, .iconst (-1), 1), (36, .ireturn, 1), (37, .iload 4, 2), (39, .ifCond .ne 13, 3), (42, .aload_n 0, 1), (43, .getfield 605, 3)]
theorem kX12_why_1 : chkB cX12_why LX12_why_1 = true := by decide +kernel
theorem dX12_why_25 : decode cX12_why 25 = .ok (.aload_n 0, 1) := getB' kX12_why_1 0 rfl
theorem dX12_why_26 : decode cX12_why 26 = .ok (.iload_n 1, 1) := getB' kX12_why_1 1 rfl
theorem dX12_why_27 : decode cX12_why 27 = .ok (.iload_n 2, 1) := getB' kX12_why_1 2 rfl
theorem dX12_why_28 : decode cX12_why 28 = .ok (.iload_n 3, 1) := getB' kX12_why_1 3 rfl
theorem dX12_why_29 : decode cX12_why 29 = .ok (.invokevirtual 608, 3) := getB' kX12_why_1 4 rfl
theorem dX12_why_32 : decode cX12_why 32 = .ok (.ifCond .ne 5, 3) := getB' kX12_why_1 5 rfl
theorem dX12_why_35 : decode cX12_why 35 = .ok (.iconst (-1), 1) := getB' kX12_why_1 6 rfl
theorem dX12_why_36 : decode cX12_why 36 = .ok (.ireturn, 1) := getB' kX12_why_1 7 rfl
theorem dX12_why_37 : decode cX12_why 37 = .ok (.iload 4, 2) := getB' kX12_why_1 8 rfl
theorem dX12_why_39 : decode cX12_why 39 = .ok (.ifCond .ne 13, 3) := getB' kX12_why_1 9 rfl
theorem dX12_why_42 : decode cX12_why 42 = .ok (.aload_n 0, 1) := getB' kX12_why_1 10 rfl
theorem dX12_why_43 : decode cX12_why 43 = .ok (.getfield 605, 3) := getB' kX12_why_1 11 rfl
def LX12_why_2 : List (Nat × Instr × Nat) := [(46, .bipush 12, 2), (48, .idiv, 1), (49, .goto 10, 3), (52, .aload_n 0, 1), (53, .getfield 605, 3), (56, .bipush 12, 2), (58, .irem, 1), (59, .ireturn, 1)]
theorem kX12_why_2 : chkB cX12_why LX12_why_2 = true := by decide +kernel
theorem dX12_why_46 : decode cX12_why 46 = .ok (.bipush 12, 2) := getB' kX12_why_2 0 rfl
theorem dX12_why_48 : decode cX12_why 48 = .ok (.idiv, 1) := getB' kX12_why_2 1 rfl
theorem dX12_why_49 : decode cX12_why 49 = .ok (.goto 10, 3) := getB' kX12_why_2 2 rfl
theorem dX12_why_52 : decode cX12_why 52 = .ok (.aload_n 0, 1) := getB' kX12_why_2 3 rfl
theorem dX12_why_53 : decode cX12_why 53 = .ok (.getfield 605, 3) := getB' kX12_why_2 4 rfl
theorem dX12_why_56 : decode cX12_why 56 = .ok (.bipush 12, 2) := getB' kX12_why_2 5 rfl
theorem dX12_why_58 : decode cX12_why 58 = .ok (.irem, 1) := getB' kX12_why_2 6 rfl
theorem dX12_why_59 : decode cX12_why 59 = .ok (.ireturn, 1) := getB' kX12_why_2 7 rfl
def LX12_whose_0 : List (Nat × Instr × Nat) := [(0, .aload_n 0, 1), (1, .iload_n 1, 1), (2, .invokevirtual 406, 3), (5, .ifCond .eq 11, 3), (8, .aload_n 0, 1), (9, .iload_n 2, 1), (10, .invokevirtual 381, 3), (13, .ifCond .ne 5, 3), (16, .iconst (-1), 1), (17, .ireturn, 1), (18, .aload_n 0, 1), (19, .iload_n 1, 1)]
theorem kX12_whose_0 : chkB cX12_whose LX12_whose_0 = true := by decide +kernel
theorem dX12_whose_0 : decode cX12_whose 0 = .ok (.aload_n 0, 1) := getB' kX12_whose_0 0 rfl
theorem dX12_whose_1 : decode cX12_whose 1 = .ok (.iload_n 1, 1) := getB' kX12_whose_0 1 rfl
theorem dX12_whose_2 : decode cX12_whose 2 = .ok (.invokevirtual 406, 3) := getB' kX12_whose_0 2 rfl
theorem dX12_whose_5 : decode cX12_whose 5 = .ok (.ifCond .eq 11, 3) := getB' kX12_whose_0 3 rfl
theorem dX12_whose_8 : decode cX12_whose 8 = .ok (.aload_n 0, 1) := getB' kX12_whose_0 4 rfl
theorem dX12_whose_9 : decode cX12_whose 9 = .ok (.iload_n 2, 1) := getB' kX12_whose_0 5 rfl
theorem dX12_whose_10 : decode cX12_whose 10 = .ok (.invokevirtual 381, 3) := getB' kX12_whose_0 6 rfl
theorem dX12_whose_13 : decode cX12_whose 13 = .ok (.ifCond .ne 5, 3) := getB' kX12_whose_0 7 rfl
theorem dX12_whose_16 : decode cX12_whose 16 = .ok (.iconst (-1), 1) := getB' kX12_whose_0 8 rfl
theorem dX12_whose_17 : decode cX12_whose 17 = .ok (.ireturn, 1) := getB' kX12_whose_0 9 rfl
theorem dX12_whose_18 : decode cX12_whose 18 = .ok (.aload_n 0, 1) := getB' kX12_whose_0 10 rfl
theorem dX12_whose_19 : decode cX12_whose 19 = .ok (.iload_n 1, 1) := getB' kX12_whose_0 11 rfl
def LX12_whose_1 : List (Nat × Instr × Nat) := [(20, .aload_n 0, 1), (21, .getfield 396, 3), (24, .invokevirtual 412, 3), (27, .ifCond .eq 29, 3), (30, .aload_n 0, 1), (31, .getfield 396, 3), (34, .aload_n 0, 1), (35, .getfield 29, 3), (38, .iload_n 1, 1), (39, .iaload, 1), (40, .isub, 1), (41, .aload_n 0, 1)]
theorem kX12_whose_1 : chkB cX12_whose LX12_whose_1 = true := by decide +kernel
theorem dX12_whose_20 : decode cX12_whose 20 = .ok (.aload_n 0, 1) := getB' kX12_whose_1 0 rfl
theorem dX12_whose_21 : decode cX12_whose 21 = .ok (.getfield 396, 3) := getB' kX12_whose_1 1 rfl
theorem dX12_whose_24 : decode cX12_whose 24 = .ok (.invokevirtual 412, 3) := getB' kX12_whose_1 2 rfl
theorem dX12_whose_27 : decode cX12_whose 27 = .ok (.ifCond .eq 29, 3) := getB' kX12_whose_1 3 rfl
theorem dX12_whose_30 : decode cX12_whose 30 = .ok (.aload_n 0, 1) := getB' kX12_whose_1 4 rfl
theorem dX12_whose_31 : decode cX12_whose 31 = .ok (.getfield 396, 3) := getB' kX12_whose_1 5 rfl
theorem dX12_whose_34 : decode cX12_whose 34 = .ok (.aload_n 0, 1) := getB' kX12_whose_1 6 rfl
theorem dX12_whose_35 : decode cX12_whose 35 = .ok (.getfield 29, 3) := getB' kX12_whose_1 7 rfl
theorem dX12_whose_38 : decode cX12_whose 38 = .ok (.iload_n 1, 1) := getB' kX12_whose_1 8 rfl
theorem dX12_whose_39 : decode cX12_whose 39 = .ok (.iaload, 1) := getB' kX12_whose_1 9 rfl
theorem dX12_whose_40 : decode cX12_whose 40 = .ok (.isub, 1) := getB' kX12_whose_1 10 rfl
theorem dX12_whose_41 : decode cX12_whose 41 = .ok (.aload_n 0, 1) := getB' kX12_whose_1 11 rfl
def LX12_whose_2 : List (Nat × Instr × Nat) := [(42, .bipush 97, 2), (44, .iload_n 1, 1), (45, .aload_n 0, 1), (46, .getfield 396, 3), (49, .iconst 0, 1), (50, .invokevirtual 563, 3), (53, .if_icmp .ge 6, 3), (56, .bipush (-2), 2), (58, .ireturn, 1), (59, .iconst (-1), 1), (60, .istore_n 3, 1), (61, .iconst 0, 1)]
theorem kX12_whose_2 : chkB cX12_whose LX12_whose_2 = true := by decide +kernel
theorem dX12_whose_42 : decode cX12_whose 42 = .ok (.bipush 97, 2) := getB' kX12_whose_2 0 rfl
theorem dX12_whose_44 : decode cX12_whose 44 = .ok (.iload_n 1, 1) := getB' kX12_whose_2 1 rfl
theorem dX12_whose_45 : decode cX12_whose 45 = .ok (.aload_n 0, 1) := getB' kX12_whose_2 2 rfl
theorem dX12_whose_46 : decode cX12_whose 46 = .ok (.getfield 396, 3) := getB' kX12_whose_2 3 rfl
theorem dX12_whose_49 : decode cX12_whose 49 = .ok (.iconst 0, 1) := getB' kX12_whose_2 4 rfl
theorem dX12_whose_50 : decode cX12_whose 50 = .ok (.invokevirtual 563, 3) := getB' kX12_whose_2 5 rfl
theorem dX12_whose_53 : decode cX12_whose 53 = .ok (.if_icmp .ge 6, 3) := getB' kX12_whose_2 6 rfl
theorem dX12_whose_56 : decode cX12_whose 56 = .ok (.bipush (-2), 2) := getB' kX12_whose_2 7 rfl
theorem dX12_whose_58 : decode cX12_whose 58 = .ok (.ireturn, 1) := getB' kX12_whose_2 8 rfl
theorem dX12_whose_59 : decode cX12_whose 59 = .ok (.iconst (-1), 1) := getB' kX12_whose_2 9 rfl
theorem dX12_whose_60 : decode cX12_whose 60 = .ok (.istore_n 3, 1) := getB' kX12_whose_2 10 rfl
theorem dX12_whose_61 : decode cX12_whose 61 = .ok (.iconst 0, 1) := getB' kX12_whose_2 11 rfl
def LX12_whose_3 : List (Nat × Instr × Nat) := [(62, .istore 4, 2), (64, .iload 4, 2), (66, .aload_n 0, 1), (67, .getfield 375, 3), (70, .if_icmp .ge 53, 3), (73, .aload_n 0, 1), (74, .getfield 35, 3), (77, .iload 4, 2), (79, .iaload, 1), (80, .ifCond .ne 37, 3), (83, .aload_n 0, 1), (84, .iload_n 2, 1)]
theorem kX12_whose_3 : chkB cX12_whose LX12_whose_3 = true := by decide +kernel
theorem dX12_whose_62 : decode cX12_whose 62 = .ok (.istore 4, 2) := getB' kX12_whose_3 0 rfl
theorem dX12_whose_64 : decode cX12_whose 64 = .ok (.iload 4, 2) := getB' kX12_whose_3 1 rfl
theorem dX12_whose_66 : decode cX12_whose 66 = .ok (.aload_n 0, 1) := getB' kX12_whose_3 2 rfl
theorem dX12_whose_67 : decode cX12_whose 67 = .ok (.getfield 375, 3) := getB' kX12_whose_3 3 rfl
theorem dX12_whose_70 : decode cX12_whose 70 = .ok (.if_icmp .ge 53, 3) := getB' kX12_whose_3 4 rfl
theorem dX12_whose_73 : decode cX12_whose 73 = .ok (.aload_n 0, 1) := getB' kX12_whose_3 5 rfl
theorem dX12_whose_74 : decode cX12_whose 74 = .ok (.getfield 35, 3) := getB' kX12_whose_3 6 rfl
theorem dX12_whose_77 : decode cX12_whose 77 = .ok (.iload 4, 2) := getB' kX12_whose_3 7 rfl
theorem dX12_whose_79 : decode cX12_whose 79 = .ok (.iaload, 1) := getB' kX12_whose_3 8 rfl
theorem dX12_whose_80 : decode cX12_whose 80 = .ok (.ifCond .ne 37, 3) := getB' kX12_whose_3 9 rfl
theorem dX12_whose_83 : decode cX12_whose 83 = .ok (.aload_n 0, 1) := getB' kX12_whose_3 10 rfl
theorem dX12_whose_84 : decode cX12_whose 84 = .ok (.iload_n 2, 1) := getB' kX12_whose_3 11 rfl
def LX12_whose_4 : List (Nat × Instr × Nat) := [(85, .iload 4, 2), (87, .invokevirtual 569, 3), (90, .ifCond .eq 27, 3), (93, .iload_n 3, 1), (94, .iconst (-1), 1), (95, .if_icmp .eq 19, 3), (98, .aload_n 0, 1), (99, .getfield 47, 3), (102, .iload 4, 2), (104, .iaload, 1), (105, .aload_n 0, 1), (106, .getfield 47, 3)]
theorem kX12_whose_4 : chkB cX12_whose LX12_whose_4 = true := by decide +kernel
theorem dX12_whose_85 : decode cX12_whose 85 = .ok (.iload 4, 2) := getB' kX12_whose_4 0 rfl
theorem dX12_whose_87 : decode cX12_whose 87 = .ok (.invokevirtual 569, 3) := getB' kX12_whose_4 1 rfl
theorem dX12_whose_90 : decode cX12_whose 90 = .ok (.ifCond .eq 27, 3) := getB' kX12_whose_4 2 rfl
theorem dX12_whose_93 : decode cX12_whose 93 = .ok (.iload_n 3, 1) := getB' kX12_whose_4 3 rfl
theorem dX12_whose_94 : decode cX12_whose 94 = .ok (.iconst (-1), 1) := getB' kX12_whose_4 4 rfl
theorem dX12_whose_95 : decode cX12_whose 95 = .ok (.if_icmp .eq 19, 3) := getB' kX12_whose_4 5 rfl
theorem dX12_whose_98 : decode cX12_whose 98 = .ok (.aload_n 0, 1) := getB' kX12_whose_4 6 rfl
theorem dX12_whose_99 : decode cX12_whose 99 = .ok (.getfield 47, 3) := getB' kX12_whose_4 7 rfl
theorem dX12_whose_102 : decode cX12_whose 102 = .ok (.iload 4, 2) := getB' kX12_whose_4 8 rfl
theorem dX12_whose_104 : decode cX12_whose 104 = .ok (.iaload, 1) := getB' kX12_whose_4 9 rfl
theorem dX12_whose_105 : decode cX12_whose 105 = .ok (.aload_n 0, 1) := getB' kX12_whose_4 10 rfl
theorem dX12_whose_106 : decode cX12_whose 106 = .ok (.getfield 47, 3) := getB' kX12_whose_4 11 rfl
def LX12_whose_5 : List (Nat × Instr × Nat) := [(109, .iload_n 3, 1), (110, .iaload, 1), (111, .if_icmp .le 6, 3), (114, .iload 4, 2), (116, .istore_n 3, 1), (117, .iinc 4 1, 3), (120, .goto (-56), 3), (123, .iload_n 3, 1), (124, .ireturn, 1)]
theorem kX12_whose_5 : chkB cX12_whose LX12_whose_5 = true := by decide +kernel
theorem dX12_whose_109 : decode cX12_whose 109 = .ok (.iload_n 3, 1) := getB' kX12_whose_5 0 rfl
theorem dX12_whose_110 : decode cX12_whose 110 = .ok (.iaload, 1) := getB' kX12_whose_5 1 rfl
theorem dX12_whose_111 : decode cX12_whose 111 = .ok (.if_icmp .le 6, 3) := getB' kX12_whose_5 2 rfl
theorem dX12_whose_114 : decode cX12_whose 114 = .ok (.iload 4, 2) := getB' kX12_whose_5 3 rfl
theorem dX12_whose_116 : decode cX12_whose 116 = .ok (.istore_n 3, 1) := getB' kX12_whose_5 4 rfl
theorem dX12_whose_117 : decode cX12_whose 117 = .ok (.iinc 4 1, 3) := getB' kX12_whose_5 5 rfl
theorem dX12_whose_120 : decode cX12_whose 120 = .ok (.goto (-56), 3) := getB' kX12_whose_5 6 rfl
theorem dX12_whose_123 : decode cX12_whose 123 = .ok (.iload_n 3, 1) := getB' kX12_whose_5 7 rfl
theorem dX12_whose_124 : decode cX12_whose 124 = .ok (.ireturn, 1) := getB' kX12_whose_5 8 rfl
def LX12_isShip : List (Nat × Instr × Nat) := [(0, .iload_n 1, 1), (1, .ifCond .lt 15, 3), (4, .iload_n 1, 1), (5, .aload_n 0, 1), (6, .getfield 612, 3), (9, .if_icmp .ge 7, 3), (12, .iconst 1, 1), (13, .goto 4, 3), (16, .iconst 0, 1), (17, .ireturn, 1)]
theorem kX12_isShip : chkB cX12_isShip LX12_isShip = true := by decide +kernel
theorem dX12_isShip_0 : decode cX12_isShip 0 = .ok (.iload_n 1, 1) := getB' kX12_isShip 0 rfl
theorem dX12_isShip_1 : decode cX12_isShip 1 = .ok (.ifCond .lt 15, 3) := getB' kX12_isShip 1 rfl
theorem dX12_isShip_4 : decode cX12_isShip 4 = .ok (.iload_n 1, 1) := getB' kX12_isShip 2 rfl
theorem dX12_isShip_5 : decode cX12_isShip 5 = .ok (.aload_n 0, 1) := getB' kX12_isShip 3 rfl
theorem dX12_isShip_6 : decode cX12_isShip 6 = .ok (.getfield 612, 3) := getB' kX12_isShip 4 rfl
theorem dX12_isShip_9 : decode cX12_isShip 9 = .ok (.if_icmp .ge 7, 3) := getB' kX12_isShip 5 rfl
theorem dX12_isShip_12 : decode cX12_isShip 12 = .ok (.iconst 1, 1) := getB' kX12_isShip 6 rfl
theorem dX12_isShip_13 : decode cX12_isShip 13 = .ok (.goto 4, 3) := getB' kX12_isShip 7 rfl
theorem dX12_isShip_16 : decode cX12_isShip 16 = .ok (.iconst 0, 1) := getB' kX12_isShip 8 rfl
theorem dX12_isShip_17 : decode cX12_isShip 17 = .ok (.ireturn, 1) := getB' kX12_isShip 9 rfl
def LX12_isSea : List (Nat × Instr × Nat) := [(0, .iload_n 0, 1), (1, .ifCond .lt 12, 3), (4, .iload_n 0, 1), (5, .iconst 4, 1), (6, .if_icmp .ge 7, 3), (9, .iconst 1, 1), (10, .goto 4, 3), (13, .iconst 0, 1), (14, .ireturn, 1)]
theorem kX12_isSea : chkB cX12_isSea LX12_isSea = true := by decide +kernel
theorem dX12_isSea_0 : decode cX12_isSea 0 = .ok (.iload_n 0, 1) := getB' kX12_isSea 0 rfl
theorem dX12_isSea_1 : decode cX12_isSea 1 = .ok (.ifCond .lt 12, 3) := getB' kX12_isSea 1 rfl
theorem dX12_isSea_4 : decode cX12_isSea 4 = .ok (.iload_n 0, 1) := getB' kX12_isSea 2 rfl
theorem dX12_isSea_5 : decode cX12_isSea 5 = .ok (.iconst 4, 1) := getB' kX12_isSea 3 rfl
theorem dX12_isSea_6 : decode cX12_isSea 6 = .ok (.if_icmp .ge 7, 3) := getB' kX12_isSea 4 rfl
theorem dX12_isSea_9 : decode cX12_isSea 9 = .ok (.iconst 1, 1) := getB' kX12_isSea 5 rfl
theorem dX12_isSea_10 : decode cX12_isSea 10 = .ok (.goto 4, 3) := getB' kX12_isSea 6 rfl
theorem dX12_isSea_13 : decode cX12_isSea 13 = .ok (.iconst 0, 1) := getB' kX12_isSea 7 rfl
theorem dX12_isSea_14 : decode cX12_isSea 14 = .ok (.ireturn, 1) := getB' kX12_isSea 8 rfl
def LX12_ship_0 : List (Nat × Instr × Nat) := [(0, .aload_n 0, 1), (1, .iload_n 1, 1), (2, .invokevirtual 406, 3), (5, .ifCond .eq 33, 3), (8, .iload_n 2, 1), (9, .iconst 1, 1), (10, .sipush 10000, 3), (13, .invokestatic 371, 3), (16, .ifCond .eq 22, 3), (19, .iload_n 3, 1), (20, .iconst 0, 1), (21, .bipush 100, 2)]
theorem kX12_ship_0 : chkB cX12_ship LX12_ship_0 = true := by decide +kernel
theorem dX12_ship_0 : decode cX12_ship 0 = .ok (.aload_n 0, 1) := getB' kX12_ship_0 0 rfl
theorem dX12_ship_1 : decode cX12_ship 1 = .ok (.iload_n 1, 1) := getB' kX12_ship_0 1 rfl
theorem dX12_ship_2 : decode cX12_ship 2 = .ok (.invokevirtual 406, 3) := getB' kX12_ship_0 2 rfl
theorem dX12_ship_5 : decode cX12_ship 5 = .ok (.ifCond .eq 33, 3) := getB' kX12_ship_0 3 rfl
theorem dX12_ship_8 : decode cX12_ship 8 = .ok (.iload_n 2, 1) := getB' kX12_ship_0 4 rfl
theorem dX12_ship_9 : decode cX12_ship 9 = .ok (.iconst 1, 1) := getB' kX12_ship_0 5 rfl
theorem dX12_ship_10 : decode cX12_ship 10 = .ok (.sipush 10000, 3) := getB' kX12_ship_0 6 rfl
theorem dX12_ship_13 : decode cX12_ship 13 = .ok (.invokestatic 371, 3) := getB' kX12_ship_0 7 rfl
theorem dX12_ship_16 : decode cX12_ship 16 = .ok (.ifCond .eq 22, 3) := getB' kX12_ship_0 8 rfl
theorem dX12_ship_19 : decode cX12_ship 19 = .ok (.iload_n 3, 1) := getB' kX12_ship_0 9 rfl
theorem dX12_ship_20 : decode cX12_ship 20 = .ok (.iconst 0, 1) := getB' kX12_ship_0 10 rfl
theorem dX12_ship_21 : decode cX12_ship 21 = .ok (.bipush 100, 2) := getB' kX12_ship_0 11 rfl
def LX12_ship_1 : List (Nat × Instr × Nat) := [(23, .invokestatic 371, 3), (26, .ifCond .eq 12, 3), (29, .aload_n 0, 1), (30, .getfield 612, 3), (33, .bipush 10, 2), (35, .if_icmp .ne 5, 3), (38, .iconst (-1), 1), (39, .ireturn, 1), (40, .aload_n 0, 1), (41, .getfield 208, 3), (44, .aload_n 0, 1), (45, .getfield 612, 3)]
theorem kX12_ship_1 : chkB cX12_ship LX12_ship_1 = true := by decide +kernel
theorem dX12_ship_23 : decode cX12_ship 23 = .ok (.invokestatic 371, 3) := getB' kX12_ship_1 0 rfl
theorem dX12_ship_26 : decode cX12_ship 26 = .ok (.ifCond .eq 12, 3) := getB' kX12_ship_1 1 rfl
theorem dX12_ship_29 : decode cX12_ship 29 = .ok (.aload_n 0, 1) := getB' kX12_ship_1 2 rfl
theorem dX12_ship_30 : decode cX12_ship 30 = .ok (.getfield 612, 3) := getB' kX12_ship_1 3 rfl
theorem dX12_ship_33 : decode cX12_ship 33 = .ok (.bipush 10, 2) := getB' kX12_ship_1 4 rfl
theorem dX12_ship_35 : decode cX12_ship 35 = .ok (.if_icmp .ne 5, 3) := getB' kX12_ship_1 5 rfl
theorem dX12_ship_38 : decode cX12_ship 38 = .ok (.iconst (-1), 1) := getB' kX12_ship_1 6 rfl
theorem dX12_ship_39 : decode cX12_ship 39 = .ok (.ireturn, 1) := getB' kX12_ship_1 7 rfl
theorem dX12_ship_40 : decode cX12_ship 40 = .ok (.aload_n 0, 1) := getB' kX12_ship_1 8 rfl
theorem dX12_ship_41 : decode cX12_ship 41 = .ok (.getfield 208, 3) := getB' kX12_ship_1 9 rfl
theorem dX12_ship_44 : decode cX12_ship 44 = .ok (.aload_n 0, 1) := getB' kX12_ship_1 10 rfl
theorem dX12_ship_45 : decode cX12_ship 45 = .ok (.getfield 612, 3) := getB' kX12_ship_1 11 rfl
def LX12_ship_2 : List (Nat × Instr × Nat) := [(48, .iload_n 1, 1), (49, .iastore, 1), (50, .aload_n 0, 1), (51, .getfield 211, 3), (54, .aload_n 0, 1), (55, .getfield 612, 3), (58, .iload_n 2, 1), (59, .iastore, 1), (60, .aload_n 0, 1), (61, .getfield 214, 3), (64, .aload_n 0, 1), (65, .getfield 612, 3)]
theorem kX12_ship_2 : chkB cX12_ship LX12_ship_2 = true := by decide +kernel
theorem dX12_ship_48 : decode cX12_ship 48 = .ok (.iload_n 1, 1) := getB' kX12_ship_2 0 rfl
theorem dX12_ship_49 : decode cX12_ship 49 = .ok (.iastore, 1) := getB' kX12_ship_2 1 rfl
theorem dX12_ship_50 : decode cX12_ship 50 = .ok (.aload_n 0, 1) := getB' kX12_ship_2 2 rfl
theorem dX12_ship_51 : decode cX12_ship 51 = .ok (.getfield 211, 3) := getB' kX12_ship_2 3 rfl
theorem dX12_ship_54 : decode cX12_ship 54 = .ok (.aload_n 0, 1) := getB' kX12_ship_2 4 rfl
theorem dX12_ship_55 : decode cX12_ship 55 = .ok (.getfield 612, 3) := getB' kX12_ship_2 5 rfl
theorem dX12_ship_58 : decode cX12_ship 58 = .ok (.iload_n 2, 1) := getB' kX12_ship_2 6 rfl
theorem dX12_ship_59 : decode cX12_ship 59 = .ok (.iastore, 1) := getB' kX12_ship_2 7 rfl
theorem dX12_ship_60 : decode cX12_ship 60 = .ok (.aload_n 0, 1) := getB' kX12_ship_2 8 rfl
theorem dX12_ship_61 : decode cX12_ship 61 = .ok (.getfield 214, 3) := getB' kX12_ship_2 9 rfl
theorem dX12_ship_64 : decode cX12_ship 64 = .ok (.aload_n 0, 1) := getB' kX12_ship_2 10 rfl
theorem dX12_ship_65 : decode cX12_ship 65 = .ok (.getfield 612, 3) := getB' kX12_ship_2 11 rfl
def LX12_ship_3 : List (Nat × Instr × Nat) := [(68, .iload_n 3, 1), (69, .iastore, 1), (70, .aload_n 0, 1), (71, .getfield 226, 3), (74, .aload_n 0, 1), (75, .getfield 612, 3), (78, .iconst (-1), 1), (79, .iastore, 1), (80, .aload_n 0, 1), (81, .aload_n 0, 1), (82, .getfield 612, 3), (85, .iconst 1, 1)]
theorem kX12_ship_3 : chkB cX12_ship LX12_ship_3 = true := by decide +kernel
theorem dX12_ship_68 : decode cX12_ship 68 = .ok (.iload_n 3, 1) := getB' kX12_ship_3 0 rfl
theorem dX12_ship_69 : decode cX12_ship 69 = .ok (.iastore, 1) := getB' kX12_ship_3 1 rfl
theorem dX12_ship_70 : decode cX12_ship 70 = .ok (.aload_n 0, 1) := getB' kX12_ship_3 2 rfl
theorem dX12_ship_71 : decode cX12_ship 71 = .ok (.getfield 226, 3) := getB' kX12_ship_3 3 rfl
theorem dX12_ship_74 : decode cX12_ship 74 = .ok (.aload_n 0, 1) := getB' kX12_ship_3 4 rfl
theorem dX12_ship_75 : decode cX12_ship 75 = .ok (.getfield 612, 3) := getB' kX12_ship_3 5 rfl
theorem dX12_ship_78 : decode cX12_ship 78 = .ok (.iconst (-1), 1) := getB' kX12_ship_3 6 rfl
theorem dX12_ship_79 : decode cX12_ship 79 = .ok (.iastore, 1) := getB' kX12_ship_3 7 rfl
theorem dX12_ship_80 : decode cX12_ship 80 = .ok (.aload_n 0, 1) := getB' kX12_ship_3 8 rfl
theorem dX12_ship_81 : decode cX12_ship 81 = .ok (.aload_n 0, 1) := getB' kX12_ship_3 9 rfl
theorem dX12_ship_82 : decode cX12_ship 82 = .ok (.getfield 612, 3) := getB' kX12_ship_3 10 rfl
theorem dX12_ship_85 : decode cX12_ship 85 = .ok (.iconst 1, 1) := getB' kX12_ship_3 11 rfl
def LX12_ship_4 : List (Nat × Instr × Nat) := [(86, .iadd, 1), (87, .putfield 612, 3), (90, .aload_n 0, 1), (91, .getfield 612, 3), (94, .iconst 1, 1), (95, .isub, 1), (96, .ireturn, 1)]
theorem kX12_ship_4 : chkB cX12_ship LX12_ship_4 = true := by decide +kernel
theorem dX12_ship_86 : decode cX12_ship 86 = .ok (.iadd, 1) := getB' kX12_ship_4 0 rfl
theorem dX12_ship_87 : decode cX12_ship 87 = .ok (.putfield 612, 3) := getB' kX12_ship_4 1 rfl
theorem dX12_ship_90 : decode cX12_ship 90 = .ok (.aload_n 0, 1) := getB' kX12_ship_4 2 rfl
theorem dX12_ship_91 : decode cX12_ship 91 = .ok (.getfield 612, 3) := getB' kX12_ship_4 3 rfl
theorem dX12_ship_94 : decode cX12_ship 94 = .ok (.iconst 1, 1) := getB' kX12_ship_4 4 rfl
theorem dX12_ship_95 : decode cX12_ship 95 = .ok (.isub, 1) := getB' kX12_ship_4 5 rfl
theorem dX12_ship_96 : decode cX12_ship 96 = .ok (.ireturn, 1) := getB' kX12_ship_4 6 rfl
def LX12_cover_0 : List (Nat × Instr × Nat) := [(0, .iload_n 1, 1), (1, .invokestatic 615, 3), (4, .ifCond .eq 23, 3), (7, .iload_n 2, 1), (8, .iconst 0, 1), (9, .bipush 11, 2), (11, .invokestatic 371, 3), (14, .ifCond .eq 13, 3), (17, .iload_n 3, 1), (18, .iconst 0, 1), (19, .bipush 100, 2), (21, .invokestatic 371, 3)]
theorem kX12_cover_0 : chkB cX12_cover LX12_cover_0 = true := by decide +kernel
theorem dX12_cover_0 : decode cX12_cover 0 = .ok (.iload_n 1, 1) := getB' kX12_cover_0 0 rfl
theorem dX12_cover_1 : decode cX12_cover 1 = .ok (.invokestatic 615, 3) := getB' kX12_cover_0 1 rfl
theorem dX12_cover_4 : decode cX12_cover 4 = .ok (.ifCond .eq 23, 3) := getB' kX12_cover_0 2 rfl
theorem dX12_cover_7 : decode cX12_cover 7 = .ok (.iload_n 2, 1) := getB' kX12_cover_0 3 rfl
theorem dX12_cover_8 : decode cX12_cover 8 = .ok (.iconst 0, 1) := getB' kX12_cover_0 4 rfl
theorem dX12_cover_9 : decode cX12_cover 9 = .ok (.bipush 11, 2) := getB' kX12_cover_0 5 rfl
theorem dX12_cover_11 : decode cX12_cover 11 = .ok (.invokestatic 371, 3) := getB' kX12_cover_0 6 rfl
theorem dX12_cover_14 : decode cX12_cover 14 = .ok (.ifCond .eq 13, 3) := getB' kX12_cover_0 7 rfl
theorem dX12_cover_17 : decode cX12_cover 17 = .ok (.iload_n 3, 1) := getB' kX12_cover_0 8 rfl
theorem dX12_cover_18 : decode cX12_cover 18 = .ok (.iconst 0, 1) := getB' kX12_cover_0 9 rfl
theorem dX12_cover_19 : decode cX12_cover 19 = .ok (.bipush 100, 2) := getB' kX12_cover_0 10 rfl
theorem dX12_cover_21 : decode cX12_cover 21 = .ok (.invokestatic 371, 3) := getB' kX12_cover_0 11 rfl
def LX12_cover_1 : List (Nat × Instr × Nat) := [(24, .ifCond .ne 5, 3), (27, .iconst 0, 1), (28, .ireturn, 1), (29, .aload_n 0, 1), (30, .getfield 241, 3), (33, .bipush 12, 2), (35, .iload_n 1, 1), (36, .imul, 1), (37, .iload_n 2, 1), (38, .iadd, 1), (39, .iload_n 3, 1), (40, .iastore, 1)]
theorem kX12_cover_1 : chkB cX12_cover LX12_cover_1 = true := by decide +kernel
theorem dX12_cover_24 : decode cX12_cover 24 = .ok (.ifCond .ne 5, 3) := getB' kX12_cover_1 0 rfl
theorem dX12_cover_27 : decode cX12_cover 27 = .ok (.iconst 0, 1) := getB' kX12_cover_1 1 rfl
theorem dX12_cover_28 : decode cX12_cover 28 = .ok (.ireturn, 1) := getB' kX12_cover_1 2 rfl
theorem dX12_cover_29 : decode cX12_cover 29 = .ok (.aload_n 0, 1) := getB' kX12_cover_1 3 rfl
theorem dX12_cover_30 : decode cX12_cover 30 = .ok (.getfield 241, 3) := getB' kX12_cover_1 4 rfl
theorem dX12_cover_33 : decode cX12_cover 33 = .ok (.bipush 12, 2) := getB' kX12_cover_1 5 rfl
theorem dX12_cover_35 : decode cX12_cover 35 = .ok (.iload_n 1, 1) := getB' kX12_cover_1 6 rfl
theorem dX12_cover_36 : decode cX12_cover 36 = .ok (.imul, 1) := getB' kX12_cover_1 7 rfl
theorem dX12_cover_37 : decode cX12_cover 37 = .ok (.iload_n 2, 1) := getB' kX12_cover_1 8 rfl
theorem dX12_cover_38 : decode cX12_cover 38 = .ok (.iadd, 1) := getB' kX12_cover_1 9 rfl
theorem dX12_cover_39 : decode cX12_cover 39 = .ok (.iload_n 3, 1) := getB' kX12_cover_1 10 rfl
theorem dX12_cover_40 : decode cX12_cover 40 = .ok (.iastore, 1) := getB' kX12_cover_1 11 rfl
def LX12_cover_2 : List (Nat × Instr × Nat) := [(41, .iconst 1, 1), (42, .ireturn, 1)]
theorem kX12_cover_2 : chkB cX12_cover LX12_cover_2 = true := by decide +kernel
theorem dX12_cover_41 : decode cX12_cover 41 = .ok (.iconst 1, 1) := getB' kX12_cover_2 0 rfl
theorem dX12_cover_42 : decode cX12_cover 42 = .ok (.ireturn, 1) := getB' kX12_cover_2 1 rfl
def LX12_sea_0 : List (Nat × Instr × Nat) := [(0, .iload_n 1, 1), (1, .invokestatic 615, 3), (4, .ifCond .eq 13, 3), (7, .iload_n 2, 1), (8, .iconst 1, 1), (9, .bipush 90, 2), (11, .invokestatic 371, 3), (14, .ifCond .ne 5, 3), (17, .iconst 0, 1), (18, .ireturn, 1), (19, .aload_n 0, 1), (20, .getfield 244, 3)]
theorem kX12_sea_0 : chkB cX12_sea LX12_sea_0 = true := by decide +kernel
theorem dX12_sea_0 : decode cX12_sea 0 = .ok (.iload_n 1, 1) := getB' kX12_sea_0 0 rfl
theorem dX12_sea_1 : decode cX12_sea 1 = .ok (.invokestatic 615, 3) := getB' kX12_sea_0 1 rfl
theorem dX12_sea_4 : decode cX12_sea 4 = .ok (.ifCond .eq 13, 3) := getB' kX12_sea_0 2 rfl
theorem dX12_sea_7 : decode cX12_sea 7 = .ok (.iload_n 2, 1) := getB' kX12_sea_0 3 rfl
theorem dX12_sea_8 : decode cX12_sea 8 = .ok (.iconst 1, 1) := getB' kX12_sea_0 4 rfl
theorem dX12_sea_9 : decode cX12_sea 9 = .ok (.bipush 90, 2) := getB' kX12_sea_0 5 rfl
theorem dX12_sea_11 : decode cX12_sea 11 = .ok (.invokestatic 371, 3) := getB' kX12_sea_0 6 rfl
theorem dX12_sea_14 : decode cX12_sea 14 = .ok (.ifCond .ne 5, 3) := getB' kX12_sea_0 7 rfl
theorem dX12_sea_17 : decode cX12_sea 17 = .ok (.iconst 0, 1) := getB' kX12_sea_0 8 rfl
theorem dX12_sea_18 : decode cX12_sea 18 = .ok (.ireturn, 1) := getB' kX12_sea_0 9 rfl
theorem dX12_sea_19 : decode cX12_sea 19 = .ok (.aload_n 0, 1) := getB' kX12_sea_0 10 rfl
theorem dX12_sea_20 : decode cX12_sea 20 = .ok (.getfield 244, 3) := getB' kX12_sea_0 11 rfl
def LX12_sea_1 : List (Nat × Instr × Nat) := [(23, .iload_n 1, 1), (24, .iload_n 2, 1), (25, .iastore, 1), (26, .iconst 1, 1), (27, .ireturn, 1)]
theorem kX12_sea_1 : chkB cX12_sea LX12_sea_1 = true := by decide +kernel
theorem dX12_sea_23 : decode cX12_sea 23 = .ok (.iload_n 1, 1) := getB' kX12_sea_1 0 rfl
theorem dX12_sea_24 : decode cX12_sea 24 = .ok (.iload_n 2, 1) := getB' kX12_sea_1 1 rfl
theorem dX12_sea_25 : decode cX12_sea 25 = .ok (.iastore, 1) := getB' kX12_sea_1 2 rfl
theorem dX12_sea_26 : decode cX12_sea 26 = .ok (.iconst 1, 1) := getB' kX12_sea_1 3 rfl
theorem dX12_sea_27 : decode cX12_sea 27 = .ok (.ireturn, 1) := getB' kX12_sea_1 4 rfl
def LX12_voyage_0 : List (Nat × Instr × Nat) := [(0, .aload_n 0, 1), (1, .iload_n 1, 1), (2, .invokevirtual 618, 3), (5, .ifCond .eq 55, 3), (8, .aload_n 0, 1), (9, .getfield 217, 3), (12, .iload_n 1, 1), (13, .iaload, 1), (14, .ifCond .ne 46, 3), (17, .iload_n 2, 1), (18, .invokestatic 615, 3), (21, .ifCond .eq 39, 3)]
theorem kX12_voyage_0 : chkB cX12_voyage LX12_voyage_0 = true := by decide +kernel
theorem dX12_voyage_0 : decode cX12_voyage 0 = .ok (.aload_n 0, 1) := getB' kX12_voyage_0 0 rfl
theorem dX12_voyage_1 : decode cX12_voyage 1 = .ok (.iload_n 1, 1) := getB' kX12_voyage_0 1 rfl
theorem dX12_voyage_2 : decode cX12_voyage 2 = .ok (.invokevirtual 618, 3) := getB' kX12_voyage_0 2 rfl
theorem dX12_voyage_5 : decode cX12_voyage 5 = .ok (.ifCond .eq 55, 3) := getB' kX12_voyage_0 3 rfl
theorem dX12_voyage_8 : decode cX12_voyage 8 = .ok (.aload_n 0, 1) := getB' kX12_voyage_0 4 rfl
theorem dX12_voyage_9 : decode cX12_voyage 9 = .ok (.getfield 217, 3) := getB' kX12_voyage_0 5 rfl
theorem dX12_voyage_12 : decode cX12_voyage 12 = .ok (.iload_n 1, 1) := getB' kX12_voyage_0 6 rfl
theorem dX12_voyage_13 : decode cX12_voyage 13 = .ok (.iaload, 1) := getB' kX12_voyage_0 7 rfl
theorem dX12_voyage_14 : decode cX12_voyage 14 = .ok (.ifCond .ne 46, 3) := getB' kX12_voyage_0 8 rfl
theorem dX12_voyage_17 : decode cX12_voyage 17 = .ok (.iload_n 2, 1) := getB' kX12_voyage_0 9 rfl
theorem dX12_voyage_18 : decode cX12_voyage 18 = .ok (.invokestatic 615, 3) := getB' kX12_voyage_0 10 rfl
theorem dX12_voyage_21 : decode cX12_voyage 21 = .ok (.ifCond .eq 39, 3) := getB' kX12_voyage_0 11 rfl
def LX12_voyage_1 : List (Nat × Instr × Nat) := [(24, .aload_n 0, 1), (25, .iload_n 3, 1), (26, .invokevirtual 433, 3), (29, .ifCond .eq 31, 3), (32, .aload_n 0, 1), (33, .aload_n 0, 1), (34, .getfield 41, 3), (37, .iload_n 3, 1), (38, .iaload, 1), (39, .invokevirtual 621, 3), (42, .ifCond .eq 18, 3), (45, .iload 4, 2)]
theorem kX12_voyage_1 : chkB cX12_voyage LX12_voyage_1 = true := by decide +kernel
theorem dX12_voyage_24 : decode cX12_voyage 24 = .ok (.aload_n 0, 1) := getB' kX12_voyage_1 0 rfl
theorem dX12_voyage_25 : decode cX12_voyage 25 = .ok (.iload_n 3, 1) := getB' kX12_voyage_1 1 rfl
theorem dX12_voyage_26 : decode cX12_voyage 26 = .ok (.invokevirtual 433, 3) := getB' kX12_voyage_1 2 rfl
theorem dX12_voyage_29 : decode cX12_voyage 29 = .ok (.ifCond .eq 31, 3) := getB' kX12_voyage_1 3 rfl
theorem dX12_voyage_32 : decode cX12_voyage 32 = .ok (.aload_n 0, 1) := getB' kX12_voyage_1 4 rfl
theorem dX12_voyage_33 : decode cX12_voyage 33 = .ok (.aload_n 0, 1) := getB' kX12_voyage_1 5 rfl
theorem dX12_voyage_34 : decode cX12_voyage 34 = .ok (.getfield 41, 3) := getB' kX12_voyage_1 6 rfl
theorem dX12_voyage_37 : decode cX12_voyage 37 = .ok (.iload_n 3, 1) := getB' kX12_voyage_1 7 rfl
theorem dX12_voyage_38 : decode cX12_voyage 38 = .ok (.iaload, 1) := getB' kX12_voyage_1 8 rfl
theorem dX12_voyage_39 : decode cX12_voyage 39 = .ok (.invokevirtual 621, 3) := getB' kX12_voyage_1 9 rfl
theorem dX12_voyage_42 : decode cX12_voyage 42 = .ok (.ifCond .eq 18, 3) := getB' kX12_voyage_1 10 rfl
theorem dX12_voyage_45 : decode cX12_voyage 45 = .ok (.iload 4, 2) := getB' kX12_voyage_1 11 rfl
def LX12_voyage_2 : List (Nat × Instr × Nat) := [(47, .iconst 0, 1), (48, .aload_n 0, 1), (49, .getfield 211, 3), (52, .iload_n 1, 1), (53, .iaload, 1), (54, .invokestatic 371, 3), (57, .ifCond .ne 5, 3), (60, .iconst 0, 1), (61, .ireturn, 1), (62, .aload_n 0, 1), (63, .getfield 217, 3), (66, .iload_n 1, 1)]
theorem kX12_voyage_2 : chkB cX12_voyage LX12_voyage_2 = true := by decide +kernel
theorem dX12_voyage_47 : decode cX12_voyage 47 = .ok (.iconst 0, 1) := getB' kX12_voyage_2 0 rfl
theorem dX12_voyage_48 : decode cX12_voyage 48 = .ok (.aload_n 0, 1) := getB' kX12_voyage_2 1 rfl
theorem dX12_voyage_49 : decode cX12_voyage 49 = .ok (.getfield 211, 3) := getB' kX12_voyage_2 2 rfl
theorem dX12_voyage_52 : decode cX12_voyage 52 = .ok (.iload_n 1, 1) := getB' kX12_voyage_2 3 rfl
theorem dX12_voyage_53 : decode cX12_voyage 53 = .ok (.iaload, 1) := getB' kX12_voyage_2 4 rfl
theorem dX12_voyage_54 : decode cX12_voyage 54 = .ok (.invokestatic 371, 3) := getB' kX12_voyage_2 5 rfl
theorem dX12_voyage_57 : decode cX12_voyage 57 = .ok (.ifCond .ne 5, 3) := getB' kX12_voyage_2 6 rfl
theorem dX12_voyage_60 : decode cX12_voyage 60 = .ok (.iconst 0, 1) := getB' kX12_voyage_2 7 rfl
theorem dX12_voyage_61 : decode cX12_voyage 61 = .ok (.ireturn, 1) := getB' kX12_voyage_2 8 rfl
theorem dX12_voyage_62 : decode cX12_voyage 62 = .ok (.aload_n 0, 1) := getB' kX12_voyage_2 9 rfl
theorem dX12_voyage_63 : decode cX12_voyage 63 = .ok (.getfield 217, 3) := getB' kX12_voyage_2 10 rfl
theorem dX12_voyage_66 : decode cX12_voyage 66 = .ok (.iload_n 1, 1) := getB' kX12_voyage_2 11 rfl
def LX12_voyage_3 : List (Nat × Instr × Nat) := [(67, .iconst 1, 1), (68, .iastore, 1), (69, .aload_n 0, 1), (70, .getfield 220, 3), (73, .iload_n 1, 1), (74, .iload 4, 2), (76, .iastore, 1), (77, .aload_n 0, 1), (78, .getfield 223, 3), (81, .iload_n 1, 1), (82, .iconst 0, 1), (83, .iastore, 1)]
theorem kX12_voyage_3 : chkB cX12_voyage LX12_voyage_3 = true := by decide +kernel
theorem dX12_voyage_67 : decode cX12_voyage 67 = .ok (.iconst 1, 1) := getB' kX12_voyage_3 0 rfl
theorem dX12_voyage_68 : decode cX12_voyage 68 = .ok (.iastore, 1) := getB' kX12_voyage_3 1 rfl
theorem dX12_voyage_69 : decode cX12_voyage 69 = .ok (.aload_n 0, 1) := getB' kX12_voyage_3 2 rfl
theorem dX12_voyage_70 : decode cX12_voyage 70 = .ok (.getfield 220, 3) := getB' kX12_voyage_3 3 rfl
theorem dX12_voyage_73 : decode cX12_voyage 73 = .ok (.iload_n 1, 1) := getB' kX12_voyage_3 4 rfl
theorem dX12_voyage_74 : decode cX12_voyage 74 = .ok (.iload 4, 2) := getB' kX12_voyage_3 5 rfl
theorem dX12_voyage_76 : decode cX12_voyage 76 = .ok (.iastore, 1) := getB' kX12_voyage_3 6 rfl
theorem dX12_voyage_77 : decode cX12_voyage 77 = .ok (.aload_n 0, 1) := getB' kX12_voyage_3 7 rfl
theorem dX12_voyage_78 : decode cX12_voyage 78 = .ok (.getfield 223, 3) := getB' kX12_voyage_3 8 rfl
theorem dX12_voyage_81 : decode cX12_voyage 81 = .ok (.iload_n 1, 1) := getB' kX12_voyage_3 9 rfl
theorem dX12_voyage_82 : decode cX12_voyage 82 = .ok (.iconst 0, 1) := getB' kX12_voyage_3 10 rfl
theorem dX12_voyage_83 : decode cX12_voyage 83 = .ok (.iastore, 1) := getB' kX12_voyage_3 11 rfl
def LX12_voyage_4 : List (Nat × Instr × Nat) := [(84, .aload_n 0, 1), (85, .getfield 229, 3), (88, .iload_n 1, 1), (89, .iconst 0, 1), (90, .iastore, 1), (91, .aload_n 0, 1), (92, .getfield 232, 3), (95, .iload_n 1, 1), (96, .iload_n 2, 1), (97, .iastore, 1), (98, .aload_n 0, 1), (99, .getfield 235, 3)]
theorem kX12_voyage_4 : chkB cX12_voyage LX12_voyage_4 = true := by decide +kernel
theorem dX12_voyage_84 : decode cX12_voyage 84 = .ok (.aload_n 0, 1) := getB' kX12_voyage_4 0 rfl
theorem dX12_voyage_85 : decode cX12_voyage 85 = .ok (.getfield 229, 3) := getB' kX12_voyage_4 1 rfl
theorem dX12_voyage_88 : decode cX12_voyage 88 = .ok (.iload_n 1, 1) := getB' kX12_voyage_4 2 rfl
theorem dX12_voyage_89 : decode cX12_voyage 89 = .ok (.iconst 0, 1) := getB' kX12_voyage_4 3 rfl
theorem dX12_voyage_90 : decode cX12_voyage 90 = .ok (.iastore, 1) := getB' kX12_voyage_4 4 rfl
theorem dX12_voyage_91 : decode cX12_voyage 91 = .ok (.aload_n 0, 1) := getB' kX12_voyage_4 5 rfl
theorem dX12_voyage_92 : decode cX12_voyage 92 = .ok (.getfield 232, 3) := getB' kX12_voyage_4 6 rfl
theorem dX12_voyage_95 : decode cX12_voyage 95 = .ok (.iload_n 1, 1) := getB' kX12_voyage_4 7 rfl
theorem dX12_voyage_96 : decode cX12_voyage 96 = .ok (.iload_n 2, 1) := getB' kX12_voyage_4 8 rfl
theorem dX12_voyage_97 : decode cX12_voyage 97 = .ok (.iastore, 1) := getB' kX12_voyage_4 9 rfl
theorem dX12_voyage_98 : decode cX12_voyage 98 = .ok (.aload_n 0, 1) := getB' kX12_voyage_4 10 rfl
theorem dX12_voyage_99 : decode cX12_voyage 99 = .ok (.getfield 235, 3) := getB' kX12_voyage_4 11 rfl
def LX12_voyage_5 : List (Nat × Instr × Nat) := [(102, .iload_n 1, 1), (103, .iload_n 3, 1), (104, .iastore, 1), (105, .aload_n 0, 1), (106, .getfield 238, 3), (109, .iload_n 1, 1), (110, .aload_n 0, 1), (111, .getfield 244, 3), (114, .iload_n 2, 1), (115, .iaload, 1), (116, .iastore, 1), (117, .aload_n 0, 1)]
theorem kX12_voyage_5 : chkB cX12_voyage LX12_voyage_5 = true := by decide +kernel
theorem dX12_voyage_102 : decode cX12_voyage 102 = .ok (.iload_n 1, 1) := getB' kX12_voyage_5 0 rfl
theorem dX12_voyage_103 : decode cX12_voyage 103 = .ok (.iload_n 3, 1) := getB' kX12_voyage_5 1 rfl
theorem dX12_voyage_104 : decode cX12_voyage 104 = .ok (.iastore, 1) := getB' kX12_voyage_5 2 rfl
theorem dX12_voyage_105 : decode cX12_voyage 105 = .ok (.aload_n 0, 1) := getB' kX12_voyage_5 3 rfl
theorem dX12_voyage_106 : decode cX12_voyage 106 = .ok (.getfield 238, 3) := getB' kX12_voyage_5 4 rfl
theorem dX12_voyage_109 : decode cX12_voyage 109 = .ok (.iload_n 1, 1) := getB' kX12_voyage_5 5 rfl
theorem dX12_voyage_110 : decode cX12_voyage 110 = .ok (.aload_n 0, 1) := getB' kX12_voyage_5 6 rfl
theorem dX12_voyage_111 : decode cX12_voyage 111 = .ok (.getfield 244, 3) := getB' kX12_voyage_5 7 rfl
theorem dX12_voyage_114 : decode cX12_voyage 114 = .ok (.iload_n 2, 1) := getB' kX12_voyage_5 8 rfl
theorem dX12_voyage_115 : decode cX12_voyage 115 = .ok (.iaload, 1) := getB' kX12_voyage_5 9 rfl
theorem dX12_voyage_116 : decode cX12_voyage 116 = .ok (.iastore, 1) := getB' kX12_voyage_5 10 rfl
theorem dX12_voyage_117 : decode cX12_voyage 117 = .ok (.aload_n 0, 1) := getB' kX12_voyage_5 11 rfl
def LX12_voyage_6 : List (Nat × Instr × Nat) := [(118, .getfield 226, 3), (121, .iload_n 1, 1), (122, .aload_n 0, 1), (123, .getfield 396, 3), (126, .aload_n 0, 1), (127, .getfield 244, 3), (130, .iload_n 2, 1), (131, .iaload, 1), (132, .iadd, 1), (133, .iastore, 1), (134, .aload_n 0, 1), (135, .aload_n 0, 1)]
theorem kX12_voyage_6 : chkB cX12_voyage LX12_voyage_6 = true := by decide +kernel
theorem dX12_voyage_118 : decode cX12_voyage 118 = .ok (.getfield 226, 3) := getB' kX12_voyage_6 0 rfl
theorem dX12_voyage_121 : decode cX12_voyage 121 = .ok (.iload_n 1, 1) := getB' kX12_voyage_6 1 rfl
theorem dX12_voyage_122 : decode cX12_voyage 122 = .ok (.aload_n 0, 1) := getB' kX12_voyage_6 2 rfl
theorem dX12_voyage_123 : decode cX12_voyage 123 = .ok (.getfield 396, 3) := getB' kX12_voyage_6 3 rfl
theorem dX12_voyage_126 : decode cX12_voyage 126 = .ok (.aload_n 0, 1) := getB' kX12_voyage_6 4 rfl
theorem dX12_voyage_127 : decode cX12_voyage 127 = .ok (.getfield 244, 3) := getB' kX12_voyage_6 5 rfl
theorem dX12_voyage_130 : decode cX12_voyage 130 = .ok (.iload_n 2, 1) := getB' kX12_voyage_6 6 rfl
theorem dX12_voyage_131 : decode cX12_voyage 131 = .ok (.iaload, 1) := getB' kX12_voyage_6 7 rfl
theorem dX12_voyage_132 : decode cX12_voyage 132 = .ok (.iadd, 1) := getB' kX12_voyage_6 8 rfl
theorem dX12_voyage_133 : decode cX12_voyage 133 = .ok (.iastore, 1) := getB' kX12_voyage_6 9 rfl
theorem dX12_voyage_134 : decode cX12_voyage 134 = .ok (.aload_n 0, 1) := getB' kX12_voyage_6 10 rfl
theorem dX12_voyage_135 : decode cX12_voyage 135 = .ok (.aload_n 0, 1) := getB' kX12_voyage_6 11 rfl
def LX12_voyage_7 : List (Nat × Instr × Nat) := [(136, .getfield 429, 3), (139, .iload 4, 2), (141, .i2l, 1), (142, .ladd, 1), (143, .putfield 429, 3), (146, .iconst 1, 1), (147, .ireturn, 1)]
theorem kX12_voyage_7 : chkB cX12_voyage LX12_voyage_7 = true := by decide +kernel
theorem dX12_voyage_136 : decode cX12_voyage 136 = .ok (.getfield 429, 3) := getB' kX12_voyage_7 0 rfl
theorem dX12_voyage_139 : decode cX12_voyage 139 = .ok (.iload 4, 2) := getB' kX12_voyage_7 1 rfl
theorem dX12_voyage_141 : decode cX12_voyage 141 = .ok (.i2l, 1) := getB' kX12_voyage_7 2 rfl
theorem dX12_voyage_142 : decode cX12_voyage 142 = .ok (.ladd, 1) := getB' kX12_voyage_7 3 rfl
theorem dX12_voyage_143 : decode cX12_voyage 143 = .ok (.putfield 429, 3) := getB' kX12_voyage_7 4 rfl
theorem dX12_voyage_146 : decode cX12_voyage 146 = .ok (.iconst 1, 1) := getB' kX12_voyage_7 5 rfl
theorem dX12_voyage_147 : decode cX12_voyage 147 = .ok (.ireturn, 1) := getB' kX12_voyage_7 6 rfl
def LX12_turnsBack_0 : List (Nat × Instr × Nat) := [(0, .aload_n 0, 1), (1, .getfield 217, 3), (4, .iload_n 1, 1), (5, .iconst 3, 1), (6, .iastore, 1), (7, .aload_n 0, 1), (8, .getfield 226, 3), (11, .iload_n 1, 1), (12, .aload_n 0, 1), (13, .getfield 396, 3), (16, .aload_n 0, 1), (17, .getfield 238, 3)]
theorem kX12_turnsBack_0 : chkB cX12_turnsBack LX12_turnsBack_0 = true := by decide +kernel
theorem dX12_turnsBack_0 : decode cX12_turnsBack 0 = .ok (.aload_n 0, 1) := getB' kX12_turnsBack_0 0 rfl
theorem dX12_turnsBack_1 : decode cX12_turnsBack 1 = .ok (.getfield 217, 3) := getB' kX12_turnsBack_0 1 rfl
theorem dX12_turnsBack_4 : decode cX12_turnsBack 4 = .ok (.iload_n 1, 1) := getB' kX12_turnsBack_0 2 rfl
theorem dX12_turnsBack_5 : decode cX12_turnsBack 5 = .ok (.iconst 3, 1) := getB' kX12_turnsBack_0 3 rfl
theorem dX12_turnsBack_6 : decode cX12_turnsBack 6 = .ok (.iastore, 1) := getB' kX12_turnsBack_0 4 rfl
theorem dX12_turnsBack_7 : decode cX12_turnsBack 7 = .ok (.aload_n 0, 1) := getB' kX12_turnsBack_0 5 rfl
theorem dX12_turnsBack_8 : decode cX12_turnsBack 8 = .ok (.getfield 226, 3) := getB' kX12_turnsBack_0 6 rfl
theorem dX12_turnsBack_11 : decode cX12_turnsBack 11 = .ok (.iload_n 1, 1) := getB' kX12_turnsBack_0 7 rfl
theorem dX12_turnsBack_12 : decode cX12_turnsBack 12 = .ok (.aload_n 0, 1) := getB' kX12_turnsBack_0 8 rfl
theorem dX12_turnsBack_13 : decode cX12_turnsBack 13 = .ok (.getfield 396, 3) := getB' kX12_turnsBack_0 9 rfl
theorem dX12_turnsBack_16 : decode cX12_turnsBack 16 = .ok (.aload_n 0, 1) := getB' kX12_turnsBack_0 10 rfl
theorem dX12_turnsBack_17 : decode cX12_turnsBack 17 = .ok (.getfield 238, 3) := getB' kX12_turnsBack_0 11 rfl
def LX12_turnsBack_1 : List (Nat × Instr × Nat) := [(20, .iload_n 1, 1), (21, .iaload, 1), (22, .iadd, 1), (23, .iastore, 1), (24, .return_, 1)]
theorem kX12_turnsBack_1 : chkB cX12_turnsBack LX12_turnsBack_1 = true := by decide +kernel
theorem dX12_turnsBack_20 : decode cX12_turnsBack 20 = .ok (.iload_n 1, 1) := getB' kX12_turnsBack_1 0 rfl
theorem dX12_turnsBack_21 : decode cX12_turnsBack 21 = .ok (.iaload, 1) := getB' kX12_turnsBack_1 1 rfl
theorem dX12_turnsBack_22 : decode cX12_turnsBack 22 = .ok (.iadd, 1) := getB' kX12_turnsBack_1 2 rfl
theorem dX12_turnsBack_23 : decode cX12_turnsBack 23 = .ok (.iastore, 1) := getB' kX12_turnsBack_1 3 rfl
theorem dX12_turnsBack_24 : decode cX12_turnsBack 24 = .ok (.return_, 1) := getB' kX12_turnsBack_1 4 rfl
def LX12_arrives_0 : List (Nat × Instr × Nat) := [(0, .aload_n 0, 1), (1, .getfield 235, 3), (4, .iload_n 1, 1), (5, .iaload, 1), (6, .istore_n 2, 1), (7, .aload_n 0, 1), (8, .getfield 80, 3), (11, .iload_n 2, 1), (12, .baload, 1), (13, .ifCond .ne 16, 3), (16, .aload_n 0, 1), (17, .aload_n 0, 1)]
theorem kX12_arrives_0 : chkB cX12_arrives LX12_arrives_0 = true := by decide +kernel
theorem dX12_arrives_0 : decode cX12_arrives 0 = .ok (.aload_n 0, 1) := getB' kX12_arrives_0 0 rfl
theorem dX12_arrives_1 : decode cX12_arrives 1 = .ok (.getfield 235, 3) := getB' kX12_arrives_0 1 rfl
theorem dX12_arrives_4 : decode cX12_arrives 4 = .ok (.iload_n 1, 1) := getB' kX12_arrives_0 2 rfl
theorem dX12_arrives_5 : decode cX12_arrives 5 = .ok (.iaload, 1) := getB' kX12_arrives_0 3 rfl
theorem dX12_arrives_6 : decode cX12_arrives 6 = .ok (.istore_n 2, 1) := getB' kX12_arrives_0 4 rfl
theorem dX12_arrives_7 : decode cX12_arrives 7 = .ok (.aload_n 0, 1) := getB' kX12_arrives_0 5 rfl
theorem dX12_arrives_8 : decode cX12_arrives 8 = .ok (.getfield 80, 3) := getB' kX12_arrives_0 6 rfl
theorem dX12_arrives_11 : decode cX12_arrives 11 = .ok (.iload_n 2, 1) := getB' kX12_arrives_0 7 rfl
theorem dX12_arrives_12 : decode cX12_arrives 12 = .ok (.baload, 1) := getB' kX12_arrives_0 8 rfl
theorem dX12_arrives_13 : decode cX12_arrives 13 = .ok (.ifCond .ne 16, 3) := getB' kX12_arrives_0 9 rfl
theorem dX12_arrives_16 : decode cX12_arrives 16 = .ok (.aload_n 0, 1) := getB' kX12_arrives_0 10 rfl
theorem dX12_arrives_17 : decode cX12_arrives 17 = .ok (.aload_n 0, 1) := getB' kX12_arrives_0 11 rfl
def LX12_arrives_1 : List (Nat × Instr × Nat) := [(18, .getfield 41, 3), (21, .iload_n 2, 1), (22, .iaload, 1), (23, .invokevirtual 621, 3), (26, .ifCond .ne 9, 3), (29, .aload_n 0, 1), (30, .iload_n 1, 1), (31, .invokevirtual 624, 3), (34, .return_, 1), (35, .aload_n 0, 1), (36, .getfield 56, 3), (39, .iload_n 2, 1)]
theorem kX12_arrives_1 : chkB cX12_arrives LX12_arrives_1 = true := by decide +kernel
theorem dX12_arrives_18 : decode cX12_arrives 18 = .ok (.getfield 41, 3) := getB' kX12_arrives_1 0 rfl
theorem dX12_arrives_21 : decode cX12_arrives 21 = .ok (.iload_n 2, 1) := getB' kX12_arrives_1 1 rfl
theorem dX12_arrives_22 : decode cX12_arrives 22 = .ok (.iaload, 1) := getB' kX12_arrives_1 2 rfl
theorem dX12_arrives_23 : decode cX12_arrives 23 = .ok (.invokevirtual 621, 3) := getB' kX12_arrives_1 3 rfl
theorem dX12_arrives_26 : decode cX12_arrives 26 = .ok (.ifCond .ne 9, 3) := getB' kX12_arrives_1 4 rfl
theorem dX12_arrives_29 : decode cX12_arrives 29 = .ok (.aload_n 0, 1) := getB' kX12_arrives_1 5 rfl
theorem dX12_arrives_30 : decode cX12_arrives 30 = .ok (.iload_n 1, 1) := getB' kX12_arrives_1 6 rfl
theorem dX12_arrives_31 : decode cX12_arrives 31 = .ok (.invokevirtual 624, 3) := getB' kX12_arrives_1 7 rfl
theorem dX12_arrives_34 : decode cX12_arrives 34 = .ok (.return_, 1) := getB' kX12_arrives_1 8 rfl
theorem dX12_arrives_35 : decode cX12_arrives 35 = .ok (.aload_n 0, 1) := getB' kX12_arrives_1 9 rfl
theorem dX12_arrives_36 : decode cX12_arrives 36 = .ok (.getfield 56, 3) := getB' kX12_arrives_1 10 rfl
theorem dX12_arrives_39 : decode cX12_arrives 39 = .ok (.iload_n 2, 1) := getB' kX12_arrives_1 11 rfl
def LX12_arrives_2 : List (Nat × Instr × Nat) := [(40, .aload_n 0, 1), (41, .getfield 56, 3), (44, .iload_n 2, 1), (45, .iaload, 1), (46, .aload_n 0, 1), (47, .getfield 220, 3), (50, .iload_n 1, 1), (51, .iaload, 1), (52, .iadd, 1), (53, .iastore, 1), (54, .aload_n 0, 1), (55, .getfield 220, 3)]
theorem kX12_arrives_2 : chkB cX12_arrives LX12_arrives_2 = true := by decide +kernel
theorem dX12_arrives_40 : decode cX12_arrives 40 = .ok (.aload_n 0, 1) := getB' kX12_arrives_2 0 rfl
theorem dX12_arrives_41 : decode cX12_arrives 41 = .ok (.getfield 56, 3) := getB' kX12_arrives_2 1 rfl
theorem dX12_arrives_44 : decode cX12_arrives 44 = .ok (.iload_n 2, 1) := getB' kX12_arrives_2 2 rfl
theorem dX12_arrives_45 : decode cX12_arrives 45 = .ok (.iaload, 1) := getB' kX12_arrives_2 3 rfl
theorem dX12_arrives_46 : decode cX12_arrives 46 = .ok (.aload_n 0, 1) := getB' kX12_arrives_2 4 rfl
theorem dX12_arrives_47 : decode cX12_arrives 47 = .ok (.getfield 220, 3) := getB' kX12_arrives_2 5 rfl
theorem dX12_arrives_50 : decode cX12_arrives 50 = .ok (.iload_n 1, 1) := getB' kX12_arrives_2 6 rfl
theorem dX12_arrives_51 : decode cX12_arrives 51 = .ok (.iaload, 1) := getB' kX12_arrives_2 7 rfl
theorem dX12_arrives_52 : decode cX12_arrives 52 = .ok (.iadd, 1) := getB' kX12_arrives_2 8 rfl
theorem dX12_arrives_53 : decode cX12_arrives 53 = .ok (.iastore, 1) := getB' kX12_arrives_2 9 rfl
theorem dX12_arrives_54 : decode cX12_arrives 54 = .ok (.aload_n 0, 1) := getB' kX12_arrives_2 10 rfl
theorem dX12_arrives_55 : decode cX12_arrives 55 = .ok (.getfield 220, 3) := getB' kX12_arrives_2 11 rfl
def LX12_arrives_3 : List (Nat × Instr × Nat) := [(58, .iload_n 1, 1), (59, .iconst 0, 1), (60, .iastore, 1), (61, .iconst 3, 1), (62, .istore_n 3, 1), (63, .iload_n 3, 1), (64, .ifCond .lt 94, 3), (67, .aload_n 0, 1), (68, .getfield 211, 3), (71, .iload_n 1, 1), (72, .iaload, 1), (73, .aload_n 0, 1)]
theorem kX12_arrives_3 : chkB cX12_arrives LX12_arrives_3 = true := by decide +kernel
theorem dX12_arrives_58 : decode cX12_arrives 58 = .ok (.iload_n 1, 1) := getB' kX12_arrives_3 0 rfl
theorem dX12_arrives_59 : decode cX12_arrives 59 = .ok (.iconst 0, 1) := getB' kX12_arrives_3 1 rfl
theorem dX12_arrives_60 : decode cX12_arrives 60 = .ok (.iastore, 1) := getB' kX12_arrives_3 2 rfl
theorem dX12_arrives_61 : decode cX12_arrives 61 = .ok (.iconst 3, 1) := getB' kX12_arrives_3 3 rfl
theorem dX12_arrives_62 : decode cX12_arrives 62 = .ok (.istore_n 3, 1) := getB' kX12_arrives_3 4 rfl
theorem dX12_arrives_63 : decode cX12_arrives 63 = .ok (.iload_n 3, 1) := getB' kX12_arrives_3 5 rfl
theorem dX12_arrives_64 : decode cX12_arrives 64 = .ok (.ifCond .lt 94, 3) := getB' kX12_arrives_3 6 rfl
theorem dX12_arrives_67 : decode cX12_arrives 67 = .ok (.aload_n 0, 1) := getB' kX12_arrives_3 7 rfl
theorem dX12_arrives_68 : decode cX12_arrives 68 = .ok (.getfield 211, 3) := getB' kX12_arrives_3 8 rfl
theorem dX12_arrives_71 : decode cX12_arrives 71 = .ok (.iload_n 1, 1) := getB' kX12_arrives_3 9 rfl
theorem dX12_arrives_72 : decode cX12_arrives 72 = .ok (.iaload, 1) := getB' kX12_arrives_3 10 rfl
theorem dX12_arrives_73 : decode cX12_arrives 73 = .ok (.aload_n 0, 1) := getB' kX12_arrives_3 11 rfl
def LX12_arrives_4 : List (Nat × Instr × Nat) := [(74, .getfield 223, 3), (77, .iload_n 1, 1), (78, .iaload, 1), (79, .isub, 1), (80, .istore 4, 2), (82, .aload_n 0, 1), (83, .getfield 65, 3), (86, .iconst 4, 1), (87, .iload_n 2, 1), (88, .imul, 1), (89, .iload_n 3, 1), (90, .iadd, 1)]
theorem kX12_arrives_4 : chkB cX12_arrives LX12_arrives_4 = true := by decide +kernel
theorem dX12_arrives_74 : decode cX12_arrives 74 = .ok (.getfield 223, 3) := getB' kX12_arrives_4 0 rfl
theorem dX12_arrives_77 : decode cX12_arrives 77 = .ok (.iload_n 1, 1) := getB' kX12_arrives_4 1 rfl
theorem dX12_arrives_78 : decode cX12_arrives 78 = .ok (.iaload, 1) := getB' kX12_arrives_4 2 rfl
theorem dX12_arrives_79 : decode cX12_arrives 79 = .ok (.isub, 1) := getB' kX12_arrives_4 3 rfl
theorem dX12_arrives_80 : decode cX12_arrives 80 = .ok (.istore 4, 2) := getB' kX12_arrives_4 4 rfl
theorem dX12_arrives_82 : decode cX12_arrives 82 = .ok (.aload_n 0, 1) := getB' kX12_arrives_4 5 rfl
theorem dX12_arrives_83 : decode cX12_arrives 83 = .ok (.getfield 65, 3) := getB' kX12_arrives_4 6 rfl
theorem dX12_arrives_86 : decode cX12_arrives 86 = .ok (.iconst 4, 1) := getB' kX12_arrives_4 7 rfl
theorem dX12_arrives_87 : decode cX12_arrives 87 = .ok (.iload_n 2, 1) := getB' kX12_arrives_4 8 rfl
theorem dX12_arrives_88 : decode cX12_arrives 88 = .ok (.imul, 1) := getB' kX12_arrives_4 9 rfl
theorem dX12_arrives_89 : decode cX12_arrives 89 = .ok (.iload_n 3, 1) := getB' kX12_arrives_4 10 rfl
theorem dX12_arrives_90 : decode cX12_arrives 90 = .ok (.iadd, 1) := getB' kX12_arrives_4 11 rfl
def LX12_arrives_5 : List (Nat × Instr × Nat) := [(91, .iaload, 1), (92, .iload 4, 2), (94, .if_icmp .ge 16, 3), (97, .aload_n 0, 1), (98, .getfield 65, 3), (101, .iconst 4, 1), (102, .iload_n 2, 1), (103, .imul, 1), (104, .iload_n 3, 1), (105, .iadd, 1), (106, .iaload, 1), (107, .goto 5, 3)]
theorem kX12_arrives_5 : chkB cX12_arrives LX12_arrives_5 = true := by decide +kernel
theorem dX12_arrives_91 : decode cX12_arrives 91 = .ok (.iaload, 1) := getB' kX12_arrives_5 0 rfl
theorem dX12_arrives_92 : decode cX12_arrives 92 = .ok (.iload 4, 2) := getB' kX12_arrives_5 1 rfl
theorem dX12_arrives_94 : decode cX12_arrives 94 = .ok (.if_icmp .ge 16, 3) := getB' kX12_arrives_5 2 rfl
theorem dX12_arrives_97 : decode cX12_arrives 97 = .ok (.aload_n 0, 1) := getB' kX12_arrives_5 3 rfl
theorem dX12_arrives_98 : decode cX12_arrives 98 = .ok (.getfield 65, 3) := getB' kX12_arrives_5 4 rfl
theorem dX12_arrives_101 : decode cX12_arrives 101 = .ok (.iconst 4, 1) := getB' kX12_arrives_5 5 rfl
theorem dX12_arrives_102 : decode cX12_arrives 102 = .ok (.iload_n 2, 1) := getB' kX12_arrives_5 6 rfl
theorem dX12_arrives_103 : decode cX12_arrives 103 = .ok (.imul, 1) := getB' kX12_arrives_5 7 rfl
theorem dX12_arrives_104 : decode cX12_arrives 104 = .ok (.iload_n 3, 1) := getB' kX12_arrives_5 8 rfl
theorem dX12_arrives_105 : decode cX12_arrives 105 = .ok (.iadd, 1) := getB' kX12_arrives_5 9 rfl
theorem dX12_arrives_106 : decode cX12_arrives 106 = .ok (.iaload, 1) := getB' kX12_arrives_5 10 rfl
theorem dX12_arrives_107 : decode cX12_arrives 107 = .ok (.goto 5, 3) := getB' kX12_arrives_5 11 rfl
def LX12_arrives_6 : List (Nat × Instr × Nat) := [(110, .iload 4, 2), (112, .istore 5, 2), (114, .aload_n 0, 1), (115, .getfield 65, 3), (118, .iconst 4, 1), (119, .iload_n 2, 1), (120, .imul, 1), (121, .iload_n 3, 1), (122, .iadd, 1), (123, .aload_n 0, 1), (124, .getfield 65, 3), (127, .iconst 4, 1)]
theorem kX12_arrives_6 : chkB cX12_arrives LX12_arrives_6 = true := by decide +kernel
theorem dX12_arrives_110 : decode cX12_arrives 110 = .ok (.iload 4, 2) := getB' kX12_arrives_6 0 rfl
theorem dX12_arrives_112 : decode cX12_arrives 112 = .ok (.istore 5, 2) := getB' kX12_arrives_6 1 rfl
theorem dX12_arrives_114 : decode cX12_arrives 114 = .ok (.aload_n 0, 1) := getB' kX12_arrives_6 2 rfl
theorem dX12_arrives_115 : decode cX12_arrives 115 = .ok (.getfield 65, 3) := getB' kX12_arrives_6 3 rfl
theorem dX12_arrives_118 : decode cX12_arrives 118 = .ok (.iconst 4, 1) := getB' kX12_arrives_6 4 rfl
theorem dX12_arrives_119 : decode cX12_arrives 119 = .ok (.iload_n 2, 1) := getB' kX12_arrives_6 5 rfl
theorem dX12_arrives_120 : decode cX12_arrives 120 = .ok (.imul, 1) := getB' kX12_arrives_6 6 rfl
theorem dX12_arrives_121 : decode cX12_arrives 121 = .ok (.iload_n 3, 1) := getB' kX12_arrives_6 7 rfl
theorem dX12_arrives_122 : decode cX12_arrives 122 = .ok (.iadd, 1) := getB' kX12_arrives_6 8 rfl
theorem dX12_arrives_123 : decode cX12_arrives 123 = .ok (.aload_n 0, 1) := getB' kX12_arrives_6 9 rfl
theorem dX12_arrives_124 : decode cX12_arrives 124 = .ok (.getfield 65, 3) := getB' kX12_arrives_6 10 rfl
theorem dX12_arrives_127 : decode cX12_arrives 127 = .ok (.iconst 4, 1) := getB' kX12_arrives_6 11 rfl
def LX12_arrives_7 : List (Nat × Instr × Nat) := [(128, .iload_n 2, 1), (129, .imul, 1), (130, .iload_n 3, 1), (131, .iadd, 1), (132, .iaload, 1), (133, .iload 5, 2), (135, .isub, 1), (136, .iastore, 1), (137, .aload_n 0, 1), (138, .getfield 223, 3), (141, .iload_n 1, 1), (142, .aload_n 0, 1)]
theorem kX12_arrives_7 : chkB cX12_arrives LX12_arrives_7 = true := by decide +kernel
theorem dX12_arrives_128 : decode cX12_arrives 128 = .ok (.iload_n 2, 1) := getB' kX12_arrives_7 0 rfl
theorem dX12_arrives_129 : decode cX12_arrives 129 = .ok (.imul, 1) := getB' kX12_arrives_7 1 rfl
theorem dX12_arrives_130 : decode cX12_arrives 130 = .ok (.iload_n 3, 1) := getB' kX12_arrives_7 2 rfl
theorem dX12_arrives_131 : decode cX12_arrives 131 = .ok (.iadd, 1) := getB' kX12_arrives_7 3 rfl
theorem dX12_arrives_132 : decode cX12_arrives 132 = .ok (.iaload, 1) := getB' kX12_arrives_7 4 rfl
theorem dX12_arrives_133 : decode cX12_arrives 133 = .ok (.iload 5, 2) := getB' kX12_arrives_7 5 rfl
theorem dX12_arrives_135 : decode cX12_arrives 135 = .ok (.isub, 1) := getB' kX12_arrives_7 6 rfl
theorem dX12_arrives_136 : decode cX12_arrives 136 = .ok (.iastore, 1) := getB' kX12_arrives_7 7 rfl
theorem dX12_arrives_137 : decode cX12_arrives 137 = .ok (.aload_n 0, 1) := getB' kX12_arrives_7 8 rfl
theorem dX12_arrives_138 : decode cX12_arrives 138 = .ok (.getfield 223, 3) := getB' kX12_arrives_7 9 rfl
theorem dX12_arrives_141 : decode cX12_arrives 141 = .ok (.iload_n 1, 1) := getB' kX12_arrives_7 10 rfl
theorem dX12_arrives_142 : decode cX12_arrives 142 = .ok (.aload_n 0, 1) := getB' kX12_arrives_7 11 rfl
def LX12_arrives_8 : List (Nat × Instr × Nat) := [(143, .getfield 223, 3), (146, .iload_n 1, 1), (147, .iaload, 1), (148, .iload 5, 2), (150, .iadd, 1), (151, .iastore, 1), (152, .iinc 3 (-1), 3), (155, .goto (-92), 3), (158, .aload_n 0, 1), (159, .iload_n 1, 1), (160, .invokevirtual 624, 3), (163, .return_, 1)]
theorem kX12_arrives_8 : chkB cX12_arrives LX12_arrives_8 = true := by decide +kernel
theorem dX12_arrives_143 : decode cX12_arrives 143 = .ok (.getfield 223, 3) := getB' kX12_arrives_8 0 rfl
theorem dX12_arrives_146 : decode cX12_arrives 146 = .ok (.iload_n 1, 1) := getB' kX12_arrives_8 1 rfl
theorem dX12_arrives_147 : decode cX12_arrives 147 = .ok (.iaload, 1) := getB' kX12_arrives_8 2 rfl
theorem dX12_arrives_148 : decode cX12_arrives 148 = .ok (.iload 5, 2) := getB' kX12_arrives_8 3 rfl
theorem dX12_arrives_150 : decode cX12_arrives 150 = .ok (.iadd, 1) := getB' kX12_arrives_8 4 rfl
theorem dX12_arrives_151 : decode cX12_arrives 151 = .ok (.iastore, 1) := getB' kX12_arrives_8 5 rfl
theorem dX12_arrives_152 : decode cX12_arrives 152 = .ok (.iinc 3 (-1), 3) := getB' kX12_arrives_8 6 rfl
theorem dX12_arrives_155 : decode cX12_arrives 155 = .ok (.goto (-92), 3) := getB' kX12_arrives_8 7 rfl
theorem dX12_arrives_158 : decode cX12_arrives 158 = .ok (.aload_n 0, 1) := getB' kX12_arrives_8 8 rfl
theorem dX12_arrives_159 : decode cX12_arrives 159 = .ok (.iload_n 1, 1) := getB' kX12_arrives_8 9 rfl
theorem dX12_arrives_160 : decode cX12_arrives 160 = .ok (.invokevirtual 624, 3) := getB' kX12_arrives_8 10 rfl
theorem dX12_arrives_163 : decode cX12_arrives 163 = .ok (.return_, 1) := getB' kX12_arrives_8 11 rfl
def LX12_waits_0 : List (Nat × Instr × Nat) := [(0, .aload_n 0, 1), (1, .getfield 241, 3), (4, .bipush 12, 2), (6, .aload_n 0, 1), (7, .getfield 232, 3), (10, .iload_n 1, 1), (11, .iaload, 1), (12, .imul, 1), (13, .aload_n 0, 1), (14, .getfield 396, 3), (17, .sipush 360, 3), (20, .irem, 1)]
theorem kX12_waits_0 : chkB cX12_waits LX12_waits_0 = true := by decide +kernel
theorem dX12_waits_0 : decode cX12_waits 0 = .ok (.aload_n 0, 1) := getB' kX12_waits_0 0 rfl
theorem dX12_waits_1 : decode cX12_waits 1 = .ok (.getfield 241, 3) := getB' kX12_waits_0 1 rfl
theorem dX12_waits_4 : decode cX12_waits 4 = .ok (.bipush 12, 2) := getB' kX12_waits_0 2 rfl
theorem dX12_waits_6 : decode cX12_waits 6 = .ok (.aload_n 0, 1) := getB' kX12_waits_0 3 rfl
theorem dX12_waits_7 : decode cX12_waits 7 = .ok (.getfield 232, 3) := getB' kX12_waits_0 4 rfl
theorem dX12_waits_10 : decode cX12_waits 10 = .ok (.iload_n 1, 1) := getB' kX12_waits_0 5 rfl
theorem dX12_waits_11 : decode cX12_waits 11 = .ok (.iaload, 1) := getB' kX12_waits_0 6 rfl
theorem dX12_waits_12 : decode cX12_waits 12 = .ok (.imul, 1) := getB' kX12_waits_0 7 rfl
theorem dX12_waits_13 : decode cX12_waits 13 = .ok (.aload_n 0, 1) := getB' kX12_waits_0 8 rfl
theorem dX12_waits_14 : decode cX12_waits 14 = .ok (.getfield 396, 3) := getB' kX12_waits_0 9 rfl
theorem dX12_waits_17 : decode cX12_waits 17 = .ok (.sipush 360, 3) := getB' kX12_waits_0 10 rfl
theorem dX12_waits_20 : decode cX12_waits 20 = .ok (.irem, 1) := getB' kX12_waits_0 11 rfl
def LX12_waits_1 : List (Nat × Instr × Nat) := [(21, .bipush 30, 2), (23, .idiv, 1), (24, .iadd, 1), (25, .iaload, 1), (26, .aload_n 0, 1), (27, .getfield 214, 3), (30, .iload_n 1, 1), (31, .iaload, 1), (32, .if_icmp .gt 9, 3), (35, .aload_n 0, 1), (36, .iload_n 1, 1), (37, .invokevirtual 627, 3)]
theorem kX12_waits_1 : chkB cX12_waits LX12_waits_1 = true := by decide +kernel
theorem dX12_waits_21 : decode cX12_waits 21 = .ok (.bipush 30, 2) := getB' kX12_waits_1 0 rfl
theorem dX12_waits_23 : decode cX12_waits 23 = .ok (.idiv, 1) := getB' kX12_waits_1 1 rfl
theorem dX12_waits_24 : decode cX12_waits 24 = .ok (.iadd, 1) := getB' kX12_waits_1 2 rfl
theorem dX12_waits_25 : decode cX12_waits 25 = .ok (.iaload, 1) := getB' kX12_waits_1 3 rfl
theorem dX12_waits_26 : decode cX12_waits 26 = .ok (.aload_n 0, 1) := getB' kX12_waits_1 4 rfl
theorem dX12_waits_27 : decode cX12_waits 27 = .ok (.getfield 214, 3) := getB' kX12_waits_1 5 rfl
theorem dX12_waits_30 : decode cX12_waits 30 = .ok (.iload_n 1, 1) := getB' kX12_waits_1 6 rfl
theorem dX12_waits_31 : decode cX12_waits 31 = .ok (.iaload, 1) := getB' kX12_waits_1 7 rfl
theorem dX12_waits_32 : decode cX12_waits 32 = .ok (.if_icmp .gt 9, 3) := getB' kX12_waits_1 8 rfl
theorem dX12_waits_35 : decode cX12_waits 35 = .ok (.aload_n 0, 1) := getB' kX12_waits_1 9 rfl
theorem dX12_waits_36 : decode cX12_waits 36 = .ok (.iload_n 1, 1) := getB' kX12_waits_1 10 rfl
theorem dX12_waits_37 : decode cX12_waits 37 = .ok (.invokevirtual 627, 3) := getB' kX12_waits_1 11 rfl
def LX12_waits_2 : List (Nat × Instr × Nat) := [(40, .return_, 1), (41, .aload_n 0, 1), (42, .getfield 229, 3), (45, .iload_n 1, 1), (46, .aload_n 0, 1), (47, .getfield 229, 3), (50, .iload_n 1, 1), (51, .iaload, 1), (52, .iconst 1, 1), (53, .iadd, 1), (54, .iastore, 1), (55, .aload_n 0, 1)]
theorem kX12_waits_2 : chkB cX12_waits LX12_waits_2 = true := by decide +kernel
theorem dX12_waits_40 : decode cX12_waits 40 = .ok (.return_, 1) := getB' kX12_waits_2 0 rfl
theorem dX12_waits_41 : decode cX12_waits 41 = .ok (.aload_n 0, 1) := getB' kX12_waits_2 1 rfl
theorem dX12_waits_42 : decode cX12_waits 42 = .ok (.getfield 229, 3) := getB' kX12_waits_2 2 rfl
theorem dX12_waits_45 : decode cX12_waits 45 = .ok (.iload_n 1, 1) := getB' kX12_waits_2 3 rfl
theorem dX12_waits_46 : decode cX12_waits 46 = .ok (.aload_n 0, 1) := getB' kX12_waits_2 4 rfl
theorem dX12_waits_47 : decode cX12_waits 47 = .ok (.getfield 229, 3) := getB' kX12_waits_2 5 rfl
theorem dX12_waits_50 : decode cX12_waits 50 = .ok (.iload_n 1, 1) := getB' kX12_waits_2 6 rfl
theorem dX12_waits_51 : decode cX12_waits 51 = .ok (.iaload, 1) := getB' kX12_waits_2 7 rfl
theorem dX12_waits_52 : decode cX12_waits 52 = .ok (.iconst 1, 1) := getB' kX12_waits_2 8 rfl
theorem dX12_waits_53 : decode cX12_waits 53 = .ok (.iadd, 1) := getB' kX12_waits_2 9 rfl
theorem dX12_waits_54 : decode cX12_waits 54 = .ok (.iastore, 1) := getB' kX12_waits_2 10 rfl
theorem dX12_waits_55 : decode cX12_waits 55 = .ok (.aload_n 0, 1) := getB' kX12_waits_2 11 rfl
def LX12_waits_3 : List (Nat × Instr × Nat) := [(56, .getfield 229, 3), (59, .iload_n 1, 1), (60, .iaload, 1), (61, .bipush 60, 2), (63, .if_icmp .ne 8, 3), (66, .aload_n 0, 1), (67, .iload_n 1, 1), (68, .invokevirtual 624, 3), (71, .return_, 1)]
theorem kX12_waits_3 : chkB cX12_waits LX12_waits_3 = true := by decide +kernel
theorem dX12_waits_56 : decode cX12_waits 56 = .ok (.getfield 229, 3) := getB' kX12_waits_3 0 rfl
theorem dX12_waits_59 : decode cX12_waits 59 = .ok (.iload_n 1, 1) := getB' kX12_waits_3 1 rfl
theorem dX12_waits_60 : decode cX12_waits 60 = .ok (.iaload, 1) := getB' kX12_waits_3 2 rfl
theorem dX12_waits_61 : decode cX12_waits 61 = .ok (.bipush 60, 2) := getB' kX12_waits_3 3 rfl
theorem dX12_waits_63 : decode cX12_waits 63 = .ok (.if_icmp .ne 8, 3) := getB' kX12_waits_3 4 rfl
theorem dX12_waits_66 : decode cX12_waits 66 = .ok (.aload_n 0, 1) := getB' kX12_waits_3 5 rfl
theorem dX12_waits_67 : decode cX12_waits 67 = .ok (.iload_n 1, 1) := getB' kX12_waits_3 6 rfl
theorem dX12_waits_68 : decode cX12_waits 68 = .ok (.invokevirtual 624, 3) := getB' kX12_waits_3 7 rfl
theorem dX12_waits_71 : decode cX12_waits 71 = .ok (.return_, 1) := getB' kX12_waits_3 8 rfl
def LX12_shipGoes_0 : List (Nat × Instr × Nat) := [(0, .aload_n 0, 1), (1, .getfield 217, 3), (4, .iload_n 1, 1), (5, .iaload, 1), (6, .iconst 1, 1), (7, .if_icmp .ne 30, 3), (10, .aload_n 0, 1), (11, .getfield 396, 3), (14, .aload_n 0, 1), (15, .getfield 226, 3), (18, .iload_n 1, 1), (19, .iaload, 1)]
theorem kX12_shipGoes_0 : chkB cX12_shipGoes LX12_shipGoes_0 = true := by decide +kernel
theorem dX12_shipGoes_0 : decode cX12_shipGoes 0 = .ok (.aload_n 0, 1) := getB' kX12_shipGoes_0 0 rfl
theorem dX12_shipGoes_1 : decode cX12_shipGoes 1 = .ok (.getfield 217, 3) := getB' kX12_shipGoes_0 1 rfl
theorem dX12_shipGoes_4 : decode cX12_shipGoes 4 = .ok (.iload_n 1, 1) := getB' kX12_shipGoes_0 2 rfl
theorem dX12_shipGoes_5 : decode cX12_shipGoes 5 = .ok (.iaload, 1) := getB' kX12_shipGoes_0 3 rfl
theorem dX12_shipGoes_6 : decode cX12_shipGoes 6 = .ok (.iconst 1, 1) := getB' kX12_shipGoes_0 4 rfl
theorem dX12_shipGoes_7 : decode cX12_shipGoes 7 = .ok (.if_icmp .ne 30, 3) := getB' kX12_shipGoes_0 5 rfl
theorem dX12_shipGoes_10 : decode cX12_shipGoes 10 = .ok (.aload_n 0, 1) := getB' kX12_shipGoes_0 6 rfl
theorem dX12_shipGoes_11 : decode cX12_shipGoes 11 = .ok (.getfield 396, 3) := getB' kX12_shipGoes_0 7 rfl
theorem dX12_shipGoes_14 : decode cX12_shipGoes 14 = .ok (.aload_n 0, 1) := getB' kX12_shipGoes_0 8 rfl
theorem dX12_shipGoes_15 : decode cX12_shipGoes 15 = .ok (.getfield 226, 3) := getB' kX12_shipGoes_0 9 rfl
theorem dX12_shipGoes_18 : decode cX12_shipGoes 18 = .ok (.iload_n 1, 1) := getB' kX12_shipGoes_0 10 rfl
theorem dX12_shipGoes_19 : decode cX12_shipGoes 19 = .ok (.iaload, 1) := getB' kX12_shipGoes_0 11 rfl
def LX12_shipGoes_1 : List (Nat × Instr × Nat) := [(20, .if_icmp .lt 17, 3), (23, .aload_n 0, 1), (24, .getfield 217, 3), (27, .iload_n 1, 1), (28, .iconst 2, 1), (29, .iastore, 1), (30, .aload_n 0, 1), (31, .getfield 226, 3), (34, .iload_n 1, 1), (35, .iconst (-1), 1), (36, .iastore, 1), (37, .aload_n 0, 1)]
theorem kX12_shipGoes_1 : chkB cX12_shipGoes LX12_shipGoes_1 = true := by decide +kernel
theorem dX12_shipGoes_20 : decode cX12_shipGoes 20 = .ok (.if_icmp .lt 17, 3) := getB' kX12_shipGoes_1 0 rfl
theorem dX12_shipGoes_23 : decode cX12_shipGoes 23 = .ok (.aload_n 0, 1) := getB' kX12_shipGoes_1 1 rfl
theorem dX12_shipGoes_24 : decode cX12_shipGoes 24 = .ok (.getfield 217, 3) := getB' kX12_shipGoes_1 2 rfl
theorem dX12_shipGoes_27 : decode cX12_shipGoes 27 = .ok (.iload_n 1, 1) := getB' kX12_shipGoes_1 3 rfl
theorem dX12_shipGoes_28 : decode cX12_shipGoes 28 = .ok (.iconst 2, 1) := getB' kX12_shipGoes_1 4 rfl
theorem dX12_shipGoes_29 : decode cX12_shipGoes 29 = .ok (.iastore, 1) := getB' kX12_shipGoes_1 5 rfl
theorem dX12_shipGoes_30 : decode cX12_shipGoes 30 = .ok (.aload_n 0, 1) := getB' kX12_shipGoes_1 6 rfl
theorem dX12_shipGoes_31 : decode cX12_shipGoes 31 = .ok (.getfield 226, 3) := getB' kX12_shipGoes_1 7 rfl
theorem dX12_shipGoes_34 : decode cX12_shipGoes 34 = .ok (.iload_n 1, 1) := getB' kX12_shipGoes_1 8 rfl
theorem dX12_shipGoes_35 : decode cX12_shipGoes 35 = .ok (.iconst (-1), 1) := getB' kX12_shipGoes_1 9 rfl
theorem dX12_shipGoes_36 : decode cX12_shipGoes 36 = .ok (.iastore, 1) := getB' kX12_shipGoes_1 10 rfl
theorem dX12_shipGoes_37 : decode cX12_shipGoes 37 = .ok (.aload_n 0, 1) := getB' kX12_shipGoes_1 11 rfl
def LX12_shipGoes_2 : List (Nat × Instr × Nat) := [(38, .getfield 217, 3), (41, .iload_n 1, 1), (42, .iaload, 1), (43, .iconst 2, 1), (44, .if_icmp .ne 9, 3), (47, .aload_n 0, 1), (48, .iload_n 1, 1), (49, .invokevirtual 630, 3), (52, .return_, 1), (53, .aload_n 0, 1), (54, .getfield 217, 3), (57, .iload_n 1, 1)]
theorem kX12_shipGoes_2 : chkB cX12_shipGoes LX12_shipGoes_2 = true := by decide +kernel
theorem dX12_shipGoes_38 : decode cX12_shipGoes 38 = .ok (.getfield 217, 3) := getB' kX12_shipGoes_2 0 rfl
theorem dX12_shipGoes_41 : decode cX12_shipGoes 41 = .ok (.iload_n 1, 1) := getB' kX12_shipGoes_2 1 rfl
theorem dX12_shipGoes_42 : decode cX12_shipGoes 42 = .ok (.iaload, 1) := getB' kX12_shipGoes_2 2 rfl
theorem dX12_shipGoes_43 : decode cX12_shipGoes 43 = .ok (.iconst 2, 1) := getB' kX12_shipGoes_2 3 rfl
theorem dX12_shipGoes_44 : decode cX12_shipGoes 44 = .ok (.if_icmp .ne 9, 3) := getB' kX12_shipGoes_2 4 rfl
theorem dX12_shipGoes_47 : decode cX12_shipGoes 47 = .ok (.aload_n 0, 1) := getB' kX12_shipGoes_2 5 rfl
theorem dX12_shipGoes_48 : decode cX12_shipGoes 48 = .ok (.iload_n 1, 1) := getB' kX12_shipGoes_2 6 rfl
theorem dX12_shipGoes_49 : decode cX12_shipGoes 49 = .ok (.invokevirtual 630, 3) := getB' kX12_shipGoes_2 7 rfl
theorem dX12_shipGoes_52 : decode cX12_shipGoes 52 = .ok (.return_, 1) := getB' kX12_shipGoes_2 8 rfl
theorem dX12_shipGoes_53 : decode cX12_shipGoes 53 = .ok (.aload_n 0, 1) := getB' kX12_shipGoes_2 9 rfl
theorem dX12_shipGoes_54 : decode cX12_shipGoes 54 = .ok (.getfield 217, 3) := getB' kX12_shipGoes_2 10 rfl
theorem dX12_shipGoes_57 : decode cX12_shipGoes 57 = .ok (.iload_n 1, 1) := getB' kX12_shipGoes_2 11 rfl
def LX12_shipGoes_3 : List (Nat × Instr × Nat) := [(58, .iaload, 1), (59, .iconst 3, 1), (60, .if_icmp .ne 16, 3), (63, .aload_n 0, 1), (64, .getfield 396, 3), (67, .aload_n 0, 1), (68, .getfield 226, 3), (71, .iload_n 1, 1), (72, .iaload, 1), (73, .if_icmp .ge 4, 3), (76, .return_, 1), (77, .aload_n 0, 1)]
theorem kX12_shipGoes_3 : chkB cX12_shipGoes LX12_shipGoes_3 = true := by decide +kernel
theorem dX12_shipGoes_58 : decode cX12_shipGoes 58 = .ok (.iaload, 1) := getB' kX12_shipGoes_3 0 rfl
theorem dX12_shipGoes_59 : decode cX12_shipGoes 59 = .ok (.iconst 3, 1) := getB' kX12_shipGoes_3 1 rfl
theorem dX12_shipGoes_60 : decode cX12_shipGoes 60 = .ok (.if_icmp .ne 16, 3) := getB' kX12_shipGoes_3 2 rfl
theorem dX12_shipGoes_63 : decode cX12_shipGoes 63 = .ok (.aload_n 0, 1) := getB' kX12_shipGoes_3 3 rfl
theorem dX12_shipGoes_64 : decode cX12_shipGoes 64 = .ok (.getfield 396, 3) := getB' kX12_shipGoes_3 4 rfl
theorem dX12_shipGoes_67 : decode cX12_shipGoes 67 = .ok (.aload_n 0, 1) := getB' kX12_shipGoes_3 5 rfl
theorem dX12_shipGoes_68 : decode cX12_shipGoes 68 = .ok (.getfield 226, 3) := getB' kX12_shipGoes_3 6 rfl
theorem dX12_shipGoes_71 : decode cX12_shipGoes 71 = .ok (.iload_n 1, 1) := getB' kX12_shipGoes_3 7 rfl
theorem dX12_shipGoes_72 : decode cX12_shipGoes 72 = .ok (.iaload, 1) := getB' kX12_shipGoes_3 8 rfl
theorem dX12_shipGoes_73 : decode cX12_shipGoes 73 = .ok (.if_icmp .ge 4, 3) := getB' kX12_shipGoes_3 9 rfl
theorem dX12_shipGoes_76 : decode cX12_shipGoes 76 = .ok (.return_, 1) := getB' kX12_shipGoes_3 10 rfl
theorem dX12_shipGoes_77 : decode cX12_shipGoes 77 = .ok (.aload_n 0, 1) := getB' kX12_shipGoes_3 11 rfl
def LX12_shipGoes_4 : List (Nat × Instr × Nat) := [(78, .aload_n 0, 1), (79, .getfield 632, 3), (82, .aload_n 0, 1), (83, .getfield 220, 3), (86, .iload_n 1, 1), (87, .iaload, 1), (88, .i2l, 1), (89, .ladd, 1), (90, .putfield 632, 3), (93, .aload_n 0, 1), (94, .aload_n 0, 1), (95, .getfield 635, 3)]
theorem kX12_shipGoes_4 : chkB cX12_shipGoes LX12_shipGoes_4 = true := by decide +kernel
theorem dX12_shipGoes_78 : decode cX12_shipGoes 78 = .ok (.aload_n 0, 1) := getB' kX12_shipGoes_4 0 rfl
theorem dX12_shipGoes_79 : decode cX12_shipGoes 79 = .ok (.getfield 632, 3) := getB' kX12_shipGoes_4 1 rfl
theorem dX12_shipGoes_82 : decode cX12_shipGoes 82 = .ok (.aload_n 0, 1) := getB' kX12_shipGoes_4 2 rfl
theorem dX12_shipGoes_83 : decode cX12_shipGoes 83 = .ok (.getfield 220, 3) := getB' kX12_shipGoes_4 3 rfl
theorem dX12_shipGoes_86 : decode cX12_shipGoes 86 = .ok (.iload_n 1, 1) := getB' kX12_shipGoes_4 4 rfl
theorem dX12_shipGoes_87 : decode cX12_shipGoes 87 = .ok (.iaload, 1) := getB' kX12_shipGoes_4 5 rfl
theorem dX12_shipGoes_88 : decode cX12_shipGoes 88 = .ok (.i2l, 1) := getB' kX12_shipGoes_4 6 rfl
theorem dX12_shipGoes_89 : decode cX12_shipGoes 89 = .ok (.ladd, 1) := getB' kX12_shipGoes_4 7 rfl
theorem dX12_shipGoes_90 : decode cX12_shipGoes 90 = .ok (.putfield 632, 3) := getB' kX12_shipGoes_4 8 rfl
theorem dX12_shipGoes_93 : decode cX12_shipGoes 93 = .ok (.aload_n 0, 1) := getB' kX12_shipGoes_4 9 rfl
theorem dX12_shipGoes_94 : decode cX12_shipGoes 94 = .ok (.aload_n 0, 1) := getB' kX12_shipGoes_4 10 rfl
theorem dX12_shipGoes_95 : decode cX12_shipGoes 95 = .ok (.getfield 635, 3) := getB' kX12_shipGoes_4 11 rfl
def LX12_shipGoes_5 : List (Nat × Instr × Nat) := [(98, .aload_n 0, 1), (99, .getfield 223, 3), (102, .iload_n 1, 1), (103, .iaload, 1), (104, .i2l, 1), (105, .ladd, 1), (106, .putfield 635, 3), (109, .aload_n 0, 1), (110, .getfield 220, 3), (113, .iload_n 1, 1), (114, .iconst 0, 1), (115, .iastore, 1)]
theorem kX12_shipGoes_5 : chkB cX12_shipGoes LX12_shipGoes_5 = true := by decide +kernel
theorem dX12_shipGoes_98 : decode cX12_shipGoes 98 = .ok (.aload_n 0, 1) := getB' kX12_shipGoes_5 0 rfl
theorem dX12_shipGoes_99 : decode cX12_shipGoes 99 = .ok (.getfield 223, 3) := getB' kX12_shipGoes_5 1 rfl
theorem dX12_shipGoes_102 : decode cX12_shipGoes 102 = .ok (.iload_n 1, 1) := getB' kX12_shipGoes_5 2 rfl
theorem dX12_shipGoes_103 : decode cX12_shipGoes 103 = .ok (.iaload, 1) := getB' kX12_shipGoes_5 3 rfl
theorem dX12_shipGoes_104 : decode cX12_shipGoes 104 = .ok (.i2l, 1) := getB' kX12_shipGoes_5 4 rfl
theorem dX12_shipGoes_105 : decode cX12_shipGoes 105 = .ok (.ladd, 1) := getB' kX12_shipGoes_5 5 rfl
theorem dX12_shipGoes_106 : decode cX12_shipGoes 106 = .ok (.putfield 635, 3) := getB' kX12_shipGoes_5 6 rfl
theorem dX12_shipGoes_109 : decode cX12_shipGoes 109 = .ok (.aload_n 0, 1) := getB' kX12_shipGoes_5 7 rfl
theorem dX12_shipGoes_110 : decode cX12_shipGoes 110 = .ok (.getfield 220, 3) := getB' kX12_shipGoes_5 8 rfl
theorem dX12_shipGoes_113 : decode cX12_shipGoes 113 = .ok (.iload_n 1, 1) := getB' kX12_shipGoes_5 9 rfl
theorem dX12_shipGoes_114 : decode cX12_shipGoes 114 = .ok (.iconst 0, 1) := getB' kX12_shipGoes_5 10 rfl
theorem dX12_shipGoes_115 : decode cX12_shipGoes 115 = .ok (.iastore, 1) := getB' kX12_shipGoes_5 11 rfl
def LX12_shipGoes_6 : List (Nat × Instr × Nat) := [(116, .aload_n 0, 1), (117, .getfield 223, 3), (120, .iload_n 1, 1), (121, .iconst 0, 1), (122, .iastore, 1), (123, .aload_n 0, 1), (124, .getfield 217, 3), (127, .iload_n 1, 1), (128, .iconst 0, 1), (129, .iastore, 1), (130, .aload_n 0, 1), (131, .getfield 226, 3)]
theorem kX12_shipGoes_6 : chkB cX12_shipGoes LX12_shipGoes_6 = true := by decide +kernel
theorem dX12_shipGoes_116 : decode cX12_shipGoes 116 = .ok (.aload_n 0, 1) := getB' kX12_shipGoes_6 0 rfl
theorem dX12_shipGoes_117 : decode cX12_shipGoes 117 = .ok (.getfield 223, 3) := getB' kX12_shipGoes_6 1 rfl
theorem dX12_shipGoes_120 : decode cX12_shipGoes 120 = .ok (.iload_n 1, 1) := getB' kX12_shipGoes_6 2 rfl
theorem dX12_shipGoes_121 : decode cX12_shipGoes 121 = .ok (.iconst 0, 1) := getB' kX12_shipGoes_6 3 rfl
theorem dX12_shipGoes_122 : decode cX12_shipGoes 122 = .ok (.iastore, 1) := getB' kX12_shipGoes_6 4 rfl
theorem dX12_shipGoes_123 : decode cX12_shipGoes 123 = .ok (.aload_n 0, 1) := getB' kX12_shipGoes_6 5 rfl
theorem dX12_shipGoes_124 : decode cX12_shipGoes 124 = .ok (.getfield 217, 3) := getB' kX12_shipGoes_6 6 rfl
theorem dX12_shipGoes_127 : decode cX12_shipGoes 127 = .ok (.iload_n 1, 1) := getB' kX12_shipGoes_6 7 rfl
theorem dX12_shipGoes_128 : decode cX12_shipGoes 128 = .ok (.iconst 0, 1) := getB' kX12_shipGoes_6 8 rfl
theorem dX12_shipGoes_129 : decode cX12_shipGoes 129 = .ok (.iastore, 1) := getB' kX12_shipGoes_6 9 rfl
theorem dX12_shipGoes_130 : decode cX12_shipGoes 130 = .ok (.aload_n 0, 1) := getB' kX12_shipGoes_6 10 rfl
theorem dX12_shipGoes_131 : decode cX12_shipGoes 131 = .ok (.getfield 226, 3) := getB' kX12_shipGoes_6 11 rfl
def LX12_shipGoes_7 : List (Nat × Instr × Nat) := [(134, .iload_n 1, 1), (135, .iconst (-1), 1), (136, .iastore, 1), (137, .return_, 1)]
theorem kX12_shipGoes_7 : chkB cX12_shipGoes LX12_shipGoes_7 = true := by decide +kernel
theorem dX12_shipGoes_134 : decode cX12_shipGoes 134 = .ok (.iload_n 1, 1) := getB' kX12_shipGoes_7 0 rfl
theorem dX12_shipGoes_135 : decode cX12_shipGoes 135 = .ok (.iconst (-1), 1) := getB' kX12_shipGoes_7 1 rfl
theorem dX12_shipGoes_136 : decode cX12_shipGoes 136 = .ok (.iastore, 1) := getB' kX12_shipGoes_7 2 rfl
theorem dX12_shipGoes_137 : decode cX12_shipGoes 137 = .ok (.return_, 1) := getB' kX12_shipGoes_7 3 rfl
def LX12_goesOver_0 : List (Nat × Instr × Nat) := [(0, .iconst 0, 1), (1, .istore_n 2, 1), (2, .iload_n 2, 1), (3, .aload_n 0, 1), (4, .getfield 365, 3), (7, .aload_n 0, 1), (8, .getfield 368, 3), (11, .imul, 1), (12, .if_icmp .ge 27, 3), (15, .aload_n 0, 1), (16, .getfield 277, 3), (19, .iload_n 2, 1)]
theorem kX12_goesOver_0 : chkB cX12_goesOver LX12_goesOver_0 = true := by decide +kernel
theorem dX12_goesOver_0 : decode cX12_goesOver 0 = .ok (.iconst 0, 1) := getB' kX12_goesOver_0 0 rfl
theorem dX12_goesOver_1 : decode cX12_goesOver 1 = .ok (.istore_n 2, 1) := getB' kX12_goesOver_0 1 rfl
theorem dX12_goesOver_2 : decode cX12_goesOver 2 = .ok (.iload_n 2, 1) := getB' kX12_goesOver_0 2 rfl
theorem dX12_goesOver_3 : decode cX12_goesOver 3 = .ok (.aload_n 0, 1) := getB' kX12_goesOver_0 3 rfl
theorem dX12_goesOver_4 : decode cX12_goesOver 4 = .ok (.getfield 365, 3) := getB' kX12_goesOver_0 4 rfl
theorem dX12_goesOver_7 : decode cX12_goesOver 7 = .ok (.aload_n 0, 1) := getB' kX12_goesOver_0 5 rfl
theorem dX12_goesOver_8 : decode cX12_goesOver 8 = .ok (.getfield 368, 3) := getB' kX12_goesOver_0 6 rfl
theorem dX12_goesOver_11 : decode cX12_goesOver 11 = .ok (.imul, 1) := getB' kX12_goesOver_0 7 rfl
theorem dX12_goesOver_12 : decode cX12_goesOver 12 = .ok (.if_icmp .ge 27, 3) := getB' kX12_goesOver_0 8 rfl
theorem dX12_goesOver_15 : decode cX12_goesOver 15 = .ok (.aload_n 0, 1) := getB' kX12_goesOver_0 9 rfl
theorem dX12_goesOver_16 : decode cX12_goesOver 16 = .ok (.getfield 277, 3) := getB' kX12_goesOver_0 10 rfl
theorem dX12_goesOver_19 : decode cX12_goesOver 19 = .ok (.iload_n 2, 1) := getB' kX12_goesOver_0 11 rfl
def LX12_goesOver_1 : List (Nat × Instr × Nat) := [(20, .iload_n 2, 1), (21, .iload_n 1, 1), (22, .if_icmp .ne 7, 3), (25, .iconst 0, 1), (26, .goto 6, 3), (29, .ldc_w 638, 3), (32, .iastore, 1), (33, .iinc 2 1, 3), (36, .goto (-34), 3), (39, .iconst 1, 1), (40, .istore_n 2, 1), (41, .iload_n 2, 1)]
theorem kX12_goesOver_1 : chkB cX12_goesOver LX12_goesOver_1 = true := by decide +kernel
theorem dX12_goesOver_20 : decode cX12_goesOver 20 = .ok (.iload_n 2, 1) := getB' kX12_goesOver_1 0 rfl
theorem dX12_goesOver_21 : decode cX12_goesOver 21 = .ok (.iload_n 1, 1) := getB' kX12_goesOver_1 1 rfl
theorem dX12_goesOver_22 : decode cX12_goesOver 22 = .ok (.if_icmp .ne 7, 3) := getB' kX12_goesOver_1 2 rfl
theorem dX12_goesOver_25 : decode cX12_goesOver 25 = .ok (.iconst 0, 1) := getB' kX12_goesOver_1 3 rfl
theorem dX12_goesOver_26 : decode cX12_goesOver 26 = .ok (.goto 6, 3) := getB' kX12_goesOver_1 4 rfl
theorem dX12_goesOver_29 : decode cX12_goesOver 29 = .ok (.ldc_w 638, 3) := getB' kX12_goesOver_1 5 rfl
theorem dX12_goesOver_32 : decode cX12_goesOver 32 = .ok (.iastore, 1) := getB' kX12_goesOver_1 6 rfl
theorem dX12_goesOver_33 : decode cX12_goesOver 33 = .ok (.iinc 2 1, 3) := getB' kX12_goesOver_1 7 rfl
theorem dX12_goesOver_36 : decode cX12_goesOver 36 = .ok (.goto (-34), 3) := getB' kX12_goesOver_1 8 rfl
theorem dX12_goesOver_39 : decode cX12_goesOver 39 = .ok (.iconst 1, 1) := getB' kX12_goesOver_1 9 rfl
theorem dX12_goesOver_40 : decode cX12_goesOver 40 = .ok (.istore_n 2, 1) := getB' kX12_goesOver_1 10 rfl
theorem dX12_goesOver_41 : decode cX12_goesOver 41 = .ok (.iload_n 2, 1) := getB' kX12_goesOver_1 11 rfl
def LX12_goesOver_2 : List (Nat × Instr × Nat) := [(42, .ifCond .eq 146, 3), (45, .iconst 0, 1), (46, .istore_n 2, 1), (47, .iconst 0, 1), (48, .istore_n 3, 1), (49, .iload_n 3, 1), (50, .aload_n 0, 1), (51, .getfield 365, 3), (54, .aload_n 0, 1), (55, .getfield 368, 3), (58, .imul, 1), (59, .if_icmp .ge 126, 3)]
theorem kX12_goesOver_2 : chkB cX12_goesOver LX12_goesOver_2 = true := by decide +kernel
theorem dX12_goesOver_42 : decode cX12_goesOver 42 = .ok (.ifCond .eq 146, 3) := getB' kX12_goesOver_2 0 rfl
theorem dX12_goesOver_45 : decode cX12_goesOver 45 = .ok (.iconst 0, 1) := getB' kX12_goesOver_2 1 rfl
theorem dX12_goesOver_46 : decode cX12_goesOver 46 = .ok (.istore_n 2, 1) := getB' kX12_goesOver_2 2 rfl
theorem dX12_goesOver_47 : decode cX12_goesOver 47 = .ok (.iconst 0, 1) := getB' kX12_goesOver_2 3 rfl
theorem dX12_goesOver_48 : decode cX12_goesOver 48 = .ok (.istore_n 3, 1) := getB' kX12_goesOver_2 4 rfl
theorem dX12_goesOver_49 : decode cX12_goesOver 49 = .ok (.iload_n 3, 1) := getB' kX12_goesOver_2 5 rfl
theorem dX12_goesOver_50 : decode cX12_goesOver 50 = .ok (.aload_n 0, 1) := getB' kX12_goesOver_2 6 rfl
theorem dX12_goesOver_51 : decode cX12_goesOver 51 = .ok (.getfield 365, 3) := getB' kX12_goesOver_2 7 rfl
theorem dX12_goesOver_54 : decode cX12_goesOver 54 = .ok (.aload_n 0, 1) := getB' kX12_goesOver_2 8 rfl
theorem dX12_goesOver_55 : decode cX12_goesOver 55 = .ok (.getfield 368, 3) := getB' kX12_goesOver_2 9 rfl
theorem dX12_goesOver_58 : decode cX12_goesOver 58 = .ok (.imul, 1) := getB' kX12_goesOver_2 10 rfl
theorem dX12_goesOver_59 : decode cX12_goesOver 59 = .ok (.if_icmp .ge 126, 3) := getB' kX12_goesOver_2 11 rfl
def LX12_goesOver_3 : List (Nat × Instr × Nat) := [(62, .iconst 0, 1), (63, .istore 4, 2), (65, .iload 4, 2), (67, .bipush 8, 2), (69, .if_icmp .ge 110, 3), (72, .aload_n 0, 1), (73, .getfield 277, 3), (76, .iload_n 3, 1), (77, .iaload, 1), (78, .ldc_w 638, 3), (81, .if_icmp .ge 98, 3), (84, .aload_n 0, 1)]
theorem kX12_goesOver_3 : chkB cX12_goesOver LX12_goesOver_3 = true := by decide +kernel
theorem dX12_goesOver_62 : decode cX12_goesOver 62 = .ok (.iconst 0, 1) := getB' kX12_goesOver_3 0 rfl
theorem dX12_goesOver_63 : decode cX12_goesOver 63 = .ok (.istore 4, 2) := getB' kX12_goesOver_3 1 rfl
theorem dX12_goesOver_65 : decode cX12_goesOver 65 = .ok (.iload 4, 2) := getB' kX12_goesOver_3 2 rfl
theorem dX12_goesOver_67 : decode cX12_goesOver 67 = .ok (.bipush 8, 2) := getB' kX12_goesOver_3 3 rfl
theorem dX12_goesOver_69 : decode cX12_goesOver 69 = .ok (.if_icmp .ge 110, 3) := getB' kX12_goesOver_3 4 rfl
theorem dX12_goesOver_72 : decode cX12_goesOver 72 = .ok (.aload_n 0, 1) := getB' kX12_goesOver_3 5 rfl
theorem dX12_goesOver_73 : decode cX12_goesOver 73 = .ok (.getfield 277, 3) := getB' kX12_goesOver_3 6 rfl
theorem dX12_goesOver_76 : decode cX12_goesOver 76 = .ok (.iload_n 3, 1) := getB' kX12_goesOver_3 7 rfl
theorem dX12_goesOver_77 : decode cX12_goesOver 77 = .ok (.iaload, 1) := getB' kX12_goesOver_3 8 rfl
theorem dX12_goesOver_78 : decode cX12_goesOver 78 = .ok (.ldc_w 638, 3) := getB' kX12_goesOver_3 9 rfl
theorem dX12_goesOver_81 : decode cX12_goesOver 81 = .ok (.if_icmp .ge 98, 3) := getB' kX12_goesOver_3 10 rfl
theorem dX12_goesOver_84 : decode cX12_goesOver 84 = .ok (.aload_n 0, 1) := getB' kX12_goesOver_3 11 rfl
def LX12_goesOver_4 : List (Nat × Instr × Nat) := [(85, .iload_n 3, 1), (86, .iload 4, 2), (88, .invokestatic 639, 3), (91, .iload 4, 2), (93, .invokestatic 642, 3), (96, .invokevirtual 645, 3), (99, .istore 5, 2), (101, .iload 5, 2), (103, .iconst (-1), 1), (104, .if_icmp .eq 69, 3), (107, .aload_n 0, 1), (108, .iload 5, 2)]
theorem kX12_goesOver_4 : chkB cX12_goesOver LX12_goesOver_4 = true := by decide +kernel
theorem dX12_goesOver_85 : decode cX12_goesOver 85 = .ok (.iload_n 3, 1) := getB' kX12_goesOver_4 0 rfl
theorem dX12_goesOver_86 : decode cX12_goesOver 86 = .ok (.iload 4, 2) := getB' kX12_goesOver_4 1 rfl
theorem dX12_goesOver_88 : decode cX12_goesOver 88 = .ok (.invokestatic 639, 3) := getB' kX12_goesOver_4 2 rfl
theorem dX12_goesOver_91 : decode cX12_goesOver 91 = .ok (.iload 4, 2) := getB' kX12_goesOver_4 3 rfl
theorem dX12_goesOver_93 : decode cX12_goesOver 93 = .ok (.invokestatic 642, 3) := getB' kX12_goesOver_4 4 rfl
theorem dX12_goesOver_96 : decode cX12_goesOver 96 = .ok (.invokevirtual 645, 3) := getB' kX12_goesOver_4 5 rfl
theorem dX12_goesOver_99 : decode cX12_goesOver 99 = .ok (.istore 5, 2) := getB' kX12_goesOver_4 6 rfl
theorem dX12_goesOver_101 : decode cX12_goesOver 101 = .ok (.iload 5, 2) := getB' kX12_goesOver_4 7 rfl
theorem dX12_goesOver_103 : decode cX12_goesOver 103 = .ok (.iconst (-1), 1) := getB' kX12_goesOver_4 8 rfl
theorem dX12_goesOver_104 : decode cX12_goesOver 104 = .ok (.if_icmp .eq 69, 3) := getB' kX12_goesOver_4 9 rfl
theorem dX12_goesOver_107 : decode cX12_goesOver 107 = .ok (.aload_n 0, 1) := getB' kX12_goesOver_4 10 rfl
theorem dX12_goesOver_108 : decode cX12_goesOver 108 = .ok (.iload 5, 2) := getB' kX12_goesOver_4 11 rfl
def LX12_goesOver_5 : List (Nat × Instr × Nat) := [(110, .invokevirtual 425, 3), (113, .ifCond .ne 6, 3), (116, .goto 57, 3), (119, .aload_n 0, 1), (120, .getfield 277, 3), (123, .iload_n 3, 1), (124, .iaload, 1), (125, .iconst 1, 1), (126, .iadd, 1), (127, .aload_n 0, 1), (128, .getfield 16, 3), (131, .iload 5, 2)]
theorem kX12_goesOver_5 : chkB cX12_goesOver LX12_goesOver_5 = true := by decide +kernel
theorem dX12_goesOver_110 : decode cX12_goesOver 110 = .ok (.invokevirtual 425, 3) := getB' kX12_goesOver_5 0 rfl
theorem dX12_goesOver_113 : decode cX12_goesOver 113 = .ok (.ifCond .ne 6, 3) := getB' kX12_goesOver_5 1 rfl
theorem dX12_goesOver_116 : decode cX12_goesOver 116 = .ok (.goto 57, 3) := getB' kX12_goesOver_5 2 rfl
theorem dX12_goesOver_119 : decode cX12_goesOver 119 = .ok (.aload_n 0, 1) := getB' kX12_goesOver_5 3 rfl
theorem dX12_goesOver_120 : decode cX12_goesOver 120 = .ok (.getfield 277, 3) := getB' kX12_goesOver_5 4 rfl
theorem dX12_goesOver_123 : decode cX12_goesOver 123 = .ok (.iload_n 3, 1) := getB' kX12_goesOver_5 5 rfl
theorem dX12_goesOver_124 : decode cX12_goesOver 124 = .ok (.iaload, 1) := getB' kX12_goesOver_5 6 rfl
theorem dX12_goesOver_125 : decode cX12_goesOver 125 = .ok (.iconst 1, 1) := getB' kX12_goesOver_5 7 rfl
theorem dX12_goesOver_126 : decode cX12_goesOver 126 = .ok (.iadd, 1) := getB' kX12_goesOver_5 8 rfl
theorem dX12_goesOver_127 : decode cX12_goesOver 127 = .ok (.aload_n 0, 1) := getB' kX12_goesOver_5 9 rfl
theorem dX12_goesOver_128 : decode cX12_goesOver 128 = .ok (.getfield 16, 3) := getB' kX12_goesOver_5 10 rfl
theorem dX12_goesOver_131 : decode cX12_goesOver 131 = .ok (.iload 5, 2) := getB' kX12_goesOver_5 11 rfl
def LX12_goesOver_6 : List (Nat × Instr × Nat) := [(133, .iaload, 1), (134, .aload_n 0, 1), (135, .getfield 16, 3), (138, .iload_n 3, 1), (139, .iaload, 1), (140, .isub, 1), (141, .invokestatic 385, 3), (144, .iadd, 1), (145, .istore 6, 2), (147, .iload 6, 2), (149, .aload_n 0, 1), (150, .getfield 277, 3)]
theorem kX12_goesOver_6 : chkB cX12_goesOver LX12_goesOver_6 = true := by decide +kernel
theorem dX12_goesOver_133 : decode cX12_goesOver 133 = .ok (.iaload, 1) := getB' kX12_goesOver_6 0 rfl
theorem dX12_goesOver_134 : decode cX12_goesOver 134 = .ok (.aload_n 0, 1) := getB' kX12_goesOver_6 1 rfl
theorem dX12_goesOver_135 : decode cX12_goesOver 135 = .ok (.getfield 16, 3) := getB' kX12_goesOver_6 2 rfl
theorem dX12_goesOver_138 : decode cX12_goesOver 138 = .ok (.iload_n 3, 1) := getB' kX12_goesOver_6 3 rfl
theorem dX12_goesOver_139 : decode cX12_goesOver 139 = .ok (.iaload, 1) := getB' kX12_goesOver_6 4 rfl
theorem dX12_goesOver_140 : decode cX12_goesOver 140 = .ok (.isub, 1) := getB' kX12_goesOver_6 5 rfl
theorem dX12_goesOver_141 : decode cX12_goesOver 141 = .ok (.invokestatic 385, 3) := getB' kX12_goesOver_6 6 rfl
theorem dX12_goesOver_144 : decode cX12_goesOver 144 = .ok (.iadd, 1) := getB' kX12_goesOver_6 7 rfl
theorem dX12_goesOver_145 : decode cX12_goesOver 145 = .ok (.istore 6, 2) := getB' kX12_goesOver_6 8 rfl
theorem dX12_goesOver_147 : decode cX12_goesOver 147 = .ok (.iload 6, 2) := getB' kX12_goesOver_6 9 rfl
theorem dX12_goesOver_149 : decode cX12_goesOver 149 = .ok (.aload_n 0, 1) := getB' kX12_goesOver_6 10 rfl
theorem dX12_goesOver_150 : decode cX12_goesOver 150 = .ok (.getfield 277, 3) := getB' kX12_goesOver_6 11 rfl
def LX12_goesOver_7 : List (Nat × Instr × Nat) := [(153, .iload 5, 2), (155, .iaload, 1), (156, .if_icmp .lt 6, 3), (159, .goto 14, 3), (162, .aload_n 0, 1), (163, .getfield 277, 3), (166, .iload 5, 2), (168, .iload 6, 2), (170, .iastore, 1), (171, .iconst 1, 1), (172, .istore_n 2, 1), (173, .iinc 4 1, 3)]
theorem kX12_goesOver_7 : chkB cX12_goesOver LX12_goesOver_7 = true := by decide +kernel
theorem dX12_goesOver_153 : decode cX12_goesOver 153 = .ok (.iload 5, 2) := getB' kX12_goesOver_7 0 rfl
theorem dX12_goesOver_155 : decode cX12_goesOver 155 = .ok (.iaload, 1) := getB' kX12_goesOver_7 1 rfl
theorem dX12_goesOver_156 : decode cX12_goesOver 156 = .ok (.if_icmp .lt 6, 3) := getB' kX12_goesOver_7 2 rfl
theorem dX12_goesOver_159 : decode cX12_goesOver 159 = .ok (.goto 14, 3) := getB' kX12_goesOver_7 3 rfl
theorem dX12_goesOver_162 : decode cX12_goesOver 162 = .ok (.aload_n 0, 1) := getB' kX12_goesOver_7 4 rfl
theorem dX12_goesOver_163 : decode cX12_goesOver 163 = .ok (.getfield 277, 3) := getB' kX12_goesOver_7 5 rfl
theorem dX12_goesOver_166 : decode cX12_goesOver 166 = .ok (.iload 5, 2) := getB' kX12_goesOver_7 6 rfl
theorem dX12_goesOver_168 : decode cX12_goesOver 168 = .ok (.iload 6, 2) := getB' kX12_goesOver_7 7 rfl
theorem dX12_goesOver_170 : decode cX12_goesOver 170 = .ok (.iastore, 1) := getB' kX12_goesOver_7 8 rfl
theorem dX12_goesOver_171 : decode cX12_goesOver 171 = .ok (.iconst 1, 1) := getB' kX12_goesOver_7 9 rfl
theorem dX12_goesOver_172 : decode cX12_goesOver 172 = .ok (.istore_n 2, 1) := getB' kX12_goesOver_7 10 rfl
theorem dX12_goesOver_173 : decode cX12_goesOver 173 = .ok (.iinc 4 1, 3) := getB' kX12_goesOver_7 11 rfl
def LX12_goesOver_8 : List (Nat × Instr × Nat) := [(176, .goto (-111), 3), (179, .iinc 3 1, 3), (182, .goto (-133), 3), (185, .goto (-144), 3), (188, .return_, 1)]
theorem kX12_goesOver_8 : chkB cX12_goesOver LX12_goesOver_8 = true := by decide +kernel
theorem dX12_goesOver_176 : decode cX12_goesOver 176 = .ok (.goto (-111), 3) := getB' kX12_goesOver_8 0 rfl
theorem dX12_goesOver_179 : decode cX12_goesOver 179 = .ok (.iinc 3 1, 3) := getB' kX12_goesOver_8 1 rfl
theorem dX12_goesOver_182 : decode cX12_goesOver 182 = .ok (.goto (-133), 3) := getB' kX12_goesOver_8 2 rfl
theorem dX12_goesOver_185 : decode cX12_goesOver 185 = .ok (.goto (-144), 3) := getB' kX12_goesOver_8 3 rfl
theorem dX12_goesOver_188 : decode cX12_goesOver 188 = .ok (.return_, 1) := getB' kX12_goesOver_8 4 rfl
def LX12_sledge_0 : List (Nat × Instr × Nat) := [(0, .aload_n 0, 1), (1, .iload_n 1, 1), (2, .invokevirtual 433, 3), (5, .ifCond .eq 61, 3), (8, .aload_n 0, 1), (9, .iload_n 2, 1), (10, .invokevirtual 433, 3), (13, .ifCond .eq 53, 3), (16, .iload_n 1, 1), (17, .iload_n 2, 1), (18, .if_icmp .eq 48, 3), (21, .aload_n 0, 1)]
theorem kX12_sledge_0 : chkB cX12_sledge LX12_sledge_0 = true := by decide +kernel
theorem dX12_sledge_0 : decode cX12_sledge 0 = .ok (.aload_n 0, 1) := getB' kX12_sledge_0 0 rfl
theorem dX12_sledge_1 : decode cX12_sledge 1 = .ok (.iload_n 1, 1) := getB' kX12_sledge_0 1 rfl
theorem dX12_sledge_2 : decode cX12_sledge 2 = .ok (.invokevirtual 433, 3) := getB' kX12_sledge_0 2 rfl
theorem dX12_sledge_5 : decode cX12_sledge 5 = .ok (.ifCond .eq 61, 3) := getB' kX12_sledge_0 3 rfl
theorem dX12_sledge_8 : decode cX12_sledge 8 = .ok (.aload_n 0, 1) := getB' kX12_sledge_0 4 rfl
theorem dX12_sledge_9 : decode cX12_sledge 9 = .ok (.iload_n 2, 1) := getB' kX12_sledge_0 5 rfl
theorem dX12_sledge_10 : decode cX12_sledge 10 = .ok (.invokevirtual 433, 3) := getB' kX12_sledge_0 6 rfl
theorem dX12_sledge_13 : decode cX12_sledge 13 = .ok (.ifCond .eq 53, 3) := getB' kX12_sledge_0 7 rfl
theorem dX12_sledge_16 : decode cX12_sledge 16 = .ok (.iload_n 1, 1) := getB' kX12_sledge_0 8 rfl
theorem dX12_sledge_17 : decode cX12_sledge 17 = .ok (.iload_n 2, 1) := getB' kX12_sledge_0 9 rfl
theorem dX12_sledge_18 : decode cX12_sledge 18 = .ok (.if_icmp .eq 48, 3) := getB' kX12_sledge_0 10 rfl
theorem dX12_sledge_21 : decode cX12_sledge 21 = .ok (.aload_n 0, 1) := getB' kX12_sledge_0 11 rfl
def LX12_sledge_1 : List (Nat × Instr × Nat) := [(22, .getfield 38, 3), (25, .iload_n 1, 1), (26, .iaload, 1), (27, .aload_n 0, 1), (28, .getfield 38, 3), (31, .iload_n 2, 1), (32, .iaload, 1), (33, .if_icmp .ne 33, 3), (36, .iload_n 3, 1), (37, .iconst 1, 1), (38, .sipush 500, 3), (41, .invokestatic 371, 3)]
theorem kX12_sledge_1 : chkB cX12_sledge LX12_sledge_1 = true := by decide +kernel
theorem dX12_sledge_22 : decode cX12_sledge 22 = .ok (.getfield 38, 3) := getB' kX12_sledge_1 0 rfl
theorem dX12_sledge_25 : decode cX12_sledge 25 = .ok (.iload_n 1, 1) := getB' kX12_sledge_1 1 rfl
theorem dX12_sledge_26 : decode cX12_sledge 26 = .ok (.iaload, 1) := getB' kX12_sledge_1 2 rfl
theorem dX12_sledge_27 : decode cX12_sledge 27 = .ok (.aload_n 0, 1) := getB' kX12_sledge_1 3 rfl
theorem dX12_sledge_28 : decode cX12_sledge 28 = .ok (.getfield 38, 3) := getB' kX12_sledge_1 4 rfl
theorem dX12_sledge_31 : decode cX12_sledge 31 = .ok (.iload_n 2, 1) := getB' kX12_sledge_1 5 rfl
theorem dX12_sledge_32 : decode cX12_sledge 32 = .ok (.iaload, 1) := getB' kX12_sledge_1 6 rfl
theorem dX12_sledge_33 : decode cX12_sledge 33 = .ok (.if_icmp .ne 33, 3) := getB' kX12_sledge_1 7 rfl
theorem dX12_sledge_36 : decode cX12_sledge 36 = .ok (.iload_n 3, 1) := getB' kX12_sledge_1 8 rfl
theorem dX12_sledge_37 : decode cX12_sledge 37 = .ok (.iconst 1, 1) := getB' kX12_sledge_1 9 rfl
theorem dX12_sledge_38 : decode cX12_sledge 38 = .ok (.sipush 500, 3) := getB' kX12_sledge_1 10 rfl
theorem dX12_sledge_41 : decode cX12_sledge 41 = .ok (.invokestatic 371, 3) := getB' kX12_sledge_1 11 rfl
def LX12_sledge_2 : List (Nat × Instr × Nat) := [(44, .ifCond .eq 22, 3), (47, .iload_n 3, 1), (48, .aload_n 0, 1), (49, .getfield 56, 3), (52, .iload_n 1, 1), (53, .iaload, 1), (54, .if_icmp .gt 12, 3), (57, .aload_n 0, 1), (58, .getfield 648, 3), (61, .bipush 40, 2), (63, .if_icmp .ne 5, 3), (66, .iconst (-1), 1)]
theorem kX12_sledge_2 : chkB cX12_sledge LX12_sledge_2 = true := by decide +kernel
theorem dX12_sledge_44 : decode cX12_sledge 44 = .ok (.ifCond .eq 22, 3) := getB' kX12_sledge_2 0 rfl
theorem dX12_sledge_47 : decode cX12_sledge 47 = .ok (.iload_n 3, 1) := getB' kX12_sledge_2 1 rfl
theorem dX12_sledge_48 : decode cX12_sledge 48 = .ok (.aload_n 0, 1) := getB' kX12_sledge_2 2 rfl
theorem dX12_sledge_49 : decode cX12_sledge 49 = .ok (.getfield 56, 3) := getB' kX12_sledge_2 3 rfl
theorem dX12_sledge_52 : decode cX12_sledge 52 = .ok (.iload_n 1, 1) := getB' kX12_sledge_2 4 rfl
theorem dX12_sledge_53 : decode cX12_sledge 53 = .ok (.iaload, 1) := getB' kX12_sledge_2 5 rfl
theorem dX12_sledge_54 : decode cX12_sledge 54 = .ok (.if_icmp .gt 12, 3) := getB' kX12_sledge_2 6 rfl
theorem dX12_sledge_57 : decode cX12_sledge 57 = .ok (.aload_n 0, 1) := getB' kX12_sledge_2 7 rfl
theorem dX12_sledge_58 : decode cX12_sledge 58 = .ok (.getfield 648, 3) := getB' kX12_sledge_2 8 rfl
theorem dX12_sledge_61 : decode cX12_sledge 61 = .ok (.bipush 40, 2) := getB' kX12_sledge_2 9 rfl
theorem dX12_sledge_63 : decode cX12_sledge 63 = .ok (.if_icmp .ne 5, 3) := getB' kX12_sledge_2 10 rfl
theorem dX12_sledge_66 : decode cX12_sledge 66 = .ok (.iconst (-1), 1) := getB' kX12_sledge_2 11 rfl
def LX12_sledge_3 : List (Nat × Instr × Nat) := [(67, .ireturn, 1), (68, .aload_n 0, 1), (69, .aload_n 0, 1), (70, .getfield 41, 3), (73, .iload_n 1, 1), (74, .iaload, 1), (75, .invokevirtual 651, 3), (78, .aload_n 0, 1), (79, .getfield 277, 3), (82, .aload_n 0, 1), (83, .getfield 41, 3), (86, .iload_n 2, 1)]
theorem kX12_sledge_3 : chkB cX12_sledge LX12_sledge_3 = true := by decide +kernel
theorem dX12_sledge_67 : decode cX12_sledge 67 = .ok (.ireturn, 1) := getB' kX12_sledge_3 0 rfl
theorem dX12_sledge_68 : decode cX12_sledge 68 = .ok (.aload_n 0, 1) := getB' kX12_sledge_3 1 rfl
theorem dX12_sledge_69 : decode cX12_sledge 69 = .ok (.aload_n 0, 1) := getB' kX12_sledge_3 2 rfl
theorem dX12_sledge_70 : decode cX12_sledge 70 = .ok (.getfield 41, 3) := getB' kX12_sledge_3 3 rfl
theorem dX12_sledge_73 : decode cX12_sledge 73 = .ok (.iload_n 1, 1) := getB' kX12_sledge_3 4 rfl
theorem dX12_sledge_74 : decode cX12_sledge 74 = .ok (.iaload, 1) := getB' kX12_sledge_3 5 rfl
theorem dX12_sledge_75 : decode cX12_sledge 75 = .ok (.invokevirtual 651, 3) := getB' kX12_sledge_3 6 rfl
theorem dX12_sledge_78 : decode cX12_sledge 78 = .ok (.aload_n 0, 1) := getB' kX12_sledge_3 7 rfl
theorem dX12_sledge_79 : decode cX12_sledge 79 = .ok (.getfield 277, 3) := getB' kX12_sledge_3 8 rfl
theorem dX12_sledge_82 : decode cX12_sledge 82 = .ok (.aload_n 0, 1) := getB' kX12_sledge_3 9 rfl
theorem dX12_sledge_83 : decode cX12_sledge 83 = .ok (.getfield 41, 3) := getB' kX12_sledge_3 10 rfl
theorem dX12_sledge_86 : decode cX12_sledge 86 = .ok (.iload_n 2, 1) := getB' kX12_sledge_3 11 rfl
def LX12_sledge_4 : List (Nat × Instr × Nat) := [(87, .iaload, 1), (88, .iaload, 1), (89, .istore 4, 2), (91, .iload 4, 2), (93, .iload_n 3, 1), (94, .if_icmp .lt 5, 3), (97, .iconst (-1), 1), (98, .ireturn, 1), (99, .aload_n 0, 1), (100, .getfield 56, 3), (103, .iload_n 1, 1), (104, .aload_n 0, 1)]
theorem kX12_sledge_4 : chkB cX12_sledge LX12_sledge_4 = true := by decide +kernel
theorem dX12_sledge_87 : decode cX12_sledge 87 = .ok (.iaload, 1) := getB' kX12_sledge_4 0 rfl
theorem dX12_sledge_88 : decode cX12_sledge 88 = .ok (.iaload, 1) := getB' kX12_sledge_4 1 rfl
theorem dX12_sledge_89 : decode cX12_sledge 89 = .ok (.istore 4, 2) := getB' kX12_sledge_4 2 rfl
theorem dX12_sledge_91 : decode cX12_sledge 91 = .ok (.iload 4, 2) := getB' kX12_sledge_4 3 rfl
theorem dX12_sledge_93 : decode cX12_sledge 93 = .ok (.iload_n 3, 1) := getB' kX12_sledge_4 4 rfl
theorem dX12_sledge_94 : decode cX12_sledge 94 = .ok (.if_icmp .lt 5, 3) := getB' kX12_sledge_4 5 rfl
theorem dX12_sledge_97 : decode cX12_sledge 97 = .ok (.iconst (-1), 1) := getB' kX12_sledge_4 6 rfl
theorem dX12_sledge_98 : decode cX12_sledge 98 = .ok (.ireturn, 1) := getB' kX12_sledge_4 7 rfl
theorem dX12_sledge_99 : decode cX12_sledge 99 = .ok (.aload_n 0, 1) := getB' kX12_sledge_4 8 rfl
theorem dX12_sledge_100 : decode cX12_sledge 100 = .ok (.getfield 56, 3) := getB' kX12_sledge_4 9 rfl
theorem dX12_sledge_103 : decode cX12_sledge 103 = .ok (.iload_n 1, 1) := getB' kX12_sledge_4 10 rfl
theorem dX12_sledge_104 : decode cX12_sledge 104 = .ok (.aload_n 0, 1) := getB' kX12_sledge_4 11 rfl
def LX12_sledge_5 : List (Nat × Instr × Nat) := [(105, .getfield 56, 3), (108, .iload_n 1, 1), (109, .iaload, 1), (110, .iload_n 3, 1), (111, .isub, 1), (112, .iastore, 1), (113, .aload_n 0, 1), (114, .aload_n 0, 1), (115, .getfield 654, 3), (118, .iload 4, 2), (120, .i2l, 1), (121, .ladd, 1)]
theorem kX12_sledge_5 : chkB cX12_sledge LX12_sledge_5 = true := by decide +kernel
theorem dX12_sledge_105 : decode cX12_sledge 105 = .ok (.getfield 56, 3) := getB' kX12_sledge_5 0 rfl
theorem dX12_sledge_108 : decode cX12_sledge 108 = .ok (.iload_n 1, 1) := getB' kX12_sledge_5 1 rfl
theorem dX12_sledge_109 : decode cX12_sledge 109 = .ok (.iaload, 1) := getB' kX12_sledge_5 2 rfl
theorem dX12_sledge_110 : decode cX12_sledge 110 = .ok (.iload_n 3, 1) := getB' kX12_sledge_5 3 rfl
theorem dX12_sledge_111 : decode cX12_sledge 111 = .ok (.isub, 1) := getB' kX12_sledge_5 4 rfl
theorem dX12_sledge_112 : decode cX12_sledge 112 = .ok (.iastore, 1) := getB' kX12_sledge_5 5 rfl
theorem dX12_sledge_113 : decode cX12_sledge 113 = .ok (.aload_n 0, 1) := getB' kX12_sledge_5 6 rfl
theorem dX12_sledge_114 : decode cX12_sledge 114 = .ok (.aload_n 0, 1) := getB' kX12_sledge_5 7 rfl
theorem dX12_sledge_115 : decode cX12_sledge 115 = .ok (.getfield 654, 3) := getB' kX12_sledge_5 8 rfl
theorem dX12_sledge_118 : decode cX12_sledge 118 = .ok (.iload 4, 2) := getB' kX12_sledge_5 9 rfl
theorem dX12_sledge_120 : decode cX12_sledge 120 = .ok (.i2l, 1) := getB' kX12_sledge_5 10 rfl
theorem dX12_sledge_121 : decode cX12_sledge 121 = .ok (.ladd, 1) := getB' kX12_sledge_5 11 rfl
def LX12_sledge_6 : List (Nat × Instr × Nat) := [(122, .putfield 654, 3), (125, .aload_n 0, 1), (126, .getfield 247, 3), (129, .aload_n 0, 1), (130, .getfield 648, 3), (133, .iload_n 2, 1), (134, .iastore, 1), (135, .aload_n 0, 1), (136, .getfield 250, 3), (139, .aload_n 0, 1), (140, .getfield 648, 3), (143, .aload_n 0, 1)]
theorem kX12_sledge_6 : chkB cX12_sledge LX12_sledge_6 = true := by decide +kernel
theorem dX12_sledge_122 : decode cX12_sledge 122 = .ok (.putfield 654, 3) := getB' kX12_sledge_6 0 rfl
theorem dX12_sledge_125 : decode cX12_sledge 125 = .ok (.aload_n 0, 1) := getB' kX12_sledge_6 1 rfl
theorem dX12_sledge_126 : decode cX12_sledge 126 = .ok (.getfield 247, 3) := getB' kX12_sledge_6 2 rfl
theorem dX12_sledge_129 : decode cX12_sledge 129 = .ok (.aload_n 0, 1) := getB' kX12_sledge_6 3 rfl
theorem dX12_sledge_130 : decode cX12_sledge 130 = .ok (.getfield 648, 3) := getB' kX12_sledge_6 4 rfl
theorem dX12_sledge_133 : decode cX12_sledge 133 = .ok (.iload_n 2, 1) := getB' kX12_sledge_6 5 rfl
theorem dX12_sledge_134 : decode cX12_sledge 134 = .ok (.iastore, 1) := getB' kX12_sledge_6 6 rfl
theorem dX12_sledge_135 : decode cX12_sledge 135 = .ok (.aload_n 0, 1) := getB' kX12_sledge_6 7 rfl
theorem dX12_sledge_136 : decode cX12_sledge 136 = .ok (.getfield 250, 3) := getB' kX12_sledge_6 8 rfl
theorem dX12_sledge_139 : decode cX12_sledge 139 = .ok (.aload_n 0, 1) := getB' kX12_sledge_6 9 rfl
theorem dX12_sledge_140 : decode cX12_sledge 140 = .ok (.getfield 648, 3) := getB' kX12_sledge_6 10 rfl
theorem dX12_sledge_143 : decode cX12_sledge 143 = .ok (.aload_n 0, 1) := getB' kX12_sledge_6 11 rfl
def LX12_sledge_7 : List (Nat × Instr × Nat) := [(144, .getfield 41, 3), (147, .iload_n 2, 1), (148, .iaload, 1), (149, .iastore, 1), (150, .aload_n 0, 1), (151, .getfield 253, 3), (154, .aload_n 0, 1), (155, .getfield 648, 3), (158, .iload_n 3, 1), (159, .iload 4, 2), (161, .isub, 1), (162, .iastore, 1)]
theorem kX12_sledge_7 : chkB cX12_sledge LX12_sledge_7 = true := by decide +kernel
theorem dX12_sledge_144 : decode cX12_sledge 144 = .ok (.getfield 41, 3) := getB' kX12_sledge_7 0 rfl
theorem dX12_sledge_147 : decode cX12_sledge 147 = .ok (.iload_n 2, 1) := getB' kX12_sledge_7 1 rfl
theorem dX12_sledge_148 : decode cX12_sledge 148 = .ok (.iaload, 1) := getB' kX12_sledge_7 2 rfl
theorem dX12_sledge_149 : decode cX12_sledge 149 = .ok (.iastore, 1) := getB' kX12_sledge_7 3 rfl
theorem dX12_sledge_150 : decode cX12_sledge 150 = .ok (.aload_n 0, 1) := getB' kX12_sledge_7 4 rfl
theorem dX12_sledge_151 : decode cX12_sledge 151 = .ok (.getfield 253, 3) := getB' kX12_sledge_7 5 rfl
theorem dX12_sledge_154 : decode cX12_sledge 154 = .ok (.aload_n 0, 1) := getB' kX12_sledge_7 6 rfl
theorem dX12_sledge_155 : decode cX12_sledge 155 = .ok (.getfield 648, 3) := getB' kX12_sledge_7 7 rfl
theorem dX12_sledge_158 : decode cX12_sledge 158 = .ok (.iload_n 3, 1) := getB' kX12_sledge_7 8 rfl
theorem dX12_sledge_159 : decode cX12_sledge 159 = .ok (.iload 4, 2) := getB' kX12_sledge_7 9 rfl
theorem dX12_sledge_161 : decode cX12_sledge 161 = .ok (.isub, 1) := getB' kX12_sledge_7 10 rfl
theorem dX12_sledge_162 : decode cX12_sledge 162 = .ok (.iastore, 1) := getB' kX12_sledge_7 11 rfl
def LX12_sledge_8 : List (Nat × Instr × Nat) := [(163, .aload_n 0, 1), (164, .getfield 256, 3), (167, .aload_n 0, 1), (168, .getfield 648, 3), (171, .aload_n 0, 1), (172, .getfield 396, 3), (175, .iload 4, 2), (177, .ifCond .le 8, 3), (180, .iload 4, 2), (182, .goto 4, 3), (185, .iconst 1, 1), (186, .iadd, 1)]
theorem kX12_sledge_8 : chkB cX12_sledge LX12_sledge_8 = true := by decide +kernel
theorem dX12_sledge_163 : decode cX12_sledge 163 = .ok (.aload_n 0, 1) := getB' kX12_sledge_8 0 rfl
theorem dX12_sledge_164 : decode cX12_sledge 164 = .ok (.getfield 256, 3) := getB' kX12_sledge_8 1 rfl
theorem dX12_sledge_167 : decode cX12_sledge 167 = .ok (.aload_n 0, 1) := getB' kX12_sledge_8 2 rfl
theorem dX12_sledge_168 : decode cX12_sledge 168 = .ok (.getfield 648, 3) := getB' kX12_sledge_8 3 rfl
theorem dX12_sledge_171 : decode cX12_sledge 171 = .ok (.aload_n 0, 1) := getB' kX12_sledge_8 4 rfl
theorem dX12_sledge_172 : decode cX12_sledge 172 = .ok (.getfield 396, 3) := getB' kX12_sledge_8 5 rfl
theorem dX12_sledge_175 : decode cX12_sledge 175 = .ok (.iload 4, 2) := getB' kX12_sledge_8 6 rfl
theorem dX12_sledge_177 : decode cX12_sledge 177 = .ok (.ifCond .le 8, 3) := getB' kX12_sledge_8 7 rfl
theorem dX12_sledge_180 : decode cX12_sledge 180 = .ok (.iload 4, 2) := getB' kX12_sledge_8 8 rfl
theorem dX12_sledge_182 : decode cX12_sledge 182 = .ok (.goto 4, 3) := getB' kX12_sledge_8 9 rfl
theorem dX12_sledge_185 : decode cX12_sledge 185 = .ok (.iconst 1, 1) := getB' kX12_sledge_8 10 rfl
theorem dX12_sledge_186 : decode cX12_sledge 186 = .ok (.iadd, 1) := getB' kX12_sledge_8 11 rfl
def LX12_sledge_9 : List (Nat × Instr × Nat) := [(187, .iastore, 1), (188, .aload_n 0, 1), (189, .getfield 259, 3), (192, .aload_n 0, 1), (193, .getfield 648, 3), (196, .iconst 1, 1), (197, .bastore, 1), (198, .aload_n 0, 1), (199, .aload_n 0, 1), (200, .getfield 648, 3), (203, .iconst 1, 1), (204, .iadd, 1)]
theorem kX12_sledge_9 : chkB cX12_sledge LX12_sledge_9 = true := by decide +kernel
theorem dX12_sledge_187 : decode cX12_sledge 187 = .ok (.iastore, 1) := getB' kX12_sledge_9 0 rfl
theorem dX12_sledge_188 : decode cX12_sledge 188 = .ok (.aload_n 0, 1) := getB' kX12_sledge_9 1 rfl
theorem dX12_sledge_189 : decode cX12_sledge 189 = .ok (.getfield 259, 3) := getB' kX12_sledge_9 2 rfl
theorem dX12_sledge_192 : decode cX12_sledge 192 = .ok (.aload_n 0, 1) := getB' kX12_sledge_9 3 rfl
theorem dX12_sledge_193 : decode cX12_sledge 193 = .ok (.getfield 648, 3) := getB' kX12_sledge_9 4 rfl
theorem dX12_sledge_196 : decode cX12_sledge 196 = .ok (.iconst 1, 1) := getB' kX12_sledge_9 5 rfl
theorem dX12_sledge_197 : decode cX12_sledge 197 = .ok (.bastore, 1) := getB' kX12_sledge_9 6 rfl
theorem dX12_sledge_198 : decode cX12_sledge 198 = .ok (.aload_n 0, 1) := getB' kX12_sledge_9 7 rfl
theorem dX12_sledge_199 : decode cX12_sledge 199 = .ok (.aload_n 0, 1) := getB' kX12_sledge_9 8 rfl
theorem dX12_sledge_200 : decode cX12_sledge 200 = .ok (.getfield 648, 3) := getB' kX12_sledge_9 9 rfl
theorem dX12_sledge_203 : decode cX12_sledge 203 = .ok (.iconst 1, 1) := getB' kX12_sledge_9 10 rfl
theorem dX12_sledge_204 : decode cX12_sledge 204 = .ok (.iadd, 1) := getB' kX12_sledge_9 11 rfl
def LX12_sledge_10 : List (Nat × Instr × Nat) := [(205, .putfield 648, 3), (208, .aload_n 0, 1), (209, .getfield 256, 3), (212, .aload_n 0, 1), (213, .getfield 648, 3), (216, .iconst 1, 1), (217, .isub, 1), (218, .iaload, 1), (219, .ireturn, 1)]
theorem kX12_sledge_10 : chkB cX12_sledge LX12_sledge_10 = true := by decide +kernel
theorem dX12_sledge_205 : decode cX12_sledge 205 = .ok (.putfield 648, 3) := getB' kX12_sledge_10 0 rfl
theorem dX12_sledge_208 : decode cX12_sledge 208 = .ok (.aload_n 0, 1) := getB' kX12_sledge_10 1 rfl
theorem dX12_sledge_209 : decode cX12_sledge 209 = .ok (.getfield 256, 3) := getB' kX12_sledge_10 2 rfl
theorem dX12_sledge_212 : decode cX12_sledge 212 = .ok (.aload_n 0, 1) := getB' kX12_sledge_10 3 rfl
theorem dX12_sledge_213 : decode cX12_sledge 213 = .ok (.getfield 648, 3) := getB' kX12_sledge_10 4 rfl
theorem dX12_sledge_216 : decode cX12_sledge 216 = .ok (.iconst 1, 1) := getB' kX12_sledge_10 5 rfl
theorem dX12_sledge_217 : decode cX12_sledge 217 = .ok (.isub, 1) := getB' kX12_sledge_10 6 rfl
theorem dX12_sledge_218 : decode cX12_sledge 218 = .ok (.iaload, 1) := getB' kX12_sledge_10 7 rfl
theorem dX12_sledge_219 : decode cX12_sledge 219 = .ok (.ireturn, 1) := getB' kX12_sledge_10 8 rfl
def LX12_sledgeGoes_0 : List (Nat × Instr × Nat) := [(0, .aload_n 0, 1), (1, .getfield 259, 3), (4, .iload_n 1, 1), (5, .baload, 1), (6, .ifCond .eq 16, 3), (9, .aload_n 0, 1), (10, .getfield 396, 3), (13, .aload_n 0, 1), (14, .getfield 256, 3), (17, .iload_n 1, 1), (18, .iaload, 1), (19, .if_icmp .ge 4, 3)]
theorem kX12_sledgeGoes_0 : chkB cX12_sledgeGoes LX12_sledgeGoes_0 = true := by decide +kernel
theorem dX12_sledgeGoes_0 : decode cX12_sledgeGoes 0 = .ok (.aload_n 0, 1) := getB' kX12_sledgeGoes_0 0 rfl
theorem dX12_sledgeGoes_1 : decode cX12_sledgeGoes 1 = .ok (.getfield 259, 3) := getB' kX12_sledgeGoes_0 1 rfl
theorem dX12_sledgeGoes_4 : decode cX12_sledgeGoes 4 = .ok (.iload_n 1, 1) := getB' kX12_sledgeGoes_0 2 rfl
theorem dX12_sledgeGoes_5 : decode cX12_sledgeGoes 5 = .ok (.baload, 1) := getB' kX12_sledgeGoes_0 3 rfl
theorem dX12_sledgeGoes_6 : decode cX12_sledgeGoes 6 = .ok (.ifCond .eq 16, 3) := getB' kX12_sledgeGoes_0 4 rfl
theorem dX12_sledgeGoes_9 : decode cX12_sledgeGoes 9 = .ok (.aload_n 0, 1) := getB' kX12_sledgeGoes_0 5 rfl
theorem dX12_sledgeGoes_10 : decode cX12_sledgeGoes 10 = .ok (.getfield 396, 3) := getB' kX12_sledgeGoes_0 6 rfl
theorem dX12_sledgeGoes_13 : decode cX12_sledgeGoes 13 = .ok (.aload_n 0, 1) := getB' kX12_sledgeGoes_0 7 rfl
theorem dX12_sledgeGoes_14 : decode cX12_sledgeGoes 14 = .ok (.getfield 256, 3) := getB' kX12_sledgeGoes_0 8 rfl
theorem dX12_sledgeGoes_17 : decode cX12_sledgeGoes 17 = .ok (.iload_n 1, 1) := getB' kX12_sledgeGoes_0 9 rfl
theorem dX12_sledgeGoes_18 : decode cX12_sledgeGoes 18 = .ok (.iaload, 1) := getB' kX12_sledgeGoes_0 10 rfl
theorem dX12_sledgeGoes_19 : decode cX12_sledgeGoes 19 = .ok (.if_icmp .ge 4, 3) := getB' kX12_sledgeGoes_0 11 rfl
def LX12_sledgeGoes_1 : List (Nat × Instr × Nat) := [(22, .return_, 1), (23, .aload_n 0, 1), (24, .getfield 259, 3), (27, .iload_n 1, 1), (28, .iconst 0, 1), (29, .bastore, 1), (30, .aload_n 0, 1), (31, .getfield 247, 3), (34, .iload_n 1, 1), (35, .iaload, 1), (36, .istore_n 2, 1), (37, .aload_n 0, 1)]
theorem kX12_sledgeGoes_1 : chkB cX12_sledgeGoes LX12_sledgeGoes_1 = true := by decide +kernel
theorem dX12_sledgeGoes_22 : decode cX12_sledgeGoes 22 = .ok (.return_, 1) := getB' kX12_sledgeGoes_1 0 rfl
theorem dX12_sledgeGoes_23 : decode cX12_sledgeGoes 23 = .ok (.aload_n 0, 1) := getB' kX12_sledgeGoes_1 1 rfl
theorem dX12_sledgeGoes_24 : decode cX12_sledgeGoes 24 = .ok (.getfield 259, 3) := getB' kX12_sledgeGoes_1 2 rfl
theorem dX12_sledgeGoes_27 : decode cX12_sledgeGoes 27 = .ok (.iload_n 1, 1) := getB' kX12_sledgeGoes_1 3 rfl
theorem dX12_sledgeGoes_28 : decode cX12_sledgeGoes 28 = .ok (.iconst 0, 1) := getB' kX12_sledgeGoes_1 4 rfl
theorem dX12_sledgeGoes_29 : decode cX12_sledgeGoes 29 = .ok (.bastore, 1) := getB' kX12_sledgeGoes_1 5 rfl
theorem dX12_sledgeGoes_30 : decode cX12_sledgeGoes 30 = .ok (.aload_n 0, 1) := getB' kX12_sledgeGoes_1 6 rfl
theorem dX12_sledgeGoes_31 : decode cX12_sledgeGoes 31 = .ok (.getfield 247, 3) := getB' kX12_sledgeGoes_1 7 rfl
theorem dX12_sledgeGoes_34 : decode cX12_sledgeGoes 34 = .ok (.iload_n 1, 1) := getB' kX12_sledgeGoes_1 8 rfl
theorem dX12_sledgeGoes_35 : decode cX12_sledgeGoes 35 = .ok (.iaload, 1) := getB' kX12_sledgeGoes_1 9 rfl
theorem dX12_sledgeGoes_36 : decode cX12_sledgeGoes 36 = .ok (.istore_n 2, 1) := getB' kX12_sledgeGoes_1 10 rfl
theorem dX12_sledgeGoes_37 : decode cX12_sledgeGoes 37 = .ok (.aload_n 0, 1) := getB' kX12_sledgeGoes_1 11 rfl
def LX12_sledgeGoes_2 : List (Nat × Instr × Nat) := [(38, .getfield 80, 3), (41, .iload_n 2, 1), (42, .baload, 1), (43, .ifCond .ne 18, 3), (46, .aload_n 0, 1), (47, .getfield 41, 3), (50, .iload_n 2, 1), (51, .iaload, 1), (52, .aload_n 0, 1), (53, .getfield 250, 3), (56, .iload_n 1, 1), (57, .iaload, 1)]
theorem kX12_sledgeGoes_2 : chkB cX12_sledgeGoes LX12_sledgeGoes_2 = true := by decide +kernel
theorem dX12_sledgeGoes_38 : decode cX12_sledgeGoes 38 = .ok (.getfield 80, 3) := getB' kX12_sledgeGoes_2 0 rfl
theorem dX12_sledgeGoes_41 : decode cX12_sledgeGoes 41 = .ok (.iload_n 2, 1) := getB' kX12_sledgeGoes_2 1 rfl
theorem dX12_sledgeGoes_42 : decode cX12_sledgeGoes 42 = .ok (.baload, 1) := getB' kX12_sledgeGoes_2 2 rfl
theorem dX12_sledgeGoes_43 : decode cX12_sledgeGoes 43 = .ok (.ifCond .ne 18, 3) := getB' kX12_sledgeGoes_2 3 rfl
theorem dX12_sledgeGoes_46 : decode cX12_sledgeGoes 46 = .ok (.aload_n 0, 1) := getB' kX12_sledgeGoes_2 4 rfl
theorem dX12_sledgeGoes_47 : decode cX12_sledgeGoes 47 = .ok (.getfield 41, 3) := getB' kX12_sledgeGoes_2 5 rfl
theorem dX12_sledgeGoes_50 : decode cX12_sledgeGoes 50 = .ok (.iload_n 2, 1) := getB' kX12_sledgeGoes_2 6 rfl
theorem dX12_sledgeGoes_51 : decode cX12_sledgeGoes 51 = .ok (.iaload, 1) := getB' kX12_sledgeGoes_2 7 rfl
theorem dX12_sledgeGoes_52 : decode cX12_sledgeGoes 52 = .ok (.aload_n 0, 1) := getB' kX12_sledgeGoes_2 8 rfl
theorem dX12_sledgeGoes_53 : decode cX12_sledgeGoes 53 = .ok (.getfield 250, 3) := getB' kX12_sledgeGoes_2 9 rfl
theorem dX12_sledgeGoes_56 : decode cX12_sledgeGoes 56 = .ok (.iload_n 1, 1) := getB' kX12_sledgeGoes_2 10 rfl
theorem dX12_sledgeGoes_57 : decode cX12_sledgeGoes 57 = .ok (.iaload, 1) := getB' kX12_sledgeGoes_2 11 rfl
def LX12_sledgeGoes_3 : List (Nat × Instr × Nat) := [(58, .if_icmp .eq 22, 3), (61, .aload_n 0, 1), (62, .aload_n 0, 1), (63, .getfield 657, 3), (66, .aload_n 0, 1), (67, .getfield 253, 3), (70, .iload_n 1, 1), (71, .iaload, 1), (72, .i2l, 1), (73, .ladd, 1), (74, .putfield 657, 3), (77, .goto 22, 3)]
theorem kX12_sledgeGoes_3 : chkB cX12_sledgeGoes LX12_sledgeGoes_3 = true := by decide +kernel
theorem dX12_sledgeGoes_58 : decode cX12_sledgeGoes 58 = .ok (.if_icmp .eq 22, 3) := getB' kX12_sledgeGoes_3 0 rfl
theorem dX12_sledgeGoes_61 : decode cX12_sledgeGoes 61 = .ok (.aload_n 0, 1) := getB' kX12_sledgeGoes_3 1 rfl
theorem dX12_sledgeGoes_62 : decode cX12_sledgeGoes 62 = .ok (.aload_n 0, 1) := getB' kX12_sledgeGoes_3 2 rfl
theorem dX12_sledgeGoes_63 : decode cX12_sledgeGoes 63 = .ok (.getfield 657, 3) := getB' kX12_sledgeGoes_3 3 rfl
theorem dX12_sledgeGoes_66 : decode cX12_sledgeGoes 66 = .ok (.aload_n 0, 1) := getB' kX12_sledgeGoes_3 4 rfl
theorem dX12_sledgeGoes_67 : decode cX12_sledgeGoes 67 = .ok (.getfield 253, 3) := getB' kX12_sledgeGoes_3 5 rfl
theorem dX12_sledgeGoes_70 : decode cX12_sledgeGoes 70 = .ok (.iload_n 1, 1) := getB' kX12_sledgeGoes_3 6 rfl
theorem dX12_sledgeGoes_71 : decode cX12_sledgeGoes 71 = .ok (.iaload, 1) := getB' kX12_sledgeGoes_3 7 rfl
theorem dX12_sledgeGoes_72 : decode cX12_sledgeGoes 72 = .ok (.i2l, 1) := getB' kX12_sledgeGoes_3 8 rfl
theorem dX12_sledgeGoes_73 : decode cX12_sledgeGoes 73 = .ok (.ladd, 1) := getB' kX12_sledgeGoes_3 9 rfl
theorem dX12_sledgeGoes_74 : decode cX12_sledgeGoes 74 = .ok (.putfield 657, 3) := getB' kX12_sledgeGoes_3 10 rfl
theorem dX12_sledgeGoes_77 : decode cX12_sledgeGoes 77 = .ok (.goto 22, 3) := getB' kX12_sledgeGoes_3 11 rfl
def LX12_sledgeGoes_4 : List (Nat × Instr × Nat) := [(80, .aload_n 0, 1), (81, .getfield 56, 3), (84, .iload_n 2, 1), (85, .aload_n 0, 1), (86, .getfield 56, 3), (89, .iload_n 2, 1), (90, .iaload, 1), (91, .aload_n 0, 1), (92, .getfield 253, 3), (95, .iload_n 1, 1), (96, .iaload, 1), (97, .iadd, 1)]
theorem kX12_sledgeGoes_4 : chkB cX12_sledgeGoes LX12_sledgeGoes_4 = true := by decide +kernel
theorem dX12_sledgeGoes_80 : decode cX12_sledgeGoes 80 = .ok (.aload_n 0, 1) := getB' kX12_sledgeGoes_4 0 rfl
theorem dX12_sledgeGoes_81 : decode cX12_sledgeGoes 81 = .ok (.getfield 56, 3) := getB' kX12_sledgeGoes_4 1 rfl
theorem dX12_sledgeGoes_84 : decode cX12_sledgeGoes 84 = .ok (.iload_n 2, 1) := getB' kX12_sledgeGoes_4 2 rfl
theorem dX12_sledgeGoes_85 : decode cX12_sledgeGoes 85 = .ok (.aload_n 0, 1) := getB' kX12_sledgeGoes_4 3 rfl
theorem dX12_sledgeGoes_86 : decode cX12_sledgeGoes 86 = .ok (.getfield 56, 3) := getB' kX12_sledgeGoes_4 4 rfl
theorem dX12_sledgeGoes_89 : decode cX12_sledgeGoes 89 = .ok (.iload_n 2, 1) := getB' kX12_sledgeGoes_4 5 rfl
theorem dX12_sledgeGoes_90 : decode cX12_sledgeGoes 90 = .ok (.iaload, 1) := getB' kX12_sledgeGoes_4 6 rfl
theorem dX12_sledgeGoes_91 : decode cX12_sledgeGoes 91 = .ok (.aload_n 0, 1) := getB' kX12_sledgeGoes_4 7 rfl
theorem dX12_sledgeGoes_92 : decode cX12_sledgeGoes 92 = .ok (.getfield 253, 3) := getB' kX12_sledgeGoes_4 8 rfl
theorem dX12_sledgeGoes_95 : decode cX12_sledgeGoes 95 = .ok (.iload_n 1, 1) := getB' kX12_sledgeGoes_4 9 rfl
theorem dX12_sledgeGoes_96 : decode cX12_sledgeGoes 96 = .ok (.iaload, 1) := getB' kX12_sledgeGoes_4 10 rfl
theorem dX12_sledgeGoes_97 : decode cX12_sledgeGoes 97 = .ok (.iadd, 1) := getB' kX12_sledgeGoes_4 11 rfl
def LX12_sledgeGoes_5 : List (Nat × Instr × Nat) := [(98, .iastore, 1), (99, .return_, 1)]
theorem kX12_sledgeGoes_5 : chkB cX12_sledgeGoes LX12_sledgeGoes_5 = true := by decide +kernel
theorem dX12_sledgeGoes_98 : decode cX12_sledgeGoes 98 = .ok (.iastore, 1) := getB' kX12_sledgeGoes_5 0 rfl
theorem dX12_sledgeGoes_99 : decode cX12_sledgeGoes 99 = .ok (.return_, 1) := getB' kX12_sledgeGoes_5 1 rfl
def LX12_people_0 : List (Nat × Instr × Nat) := [(0, .aload_n 0, 1), (1, .iload_n 1, 1), (2, .invokevirtual 433, 3), (5, .ifCond .eq 34, 3), (8, .iload_n 2, 1), (9, .sipush (-500), 3), (12, .sipush 500, 3), (15, .invokestatic 371, 3), (18, .ifCond .eq 21, 3), (21, .aload_n 0, 1), (22, .getfield 53, 3), (25, .iload_n 1, 1)]
theorem kX12_people_0 : chkB cX12_people LX12_people_0 = true := by decide +kernel
theorem dX12_people_0 : decode cX12_people 0 = .ok (.aload_n 0, 1) := getB' kX12_people_0 0 rfl
theorem dX12_people_1 : decode cX12_people 1 = .ok (.iload_n 1, 1) := getB' kX12_people_0 1 rfl
theorem dX12_people_2 : decode cX12_people 2 = .ok (.invokevirtual 433, 3) := getB' kX12_people_0 2 rfl
theorem dX12_people_5 : decode cX12_people 5 = .ok (.ifCond .eq 34, 3) := getB' kX12_people_0 3 rfl
theorem dX12_people_8 : decode cX12_people 8 = .ok (.iload_n 2, 1) := getB' kX12_people_0 4 rfl
theorem dX12_people_9 : decode cX12_people 9 = .ok (.sipush (-500), 3) := getB' kX12_people_0 5 rfl
theorem dX12_people_12 : decode cX12_people 12 = .ok (.sipush 500, 3) := getB' kX12_people_0 6 rfl
theorem dX12_people_15 : decode cX12_people 15 = .ok (.invokestatic 371, 3) := getB' kX12_people_0 7 rfl
theorem dX12_people_18 : decode cX12_people 18 = .ok (.ifCond .eq 21, 3) := getB' kX12_people_0 8 rfl
theorem dX12_people_21 : decode cX12_people 21 = .ok (.aload_n 0, 1) := getB' kX12_people_0 9 rfl
theorem dX12_people_22 : decode cX12_people 22 = .ok (.getfield 53, 3) := getB' kX12_people_0 10 rfl
theorem dX12_people_25 : decode cX12_people 25 = .ok (.iload_n 1, 1) := getB' kX12_people_0 11 rfl
def LX12_people_1 : List (Nat × Instr × Nat) := [(26, .iaload, 1), (27, .iload_n 2, 1), (28, .iadd, 1), (29, .iconst 0, 1), (30, .sipush 500, 3), (33, .invokestatic 371, 3), (36, .ifCond .ne 5, 3), (39, .iconst 0, 1), (40, .ireturn, 1), (41, .aload_n 0, 1), (42, .getfield 53, 3), (45, .iload_n 1, 1)]
theorem kX12_people_1 : chkB cX12_people LX12_people_1 = true := by decide +kernel
theorem dX12_people_26 : decode cX12_people 26 = .ok (.iaload, 1) := getB' kX12_people_1 0 rfl
theorem dX12_people_27 : decode cX12_people 27 = .ok (.iload_n 2, 1) := getB' kX12_people_1 1 rfl
theorem dX12_people_28 : decode cX12_people 28 = .ok (.iadd, 1) := getB' kX12_people_1 2 rfl
theorem dX12_people_29 : decode cX12_people 29 = .ok (.iconst 0, 1) := getB' kX12_people_1 3 rfl
theorem dX12_people_30 : decode cX12_people 30 = .ok (.sipush 500, 3) := getB' kX12_people_1 4 rfl
theorem dX12_people_33 : decode cX12_people 33 = .ok (.invokestatic 371, 3) := getB' kX12_people_1 5 rfl
theorem dX12_people_36 : decode cX12_people 36 = .ok (.ifCond .ne 5, 3) := getB' kX12_people_1 6 rfl
theorem dX12_people_39 : decode cX12_people 39 = .ok (.iconst 0, 1) := getB' kX12_people_1 7 rfl
theorem dX12_people_40 : decode cX12_people 40 = .ok (.ireturn, 1) := getB' kX12_people_1 8 rfl
theorem dX12_people_41 : decode cX12_people 41 = .ok (.aload_n 0, 1) := getB' kX12_people_1 9 rfl
theorem dX12_people_42 : decode cX12_people 42 = .ok (.getfield 53, 3) := getB' kX12_people_1 10 rfl
theorem dX12_people_45 : decode cX12_people 45 = .ok (.iload_n 1, 1) := getB' kX12_people_1 11 rfl
def LX12_people_2 : List (Nat × Instr × Nat) := [(46, .aload_n 0, 1), (47, .getfield 53, 3), (50, .iload_n 1, 1), (51, .iaload, 1), (52, .iload_n 2, 1), (53, .iadd, 1), (54, .iastore, 1), (55, .iconst 1, 1), (56, .ireturn, 1)]
theorem kX12_people_2 : chkB cX12_people LX12_people_2 = true := by decide +kernel
theorem dX12_people_46 : decode cX12_people 46 = .ok (.aload_n 0, 1) := getB' kX12_people_2 0 rfl
theorem dX12_people_47 : decode cX12_people 47 = .ok (.getfield 53, 3) := getB' kX12_people_2 1 rfl
theorem dX12_people_50 : decode cX12_people 50 = .ok (.iload_n 1, 1) := getB' kX12_people_2 2 rfl
theorem dX12_people_51 : decode cX12_people 51 = .ok (.iaload, 1) := getB' kX12_people_2 3 rfl
theorem dX12_people_52 : decode cX12_people 52 = .ok (.iload_n 2, 1) := getB' kX12_people_2 4 rfl
theorem dX12_people_53 : decode cX12_people 53 = .ok (.iadd, 1) := getB' kX12_people_2 5 rfl
theorem dX12_people_54 : decode cX12_people 54 = .ok (.iastore, 1) := getB' kX12_people_2 6 rfl
theorem dX12_people_55 : decode cX12_people 55 = .ok (.iconst 1, 1) := getB' kX12_people_2 7 rfl
theorem dX12_people_56 : decode cX12_people 56 = .ok (.ireturn, 1) := getB' kX12_people_2 8 rfl
def LX12_hide_0 : List (Nat × Instr × Nat) := [(0, .aload_n 0, 1), (1, .iload_n 1, 1), (2, .invokevirtual 433, 3), (5, .ifCond .eq 24, 3), (8, .iload_n 2, 1), (9, .aload_n 0, 1), (10, .getfield 56, 3), (13, .iload_n 1, 1), (14, .iaload, 1), (15, .if_icmp .gt 14, 3), (18, .iload_n 2, 1), (19, .aload_n 0, 1)]
theorem kX12_hide_0 : chkB cX12_hide LX12_hide_0 = true := by decide +kernel
theorem dX12_hide_0 : decode cX12_hide 0 = .ok (.aload_n 0, 1) := getB' kX12_hide_0 0 rfl
theorem dX12_hide_1 : decode cX12_hide 1 = .ok (.iload_n 1, 1) := getB' kX12_hide_0 1 rfl
theorem dX12_hide_2 : decode cX12_hide 2 = .ok (.invokevirtual 433, 3) := getB' kX12_hide_0 2 rfl
theorem dX12_hide_5 : decode cX12_hide 5 = .ok (.ifCond .eq 24, 3) := getB' kX12_hide_0 3 rfl
theorem dX12_hide_8 : decode cX12_hide 8 = .ok (.iload_n 2, 1) := getB' kX12_hide_0 4 rfl
theorem dX12_hide_9 : decode cX12_hide 9 = .ok (.aload_n 0, 1) := getB' kX12_hide_0 5 rfl
theorem dX12_hide_10 : decode cX12_hide 10 = .ok (.getfield 56, 3) := getB' kX12_hide_0 6 rfl
theorem dX12_hide_13 : decode cX12_hide 13 = .ok (.iload_n 1, 1) := getB' kX12_hide_0 7 rfl
theorem dX12_hide_14 : decode cX12_hide 14 = .ok (.iaload, 1) := getB' kX12_hide_0 8 rfl
theorem dX12_hide_15 : decode cX12_hide 15 = .ok (.if_icmp .gt 14, 3) := getB' kX12_hide_0 9 rfl
theorem dX12_hide_18 : decode cX12_hide 18 = .ok (.iload_n 2, 1) := getB' kX12_hide_0 10 rfl
theorem dX12_hide_19 : decode cX12_hide 19 = .ok (.aload_n 0, 1) := getB' kX12_hide_0 11 rfl
def LX12_hide_1 : List (Nat × Instr × Nat) := [(20, .getfield 59, 3), (23, .iload_n 1, 1), (24, .iaload, 1), (25, .ineg, 1), (26, .if_icmp .ge 5, 3), (29, .iconst 0, 1), (30, .ireturn, 1), (31, .aload_n 0, 1), (32, .getfield 56, 3), (35, .iload_n 1, 1), (36, .aload_n 0, 1), (37, .getfield 56, 3)]
theorem kX12_hide_1 : chkB cX12_hide LX12_hide_1 = true := by decide +kernel
theorem dX12_hide_20 : decode cX12_hide 20 = .ok (.getfield 59, 3) := getB' kX12_hide_1 0 rfl
theorem dX12_hide_23 : decode cX12_hide 23 = .ok (.iload_n 1, 1) := getB' kX12_hide_1 1 rfl
theorem dX12_hide_24 : decode cX12_hide 24 = .ok (.iaload, 1) := getB' kX12_hide_1 2 rfl
theorem dX12_hide_25 : decode cX12_hide 25 = .ok (.ineg, 1) := getB' kX12_hide_1 3 rfl
theorem dX12_hide_26 : decode cX12_hide 26 = .ok (.if_icmp .ge 5, 3) := getB' kX12_hide_1 4 rfl
theorem dX12_hide_29 : decode cX12_hide 29 = .ok (.iconst 0, 1) := getB' kX12_hide_1 5 rfl
theorem dX12_hide_30 : decode cX12_hide 30 = .ok (.ireturn, 1) := getB' kX12_hide_1 6 rfl
theorem dX12_hide_31 : decode cX12_hide 31 = .ok (.aload_n 0, 1) := getB' kX12_hide_1 7 rfl
theorem dX12_hide_32 : decode cX12_hide 32 = .ok (.getfield 56, 3) := getB' kX12_hide_1 8 rfl
theorem dX12_hide_35 : decode cX12_hide 35 = .ok (.iload_n 1, 1) := getB' kX12_hide_1 9 rfl
theorem dX12_hide_36 : decode cX12_hide 36 = .ok (.aload_n 0, 1) := getB' kX12_hide_1 10 rfl
theorem dX12_hide_37 : decode cX12_hide 37 = .ok (.getfield 56, 3) := getB' kX12_hide_1 11 rfl
def LX12_hide_2 : List (Nat × Instr × Nat) := [(40, .iload_n 1, 1), (41, .iaload, 1), (42, .iload_n 2, 1), (43, .isub, 1), (44, .iastore, 1), (45, .aload_n 0, 1), (46, .getfield 59, 3), (49, .iload_n 1, 1), (50, .aload_n 0, 1), (51, .getfield 59, 3), (54, .iload_n 1, 1), (55, .iaload, 1)]
theorem kX12_hide_2 : chkB cX12_hide LX12_hide_2 = true := by decide +kernel
theorem dX12_hide_40 : decode cX12_hide 40 = .ok (.iload_n 1, 1) := getB' kX12_hide_2 0 rfl
theorem dX12_hide_41 : decode cX12_hide 41 = .ok (.iaload, 1) := getB' kX12_hide_2 1 rfl
theorem dX12_hide_42 : decode cX12_hide 42 = .ok (.iload_n 2, 1) := getB' kX12_hide_2 2 rfl
theorem dX12_hide_43 : decode cX12_hide 43 = .ok (.isub, 1) := getB' kX12_hide_2 3 rfl
theorem dX12_hide_44 : decode cX12_hide 44 = .ok (.iastore, 1) := getB' kX12_hide_2 4 rfl
theorem dX12_hide_45 : decode cX12_hide 45 = .ok (.aload_n 0, 1) := getB' kX12_hide_2 5 rfl
theorem dX12_hide_46 : decode cX12_hide 46 = .ok (.getfield 59, 3) := getB' kX12_hide_2 6 rfl
theorem dX12_hide_49 : decode cX12_hide 49 = .ok (.iload_n 1, 1) := getB' kX12_hide_2 7 rfl
theorem dX12_hide_50 : decode cX12_hide 50 = .ok (.aload_n 0, 1) := getB' kX12_hide_2 8 rfl
theorem dX12_hide_51 : decode cX12_hide 51 = .ok (.getfield 59, 3) := getB' kX12_hide_2 9 rfl
theorem dX12_hide_54 : decode cX12_hide 54 = .ok (.iload_n 1, 1) := getB' kX12_hide_2 10 rfl
theorem dX12_hide_55 : decode cX12_hide 55 = .ok (.iaload, 1) := getB' kX12_hide_2 11 rfl
def LX12_hide_3 : List (Nat × Instr × Nat) := [(56, .iload_n 2, 1), (57, .iadd, 1), (58, .iastore, 1), (59, .iconst 1, 1), (60, .ireturn, 1)]
theorem kX12_hide_3 : chkB cX12_hide LX12_hide_3 = true := by decide +kernel
theorem dX12_hide_56 : decode cX12_hide 56 = .ok (.iload_n 2, 1) := getB' kX12_hide_3 0 rfl
theorem dX12_hide_57 : decode cX12_hide 57 = .ok (.iadd, 1) := getB' kX12_hide_3 1 rfl
theorem dX12_hide_58 : decode cX12_hide 58 = .ok (.iastore, 1) := getB' kX12_hide_3 2 rfl
theorem dX12_hide_59 : decode cX12_hide 59 = .ok (.iconst 1, 1) := getB' kX12_hide_3 3 rfl
theorem dX12_hide_60 : decode cX12_hide 60 = .ok (.ireturn, 1) := getB' kX12_hide_3 4 rfl
