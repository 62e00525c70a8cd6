def LX12_declare_0 : List (Nat × Instr × Nat) := [(0, .aload_n 0, 1), (1, .iload_n 1, 1), (2, .invokevirtual 403, 3), (5, .ifCond .eq 25, 3), (8, .iload_n 2, 1), (9, .iconst 0, 1), (10, .sipush 500, 3), (13, .invokestatic 371, 3), (16, .ifCond .eq 14, 3), (19, .iload_n 3, 1), (20, .iconst 0, 1), (21, .ldc_w 638, 3)]
theorem kX12_declare_0 : chkB cX12_declare LX12_declare_0 = true := by decide +kernel
theorem dX12_declare_0 : decode cX12_declare 0 = .ok (.aload_n 0, 1) := getB' kX12_declare_0 0 rfl
theorem dX12_declare_1 : decode cX12_declare 1 = .ok (.iload_n 1, 1) := getB' kX12_declare_0 1 rfl
theorem dX12_declare_2 : decode cX12_declare 2 = .ok (.invokevirtual 403, 3) := getB' kX12_declare_0 2 rfl
theorem dX12_declare_5 : decode cX12_declare 5 = .ok (.ifCond .eq 25, 3) := getB' kX12_declare_0 3 rfl
theorem dX12_declare_8 : decode cX12_declare 8 = .ok (.iload_n 2, 1) := getB' kX12_declare_0 4 rfl
theorem dX12_declare_9 : decode cX12_declare 9 = .ok (.iconst 0, 1) := getB' kX12_declare_0 5 rfl
theorem dX12_declare_10 : decode cX12_declare 10 = .ok (.sipush 500, 3) := getB' kX12_declare_0 6 rfl
theorem dX12_declare_13 : decode cX12_declare 13 = .ok (.invokestatic 371, 3) := getB' kX12_declare_0 7 rfl
theorem dX12_declare_16 : decode cX12_declare 16 = .ok (.ifCond .eq 14, 3) := getB' kX12_declare_0 8 rfl
theorem dX12_declare_19 : decode cX12_declare 19 = .ok (.iload_n 3, 1) := getB' kX12_declare_0 9 rfl
theorem dX12_declare_20 : decode cX12_declare 20 = .ok (.iconst 0, 1) := getB' kX12_declare_0 10 rfl
theorem dX12_declare_21 : decode cX12_declare 21 = .ok (.ldc_w 638, 3) := getB' kX12_declare_0 11 rfl
def LX12_declare_1 : List (Nat × Instr × Nat) := [(24, .invokestatic 371, 3), (27, .ifCond .ne 5, 3), (30, .iconst 0, 1), (31, .ireturn, 1), (32, .aload_n 0, 1), (33, .getfield 68, 3), (36, .iload_n 1, 1), (37, .iload_n 2, 1), (38, .iastore, 1), (39, .aload_n 0, 1), (40, .getfield 71, 3), (43, .iload_n 1, 1)]
theorem kX12_declare_1 : chkB cX12_declare LX12_declare_1 = true := by decide +kernel
theorem dX12_declare_24 : decode cX12_declare 24 = .ok (.invokestatic 371, 3) := getB' kX12_declare_1 0 rfl
theorem dX12_declare_27 : decode cX12_declare 27 = .ok (.ifCond .ne 5, 3) := getB' kX12_declare_1 1 rfl
theorem dX12_declare_30 : decode cX12_declare 30 = .ok (.iconst 0, 1) := getB' kX12_declare_1 2 rfl
theorem dX12_declare_31 : decode cX12_declare 31 = .ok (.ireturn, 1) := getB' kX12_declare_1 3 rfl
theorem dX12_declare_32 : decode cX12_declare 32 = .ok (.aload_n 0, 1) := getB' kX12_declare_1 4 rfl
theorem dX12_declare_33 : decode cX12_declare 33 = .ok (.getfield 68, 3) := getB' kX12_declare_1 5 rfl
theorem dX12_declare_36 : decode cX12_declare 36 = .ok (.iload_n 1, 1) := getB' kX12_declare_1 6 rfl
theorem dX12_declare_37 : decode cX12_declare 37 = .ok (.iload_n 2, 1) := getB' kX12_declare_1 7 rfl
theorem dX12_declare_38 : decode cX12_declare 38 = .ok (.iastore, 1) := getB' kX12_declare_1 8 rfl
theorem dX12_declare_39 : decode cX12_declare 39 = .ok (.aload_n 0, 1) := getB' kX12_declare_1 9 rfl
theorem dX12_declare_40 : decode cX12_declare 40 = .ok (.getfield 71, 3) := getB' kX12_declare_1 10 rfl
theorem dX12_declare_43 : decode cX12_declare 43 = .ok (.iload_n 1, 1) := getB' kX12_declare_1 11 rfl
def LX12_declare_2 : List (Nat × Instr × Nat) := [(44, .iload_n 3, 1), (45, .iastore, 1), (46, .iconst 1, 1), (47, .ireturn, 1)]
theorem kX12_declare_2 : chkB cX12_declare LX12_declare_2 = true := by decide +kernel
theorem dX12_declare_44 : decode cX12_declare 44 = .ok (.iload_n 3, 1) := getB' kX12_declare_2 0 rfl
theorem dX12_declare_45 : decode cX12_declare 45 = .ok (.iastore, 1) := getB' kX12_declare_2 1 rfl
theorem dX12_declare_46 : decode cX12_declare 46 = .ok (.iconst 1, 1) := getB' kX12_declare_2 2 rfl
theorem dX12_declare_47 : decode cX12_declare 47 = .ok (.ireturn, 1) := getB' kX12_declare_2 3 rfl
def LX12_visit_0 : List (Nat × Instr × Nat) := [(0, .aload_n 0, 1), (1, .iload_n 1, 1), (2, .invokevirtual 406, 3), (5, .ifCond .eq 42, 3), (8, .aload_n 0, 1), (9, .iload_n 2, 1), (10, .invokevirtual 433, 3), (13, .ifCond .eq 34, 3), (16, .aload_n 0, 1), (17, .getfield 38, 3), (20, .iload_n 2, 1), (21, .iaload, 1)]
theorem kX12_visit_0 : chkB cX12_visit LX12_visit_0 = true := by decide +kernel
theorem dX12_visit_0 : decode cX12_visit 0 = .ok (.aload_n 0, 1) := getB' kX12_visit_0 0 rfl
theorem dX12_visit_1 : decode cX12_visit 1 = .ok (.iload_n 1, 1) := getB' kX12_visit_0 1 rfl
theorem dX12_visit_2 : decode cX12_visit 2 = .ok (.invokevirtual 406, 3) := getB' kX12_visit_0 2 rfl
theorem dX12_visit_5 : decode cX12_visit 5 = .ok (.ifCond .eq 42, 3) := getB' kX12_visit_0 3 rfl
theorem dX12_visit_8 : decode cX12_visit 8 = .ok (.aload_n 0, 1) := getB' kX12_visit_0 4 rfl
theorem dX12_visit_9 : decode cX12_visit 9 = .ok (.iload_n 2, 1) := getB' kX12_visit_0 5 rfl
theorem dX12_visit_10 : decode cX12_visit 10 = .ok (.invokevirtual 433, 3) := getB' kX12_visit_0 6 rfl
theorem dX12_visit_13 : decode cX12_visit 13 = .ok (.ifCond .eq 34, 3) := getB' kX12_visit_0 7 rfl
theorem dX12_visit_16 : decode cX12_visit 16 = .ok (.aload_n 0, 1) := getB' kX12_visit_0 8 rfl
theorem dX12_visit_17 : decode cX12_visit 17 = .ok (.getfield 38, 3) := getB' kX12_visit_0 9 rfl
theorem dX12_visit_20 : decode cX12_visit 20 = .ok (.iload_n 2, 1) := getB' kX12_visit_0 10 rfl
theorem dX12_visit_21 : decode cX12_visit 21 = .ok (.iaload, 1) := getB' kX12_visit_0 11 rfl
def LX12_visit_1 : List (Nat × Instr × Nat) := [(22, .iload_n 1, 1), (23, .if_icmp .eq 24, 3), (26, .aload_n 0, 1), (27, .iload_n 1, 1), (28, .aload_n 0, 1), (29, .getfield 396, 3), (32, .invokevirtual 412, 3), (35, .ifCond .eq 12, 3), (38, .aload_n 0, 1), (39, .getfield 660, 3), (42, .bipush 60, 2), (44, .if_icmp .ne 5, 3)]
theorem kX12_visit_1 : chkB cX12_visit LX12_visit_1 = true := by decide +kernel
theorem dX12_visit_22 : decode cX12_visit 22 = .ok (.iload_n 1, 1) := getB' kX12_visit_1 0 rfl
theorem dX12_visit_23 : decode cX12_visit 23 = .ok (.if_icmp .eq 24, 3) := getB' kX12_visit_1 1 rfl
theorem dX12_visit_26 : decode cX12_visit 26 = .ok (.aload_n 0, 1) := getB' kX12_visit_1 2 rfl
theorem dX12_visit_27 : decode cX12_visit 27 = .ok (.iload_n 1, 1) := getB' kX12_visit_1 3 rfl
theorem dX12_visit_28 : decode cX12_visit 28 = .ok (.aload_n 0, 1) := getB' kX12_visit_1 4 rfl
theorem dX12_visit_29 : decode cX12_visit 29 = .ok (.getfield 396, 3) := getB' kX12_visit_1 5 rfl
theorem dX12_visit_32 : decode cX12_visit 32 = .ok (.invokevirtual 412, 3) := getB' kX12_visit_1 6 rfl
theorem dX12_visit_35 : decode cX12_visit 35 = .ok (.ifCond .eq 12, 3) := getB' kX12_visit_1 7 rfl
theorem dX12_visit_38 : decode cX12_visit 38 = .ok (.aload_n 0, 1) := getB' kX12_visit_1 8 rfl
theorem dX12_visit_39 : decode cX12_visit 39 = .ok (.getfield 660, 3) := getB' kX12_visit_1 9 rfl
theorem dX12_visit_42 : decode cX12_visit 42 = .ok (.bipush 60, 2) := getB' kX12_visit_1 10 rfl
theorem dX12_visit_44 : decode cX12_visit 44 = .ok (.if_icmp .ne 5, 3) := getB' kX12_visit_1 11 rfl
def LX12_visit_2 : List (Nat × Instr × Nat) := [(47, .iconst (-1), 1), (48, .ireturn, 1), (49, .aload_n 0, 1), (50, .getfield 262, 3), (53, .aload_n 0, 1), (54, .getfield 660, 3), (57, .iload_n 1, 1), (58, .iastore, 1), (59, .aload_n 0, 1), (60, .getfield 265, 3), (63, .aload_n 0, 1), (64, .getfield 660, 3)]
theorem kX12_visit_2 : chkB cX12_visit LX12_visit_2 = true := by decide +kernel
theorem dX12_visit_47 : decode cX12_visit 47 = .ok (.iconst (-1), 1) := getB' kX12_visit_2 0 rfl
theorem dX12_visit_48 : decode cX12_visit 48 = .ok (.ireturn, 1) := getB' kX12_visit_2 1 rfl
theorem dX12_visit_49 : decode cX12_visit 49 = .ok (.aload_n 0, 1) := getB' kX12_visit_2 2 rfl
theorem dX12_visit_50 : decode cX12_visit 50 = .ok (.getfield 262, 3) := getB' kX12_visit_2 3 rfl
theorem dX12_visit_53 : decode cX12_visit 53 = .ok (.aload_n 0, 1) := getB' kX12_visit_2 4 rfl
theorem dX12_visit_54 : decode cX12_visit 54 = .ok (.getfield 660, 3) := getB' kX12_visit_2 5 rfl
theorem dX12_visit_57 : decode cX12_visit 57 = .ok (.iload_n 1, 1) := getB' kX12_visit_2 6 rfl
theorem dX12_visit_58 : decode cX12_visit 58 = .ok (.iastore, 1) := getB' kX12_visit_2 7 rfl
theorem dX12_visit_59 : decode cX12_visit 59 = .ok (.aload_n 0, 1) := getB' kX12_visit_2 8 rfl
theorem dX12_visit_60 : decode cX12_visit 60 = .ok (.getfield 265, 3) := getB' kX12_visit_2 9 rfl
theorem dX12_visit_63 : decode cX12_visit 63 = .ok (.aload_n 0, 1) := getB' kX12_visit_2 10 rfl
theorem dX12_visit_64 : decode cX12_visit 64 = .ok (.getfield 660, 3) := getB' kX12_visit_2 11 rfl
def LX12_visit_3 : List (Nat × Instr × Nat) := [(67, .iload_n 2, 1), (68, .iastore, 1), (69, .aload_n 0, 1), (70, .getfield 268, 3), (73, .aload_n 0, 1), (74, .getfield 660, 3), (77, .aload_n 0, 1), (78, .getfield 396, 3), (81, .iastore, 1), (82, .aload_n 0, 1), (83, .getfield 271, 3), (86, .aload_n 0, 1)]
theorem kX12_visit_3 : chkB cX12_visit LX12_visit_3 = true := by decide +kernel
theorem dX12_visit_67 : decode cX12_visit 67 = .ok (.iload_n 2, 1) := getB' kX12_visit_3 0 rfl
theorem dX12_visit_68 : decode cX12_visit 68 = .ok (.iastore, 1) := getB' kX12_visit_3 1 rfl
theorem dX12_visit_69 : decode cX12_visit 69 = .ok (.aload_n 0, 1) := getB' kX12_visit_3 2 rfl
theorem dX12_visit_70 : decode cX12_visit 70 = .ok (.getfield 268, 3) := getB' kX12_visit_3 3 rfl
theorem dX12_visit_73 : decode cX12_visit 73 = .ok (.aload_n 0, 1) := getB' kX12_visit_3 4 rfl
theorem dX12_visit_74 : decode cX12_visit 74 = .ok (.getfield 660, 3) := getB' kX12_visit_3 5 rfl
theorem dX12_visit_77 : decode cX12_visit 77 = .ok (.aload_n 0, 1) := getB' kX12_visit_3 6 rfl
theorem dX12_visit_78 : decode cX12_visit 78 = .ok (.getfield 396, 3) := getB' kX12_visit_3 7 rfl
theorem dX12_visit_81 : decode cX12_visit 81 = .ok (.iastore, 1) := getB' kX12_visit_3 8 rfl
theorem dX12_visit_82 : decode cX12_visit 82 = .ok (.aload_n 0, 1) := getB' kX12_visit_3 9 rfl
theorem dX12_visit_83 : decode cX12_visit 83 = .ok (.getfield 271, 3) := getB' kX12_visit_3 10 rfl
theorem dX12_visit_86 : decode cX12_visit 86 = .ok (.aload_n 0, 1) := getB' kX12_visit_3 11 rfl
def LX12_visit_4 : List (Nat × Instr × Nat) := [(87, .getfield 660, 3), (90, .aload_n 0, 1), (91, .getfield 53, 3), (94, .iload_n 2, 1), (95, .iaload, 1), (96, .aload_n 0, 1), (97, .getfield 68, 3), (100, .iload_n 2, 1), (101, .iaload, 1), (102, .isub, 1), (103, .iastore, 1), (104, .aload_n 0, 1)]
theorem kX12_visit_4 : chkB cX12_visit LX12_visit_4 = true := by decide +kernel
theorem dX12_visit_87 : decode cX12_visit 87 = .ok (.getfield 660, 3) := getB' kX12_visit_4 0 rfl
theorem dX12_visit_90 : decode cX12_visit 90 = .ok (.aload_n 0, 1) := getB' kX12_visit_4 1 rfl
theorem dX12_visit_91 : decode cX12_visit 91 = .ok (.getfield 53, 3) := getB' kX12_visit_4 2 rfl
theorem dX12_visit_94 : decode cX12_visit 94 = .ok (.iload_n 2, 1) := getB' kX12_visit_4 3 rfl
theorem dX12_visit_95 : decode cX12_visit 95 = .ok (.iaload, 1) := getB' kX12_visit_4 4 rfl
theorem dX12_visit_96 : decode cX12_visit 96 = .ok (.aload_n 0, 1) := getB' kX12_visit_4 5 rfl
theorem dX12_visit_97 : decode cX12_visit 97 = .ok (.getfield 68, 3) := getB' kX12_visit_4 6 rfl
theorem dX12_visit_100 : decode cX12_visit 100 = .ok (.iload_n 2, 1) := getB' kX12_visit_4 7 rfl
theorem dX12_visit_101 : decode cX12_visit 101 = .ok (.iaload, 1) := getB' kX12_visit_4 8 rfl
theorem dX12_visit_102 : decode cX12_visit 102 = .ok (.isub, 1) := getB' kX12_visit_4 9 rfl
theorem dX12_visit_103 : decode cX12_visit 103 = .ok (.iastore, 1) := getB' kX12_visit_4 10 rfl
theorem dX12_visit_104 : decode cX12_visit 104 = .ok (.aload_n 0, 1) := getB' kX12_visit_4 11 rfl
def LX12_visit_5 : List (Nat × Instr × Nat) := [(105, .getfield 274, 3), (108, .aload_n 0, 1), (109, .getfield 660, 3), (112, .aload_n 0, 1), (113, .getfield 56, 3), (116, .iload_n 2, 1), (117, .iaload, 1), (118, .aload_n 0, 1), (119, .getfield 71, 3), (122, .iload_n 2, 1), (123, .iaload, 1), (124, .isub, 1)]
theorem kX12_visit_5 : chkB cX12_visit LX12_visit_5 = true := by decide +kernel
theorem dX12_visit_105 : decode cX12_visit 105 = .ok (.getfield 274, 3) := getB' kX12_visit_5 0 rfl
theorem dX12_visit_108 : decode cX12_visit 108 = .ok (.aload_n 0, 1) := getB' kX12_visit_5 1 rfl
theorem dX12_visit_109 : decode cX12_visit 109 = .ok (.getfield 660, 3) := getB' kX12_visit_5 2 rfl
theorem dX12_visit_112 : decode cX12_visit 112 = .ok (.aload_n 0, 1) := getB' kX12_visit_5 3 rfl
theorem dX12_visit_113 : decode cX12_visit 113 = .ok (.getfield 56, 3) := getB' kX12_visit_5 4 rfl
theorem dX12_visit_116 : decode cX12_visit 116 = .ok (.iload_n 2, 1) := getB' kX12_visit_5 5 rfl
theorem dX12_visit_117 : decode cX12_visit 117 = .ok (.iaload, 1) := getB' kX12_visit_5 6 rfl
theorem dX12_visit_118 : decode cX12_visit 118 = .ok (.aload_n 0, 1) := getB' kX12_visit_5 7 rfl
theorem dX12_visit_119 : decode cX12_visit 119 = .ok (.getfield 71, 3) := getB' kX12_visit_5 8 rfl
theorem dX12_visit_122 : decode cX12_visit 122 = .ok (.iload_n 2, 1) := getB' kX12_visit_5 9 rfl
theorem dX12_visit_123 : decode cX12_visit 123 = .ok (.iaload, 1) := getB' kX12_visit_5 10 rfl
theorem dX12_visit_124 : decode cX12_visit 124 = .ok (.isub, 1) := getB' kX12_visit_5 11 rfl
def LX12_visit_6 : List (Nat × Instr × Nat) := [(125, .iastore, 1), (126, .aload_n 0, 1), (127, .aload_n 0, 1), (128, .getfield 660, 3), (131, .iconst 1, 1), (132, .iadd, 1), (133, .putfield 660, 3), (136, .aload_n 0, 1), (137, .getfield 660, 3), (140, .iconst 1, 1), (141, .isub, 1), (142, .ireturn, 1)]
theorem kX12_visit_6 : chkB cX12_visit LX12_visit_6 = true := by decide +kernel
theorem dX12_visit_125 : decode cX12_visit 125 = .ok (.iastore, 1) := getB' kX12_visit_6 0 rfl
theorem dX12_visit_126 : decode cX12_visit 126 = .ok (.aload_n 0, 1) := getB' kX12_visit_6 1 rfl
theorem dX12_visit_127 : decode cX12_visit 127 = .ok (.aload_n 0, 1) := getB' kX12_visit_6 2 rfl
theorem dX12_visit_128 : decode cX12_visit 128 = .ok (.getfield 660, 3) := getB' kX12_visit_6 3 rfl
theorem dX12_visit_131 : decode cX12_visit 131 = .ok (.iconst 1, 1) := getB' kX12_visit_6 4 rfl
theorem dX12_visit_132 : decode cX12_visit 132 = .ok (.iadd, 1) := getB' kX12_visit_6 5 rfl
theorem dX12_visit_133 : decode cX12_visit 133 = .ok (.putfield 660, 3) := getB' kX12_visit_6 6 rfl
theorem dX12_visit_136 : decode cX12_visit 136 = .ok (.aload_n 0, 1) := getB' kX12_visit_6 7 rfl
theorem dX12_visit_137 : decode cX12_visit 137 = .ok (.getfield 660, 3) := getB' kX12_visit_6 8 rfl
theorem dX12_visit_140 : decode cX12_visit 140 = .ok (.iconst 1, 1) := getB' kX12_visit_6 9 rfl
theorem dX12_visit_141 : decode cX12_visit 141 = .ok (.isub, 1) := getB' kX12_visit_6 10 rfl
theorem dX12_visit_142 : decode cX12_visit 142 = .ok (.ireturn, 1) := getB' kX12_visit_6 11 rfl
def LX12_seen_0 : List (Nat × Instr × Nat) := [(0, .iload_n 1, 1), (1, .ifCond .lt 11, 3), (4, .iload_n 1, 1), (5, .aload_n 0, 1), (6, .getfield 660, 3), (9, .if_icmp .lt 7, 3), (12, .ldc_w 663, 3), (15, .ireturn, 1), (16, .iload_n 2, 1), (17, .tableswitch 70 0 4 #[35, 42, 49, 56, 63], 35), (52, .aload_n 0, 1), (53, .getfield 262, 3)]
theorem kX12_seen_0 : chkB cX12_seen LX12_seen_0 = true := by decide +kernel
theorem dX12_seen_0 : decode cX12_seen 0 = .ok (.iload_n 1, 1) := getB' kX12_seen_0 0 rfl
theorem dX12_seen_1 : decode cX12_seen 1 = .ok (.ifCond .lt 11, 3) := getB' kX12_seen_0 1 rfl
theorem dX12_seen_4 : decode cX12_seen 4 = .ok (.iload_n 1, 1) := getB' kX12_seen_0 2 rfl
theorem dX12_seen_5 : decode cX12_seen 5 = .ok (.aload_n 0, 1) := getB' kX12_seen_0 3 rfl
theorem dX12_seen_6 : decode cX12_seen 6 = .ok (.getfield 660, 3) := getB' kX12_seen_0 4 rfl
theorem dX12_seen_9 : decode cX12_seen 9 = .ok (.if_icmp .lt 7, 3) := getB' kX12_seen_0 5 rfl
theorem dX12_seen_12 : decode cX12_seen 12 = .ok (.ldc_w 663, 3) := getB' kX12_seen_0 6 rfl
theorem dX12_seen_15 : decode cX12_seen 15 = .ok (.ireturn, 1) := getB' kX12_seen_0 7 rfl
theorem dX12_seen_16 : decode cX12_seen 16 = .ok (.iload_n 2, 1) := getB' kX12_seen_0 8 rfl
theorem dX12_seen_17 : decode cX12_seen 17 = .ok (.tableswitch 70 0 4 #[35, 42, 49, 56, 63], 35) := getB' kX12_seen_0 9 rfl
theorem dX12_seen_52 : decode cX12_seen 52 = .ok (.aload_n 0, 1) := getB' kX12_seen_0 10 rfl
theorem dX12_seen_53 : decode cX12_seen 53 = .ok (.getfield 262, 3) := getB' kX12_seen_0 11 rfl
def LX12_seen_1 : List (Nat × Instr × Nat) := [(56, .iload_n 1, 1), (57, .iaload, 1), (58, .ireturn, 1), (59, .aload_n 0, 1), (60, .getfield 265, 3), (63, .iload_n 1, 1), (64, .iaload, 1), (65, .ireturn, 1), (66, .aload_n 0, 1), (67, .getfield 268, 3), (70, .iload_n 1, 1), (71, .iaload, 1)]
theorem kX12_seen_1 : chkB cX12_seen LX12_seen_1 = true := by decide +kernel
theorem dX12_seen_56 : decode cX12_seen 56 = .ok (.iload_n 1, 1) := getB' kX12_seen_1 0 rfl
theorem dX12_seen_57 : decode cX12_seen 57 = .ok (.iaload, 1) := getB' kX12_seen_1 1 rfl
theorem dX12_seen_58 : decode cX12_seen 58 = .ok (.ireturn, 1) := getB' kX12_seen_1 2 rfl
theorem dX12_seen_59 : decode cX12_seen 59 = .ok (.aload_n 0, 1) := getB' kX12_seen_1 3 rfl
theorem dX12_seen_60 : decode cX12_seen 60 = .ok (.getfield 265, 3) := getB' kX12_seen_1 4 rfl
theorem dX12_seen_63 : decode cX12_seen 63 = .ok (.iload_n 1, 1) := getB' kX12_seen_1 5 rfl
theorem dX12_seen_64 : decode cX12_seen 64 = .ok (.iaload, 1) := getB' kX12_seen_1 6 rfl
theorem dX12_seen_65 : decode cX12_seen 65 = .ok (.ireturn, 1) := getB' kX12_seen_1 7 rfl
theorem dX12_seen_66 : decode cX12_seen 66 = .ok (.aload_n 0, 1) := getB' kX12_seen_1 8 rfl
theorem dX12_seen_67 : decode cX12_seen 67 = .ok (.getfield 268, 3) := getB' kX12_seen_1 9 rfl
theorem dX12_seen_70 : decode cX12_seen 70 = .ok (.iload_n 1, 1) := getB' kX12_seen_1 10 rfl
theorem dX12_seen_71 : decode cX12_seen 71 = .ok (.iaload, 1) := getB' kX12_seen_1 11 rfl
def LX12_seen_2 : List (Nat × Instr × Nat) := [(72, .ireturn, 1), (73, .aload_n 0, 1), (74, .getfield 271, 3), (77, .iload_n 1, 1), (78, .iaload, 1), (79, .ireturn, 1), (80, .aload_n 0, 1), (81, .getfield 274, 3), (84, .iload_n 1, 1), (85, .iaload, 1), (86, .ireturn, 1), (87, .ldc_w 663, 3)]
theorem kX12_seen_2 : chkB cX12_seen LX12_seen_2 = true := by decide +kernel
theorem dX12_seen_72 : decode cX12_seen 72 = .ok (.ireturn, 1) := getB' kX12_seen_2 0 rfl
theorem dX12_seen_73 : decode cX12_seen 73 = .ok (.aload_n 0, 1) := getB' kX12_seen_2 1 rfl
theorem dX12_seen_74 : decode cX12_seen 74 = .ok (.getfield 271, 3) := getB' kX12_seen_2 2 rfl
theorem dX12_seen_77 : decode cX12_seen 77 = .ok (.iload_n 1, 1) := getB' kX12_seen_2 3 rfl
theorem dX12_seen_78 : decode cX12_seen 78 = .ok (.iaload, 1) := getB' kX12_seen_2 4 rfl
theorem dX12_seen_79 : decode cX12_seen 79 = .ok (.ireturn, 1) := getB' kX12_seen_2 5 rfl
theorem dX12_seen_80 : decode cX12_seen 80 = .ok (.aload_n 0, 1) := getB' kX12_seen_2 6 rfl
theorem dX12_seen_81 : decode cX12_seen 81 = .ok (.getfield 274, 3) := getB' kX12_seen_2 7 rfl
theorem dX12_seen_84 : decode cX12_seen 84 = .ok (.iload_n 1, 1) := getB' kX12_seen_2 8 rfl
theorem dX12_seen_85 : decode cX12_seen 85 = .ok (.iaload, 1) := getB' kX12_seen_2 9 rfl
theorem dX12_seen_86 : decode cX12_seen 86 = .ok (.ireturn, 1) := getB' kX12_seen_2 10 rfl
theorem dX12_seen_87 : decode cX12_seen 87 = .ok (.ldc_w 663, 3) := getB' kX12_seen_2 11 rfl
def LX12_seen_3 : List (Nat × Instr × Nat) := [(90, .ireturn, 1)]
theorem kX12_seen_3 : chkB cX12_seen LX12_seen_3 = true := by decide +kernel
theorem dX12_seen_90 : decode cX12_seen 90 = .ok (.ireturn, 1) := getB' kX12_seen_3 0 rfl
def LX12_worksGo_0 : List (Nat × Instr × Nat) := [(0, .iconst 0, 1), (1, .istore_n 1, 1), (2, .iload_n 1, 1), (3, .aload_n 0, 1), (4, .getfield 378, 3), (7, .if_icmp .ge 151, 3), (10, .aload_n 0, 1), (11, .getfield 396, 3), (14, .aload_n 0, 1), (15, .getfield 172, 3), (18, .iload_n 1, 1), (19, .iaload, 1)]
theorem kX12_worksGo_0 : chkB cX12_worksGo LX12_worksGo_0 = true := by decide +kernel
theorem dX12_worksGo_0 : decode cX12_worksGo 0 = .ok (.iconst 0, 1) := getB' kX12_worksGo_0 0 rfl
theorem dX12_worksGo_1 : decode cX12_worksGo 1 = .ok (.istore_n 1, 1) := getB' kX12_worksGo_0 1 rfl
theorem dX12_worksGo_2 : decode cX12_worksGo 2 = .ok (.iload_n 1, 1) := getB' kX12_worksGo_0 2 rfl
theorem dX12_worksGo_3 : decode cX12_worksGo 3 = .ok (.aload_n 0, 1) := getB' kX12_worksGo_0 3 rfl
theorem dX12_worksGo_4 : decode cX12_worksGo 4 = .ok (.getfield 378, 3) := getB' kX12_worksGo_0 4 rfl
theorem dX12_worksGo_7 : decode cX12_worksGo 7 = .ok (.if_icmp .ge 151, 3) := getB' kX12_worksGo_0 5 rfl
theorem dX12_worksGo_10 : decode cX12_worksGo 10 = .ok (.aload_n 0, 1) := getB' kX12_worksGo_0 6 rfl
theorem dX12_worksGo_11 : decode cX12_worksGo 11 = .ok (.getfield 396, 3) := getB' kX12_worksGo_0 7 rfl
theorem dX12_worksGo_14 : decode cX12_worksGo 14 = .ok (.aload_n 0, 1) := getB' kX12_worksGo_0 8 rfl
theorem dX12_worksGo_15 : decode cX12_worksGo 15 = .ok (.getfield 172, 3) := getB' kX12_worksGo_0 9 rfl
theorem dX12_worksGo_18 : decode cX12_worksGo 18 = .ok (.iload_n 1, 1) := getB' kX12_worksGo_0 10 rfl
theorem dX12_worksGo_19 : decode cX12_worksGo 19 = .ok (.iaload, 1) := getB' kX12_worksGo_0 11 rfl
def LX12_worksGo_1 : List (Nat × Instr × Nat) := [(20, .aload_n 0, 1), (21, .getfield 175, 3), (24, .iload_n 1, 1), (25, .iaload, 1), (26, .invokestatic 371, 3), (29, .ifCond .ne 6, 3), (32, .goto 120, 3), (35, .aload_n 0, 1), (36, .iload_n 1, 1), (37, .aload_n 0, 1), (38, .getfield 396, 3), (41, .iconst 0, 1)]
theorem kX12_worksGo_1 : chkB cX12_worksGo LX12_worksGo_1 = true := by decide +kernel
theorem dX12_worksGo_20 : decode cX12_worksGo 20 = .ok (.aload_n 0, 1) := getB' kX12_worksGo_1 0 rfl
theorem dX12_worksGo_21 : decode cX12_worksGo 21 = .ok (.getfield 175, 3) := getB' kX12_worksGo_1 1 rfl
theorem dX12_worksGo_24 : decode cX12_worksGo 24 = .ok (.iload_n 1, 1) := getB' kX12_worksGo_1 2 rfl
theorem dX12_worksGo_25 : decode cX12_worksGo 25 = .ok (.iaload, 1) := getB' kX12_worksGo_1 3 rfl
theorem dX12_worksGo_26 : decode cX12_worksGo 26 = .ok (.invokestatic 371, 3) := getB' kX12_worksGo_1 4 rfl
theorem dX12_worksGo_29 : decode cX12_worksGo 29 = .ok (.ifCond .ne 6, 3) := getB' kX12_worksGo_1 5 rfl
theorem dX12_worksGo_32 : decode cX12_worksGo 32 = .ok (.goto 120, 3) := getB' kX12_worksGo_1 6 rfl
theorem dX12_worksGo_35 : decode cX12_worksGo 35 = .ok (.aload_n 0, 1) := getB' kX12_worksGo_1 7 rfl
theorem dX12_worksGo_36 : decode cX12_worksGo 36 = .ok (.iload_n 1, 1) := getB' kX12_worksGo_1 8 rfl
theorem dX12_worksGo_37 : decode cX12_worksGo 37 = .ok (.aload_n 0, 1) := getB' kX12_worksGo_1 9 rfl
theorem dX12_worksGo_38 : decode cX12_worksGo 38 = .ok (.getfield 396, 3) := getB' kX12_worksGo_1 10 rfl
theorem dX12_worksGo_41 : decode cX12_worksGo 41 = .ok (.iconst 0, 1) := getB' kX12_worksGo_1 11 rfl
def LX12_worksGo_2 : List (Nat × Instr × Nat) := [(42, .invokevirtual 608, 3), (45, .ifCond .eq 20, 3), (48, .aload_n 0, 1), (49, .getfield 187, 3), (52, .iload_n 1, 1), (53, .aload_n 0, 1), (54, .getfield 187, 3), (57, .iload_n 1, 1), (58, .iaload, 1), (59, .iconst 1, 1), (60, .iadd, 1), (61, .iastore, 1)]
theorem kX12_worksGo_2 : chkB cX12_worksGo LX12_worksGo_2 = true := by decide +kernel
theorem dX12_worksGo_42 : decode cX12_worksGo 42 = .ok (.invokevirtual 608, 3) := getB' kX12_worksGo_2 0 rfl
theorem dX12_worksGo_45 : decode cX12_worksGo 45 = .ok (.ifCond .eq 20, 3) := getB' kX12_worksGo_2 1 rfl
theorem dX12_worksGo_48 : decode cX12_worksGo 48 = .ok (.aload_n 0, 1) := getB' kX12_worksGo_2 2 rfl
theorem dX12_worksGo_49 : decode cX12_worksGo 49 = .ok (.getfield 187, 3) := getB' kX12_worksGo_2 3 rfl
theorem dX12_worksGo_52 : decode cX12_worksGo 52 = .ok (.iload_n 1, 1) := getB' kX12_worksGo_2 4 rfl
theorem dX12_worksGo_53 : decode cX12_worksGo 53 = .ok (.aload_n 0, 1) := getB' kX12_worksGo_2 5 rfl
theorem dX12_worksGo_54 : decode cX12_worksGo 54 = .ok (.getfield 187, 3) := getB' kX12_worksGo_2 6 rfl
theorem dX12_worksGo_57 : decode cX12_worksGo 57 = .ok (.iload_n 1, 1) := getB' kX12_worksGo_2 7 rfl
theorem dX12_worksGo_58 : decode cX12_worksGo 58 = .ok (.iaload, 1) := getB' kX12_worksGo_2 8 rfl
theorem dX12_worksGo_59 : decode cX12_worksGo 59 = .ok (.iconst 1, 1) := getB' kX12_worksGo_2 9 rfl
theorem dX12_worksGo_60 : decode cX12_worksGo 60 = .ok (.iadd, 1) := getB' kX12_worksGo_2 10 rfl
theorem dX12_worksGo_61 : decode cX12_worksGo 61 = .ok (.iastore, 1) := getB' kX12_worksGo_2 11 rfl
def LX12_worksGo_3 : List (Nat × Instr × Nat) := [(62, .goto 90, 3), (65, .aload_n 0, 1), (66, .getfield 184, 3), (69, .iload_n 1, 1), (70, .aload_n 0, 1), (71, .getfield 184, 3), (74, .iload_n 1, 1), (75, .iaload, 1), (76, .iconst 1, 1), (77, .iadd, 1), (78, .iastore, 1), (79, .aload_n 0, 1)]
theorem kX12_worksGo_3 : chkB cX12_worksGo LX12_worksGo_3 = true := by decide +kernel
theorem dX12_worksGo_62 : decode cX12_worksGo 62 = .ok (.goto 90, 3) := getB' kX12_worksGo_3 0 rfl
theorem dX12_worksGo_65 : decode cX12_worksGo 65 = .ok (.aload_n 0, 1) := getB' kX12_worksGo_3 1 rfl
theorem dX12_worksGo_66 : decode cX12_worksGo 66 = .ok (.getfield 184, 3) := getB' kX12_worksGo_3 2 rfl
theorem dX12_worksGo_69 : decode cX12_worksGo 69 = .ok (.iload_n 1, 1) := getB' kX12_worksGo_3 3 rfl
theorem dX12_worksGo_70 : decode cX12_worksGo 70 = .ok (.aload_n 0, 1) := getB' kX12_worksGo_3 4 rfl
theorem dX12_worksGo_71 : decode cX12_worksGo 71 = .ok (.getfield 184, 3) := getB' kX12_worksGo_3 5 rfl
theorem dX12_worksGo_74 : decode cX12_worksGo 74 = .ok (.iload_n 1, 1) := getB' kX12_worksGo_3 6 rfl
theorem dX12_worksGo_75 : decode cX12_worksGo 75 = .ok (.iaload, 1) := getB' kX12_worksGo_3 7 rfl
theorem dX12_worksGo_76 : decode cX12_worksGo 76 = .ok (.iconst 1, 1) := getB' kX12_worksGo_3 8 rfl
theorem dX12_worksGo_77 : decode cX12_worksGo 77 = .ok (.iadd, 1) := getB' kX12_worksGo_3 9 rfl
theorem dX12_worksGo_78 : decode cX12_worksGo 78 = .ok (.iastore, 1) := getB' kX12_worksGo_3 10 rfl
theorem dX12_worksGo_79 : decode cX12_worksGo 79 = .ok (.aload_n 0, 1) := getB' kX12_worksGo_3 11 rfl
def LX12_worksGo_4 : List (Nat × Instr × Nat) := [(80, .getfield 32, 3), (83, .aload_n 0, 1), (84, .getfield 166, 3), (87, .iload_n 1, 1), (88, .iaload, 1), (89, .aload_n 0, 1), (90, .getfield 32, 3), (93, .aload_n 0, 1), (94, .getfield 166, 3), (97, .iload_n 1, 1), (98, .iaload, 1), (99, .iaload, 1)]
theorem kX12_worksGo_4 : chkB cX12_worksGo LX12_worksGo_4 = true := by decide +kernel
theorem dX12_worksGo_80 : decode cX12_worksGo 80 = .ok (.getfield 32, 3) := getB' kX12_worksGo_4 0 rfl
theorem dX12_worksGo_83 : decode cX12_worksGo 83 = .ok (.aload_n 0, 1) := getB' kX12_worksGo_4 1 rfl
theorem dX12_worksGo_84 : decode cX12_worksGo 84 = .ok (.getfield 166, 3) := getB' kX12_worksGo_4 2 rfl
theorem dX12_worksGo_87 : decode cX12_worksGo 87 = .ok (.iload_n 1, 1) := getB' kX12_worksGo_4 3 rfl
theorem dX12_worksGo_88 : decode cX12_worksGo 88 = .ok (.iaload, 1) := getB' kX12_worksGo_4 4 rfl
theorem dX12_worksGo_89 : decode cX12_worksGo 89 = .ok (.aload_n 0, 1) := getB' kX12_worksGo_4 5 rfl
theorem dX12_worksGo_90 : decode cX12_worksGo 90 = .ok (.getfield 32, 3) := getB' kX12_worksGo_4 6 rfl
theorem dX12_worksGo_93 : decode cX12_worksGo 93 = .ok (.aload_n 0, 1) := getB' kX12_worksGo_4 7 rfl
theorem dX12_worksGo_94 : decode cX12_worksGo 94 = .ok (.getfield 166, 3) := getB' kX12_worksGo_4 8 rfl
theorem dX12_worksGo_97 : decode cX12_worksGo 97 = .ok (.iload_n 1, 1) := getB' kX12_worksGo_4 9 rfl
theorem dX12_worksGo_98 : decode cX12_worksGo 98 = .ok (.iaload, 1) := getB' kX12_worksGo_4 10 rfl
theorem dX12_worksGo_99 : decode cX12_worksGo 99 = .ok (.iaload, 1) := getB' kX12_worksGo_4 11 rfl
def LX12_worksGo_5 : List (Nat × Instr × Nat) := [(100, .aload_n 0, 1), (101, .getfield 163, 3), (104, .iload_n 1, 1), (105, .iaload, 1), (106, .ifCond .ne 7, 3), (109, .iconst 1, 1), (110, .goto 4, 3), (113, .iconst 0, 1), (114, .iadd, 1), (115, .iastore, 1), (116, .aload_n 0, 1), (117, .iload_n 1, 1)]
theorem kX12_worksGo_5 : chkB cX12_worksGo LX12_worksGo_5 = true := by decide +kernel
theorem dX12_worksGo_100 : decode cX12_worksGo 100 = .ok (.aload_n 0, 1) := getB' kX12_worksGo_5 0 rfl
theorem dX12_worksGo_101 : decode cX12_worksGo 101 = .ok (.getfield 163, 3) := getB' kX12_worksGo_5 1 rfl
theorem dX12_worksGo_104 : decode cX12_worksGo 104 = .ok (.iload_n 1, 1) := getB' kX12_worksGo_5 2 rfl
theorem dX12_worksGo_105 : decode cX12_worksGo 105 = .ok (.iaload, 1) := getB' kX12_worksGo_5 3 rfl
theorem dX12_worksGo_106 : decode cX12_worksGo 106 = .ok (.ifCond .ne 7, 3) := getB' kX12_worksGo_5 4 rfl
theorem dX12_worksGo_109 : decode cX12_worksGo 109 = .ok (.iconst 1, 1) := getB' kX12_worksGo_5 5 rfl
theorem dX12_worksGo_110 : decode cX12_worksGo 110 = .ok (.goto 4, 3) := getB' kX12_worksGo_5 6 rfl
theorem dX12_worksGo_113 : decode cX12_worksGo 113 = .ok (.iconst 0, 1) := getB' kX12_worksGo_5 7 rfl
theorem dX12_worksGo_114 : decode cX12_worksGo 114 = .ok (.iadd, 1) := getB' kX12_worksGo_5 8 rfl
theorem dX12_worksGo_115 : decode cX12_worksGo 115 = .ok (.iastore, 1) := getB' kX12_worksGo_5 9 rfl
theorem dX12_worksGo_116 : decode cX12_worksGo 116 = .ok (.aload_n 0, 1) := getB' kX12_worksGo_5 10 rfl
theorem dX12_worksGo_117 : decode cX12_worksGo 117 = .ok (.iload_n 1, 1) := getB' kX12_worksGo_5 11 rfl
def LX12_worksGo_6 : List (Nat × Instr × Nat) := [(118, .invokevirtual 664, 3), (121, .iconst 0, 1), (122, .istore_n 2, 1), (123, .iload_n 2, 1), (124, .aload_n 0, 1), (125, .getfield 667, 3), (128, .if_icmp .ge 24, 3), (131, .aload_n 0, 1), (132, .getfield 295, 3), (135, .iload_n 2, 1), (136, .iaload, 1), (137, .iload_n 1, 1)]
theorem kX12_worksGo_6 : chkB cX12_worksGo LX12_worksGo_6 = true := by decide +kernel
theorem dX12_worksGo_118 : decode cX12_worksGo 118 = .ok (.invokevirtual 664, 3) := getB' kX12_worksGo_6 0 rfl
theorem dX12_worksGo_121 : decode cX12_worksGo 121 = .ok (.iconst 0, 1) := getB' kX12_worksGo_6 1 rfl
theorem dX12_worksGo_122 : decode cX12_worksGo 122 = .ok (.istore_n 2, 1) := getB' kX12_worksGo_6 2 rfl
theorem dX12_worksGo_123 : decode cX12_worksGo 123 = .ok (.iload_n 2, 1) := getB' kX12_worksGo_6 3 rfl
theorem dX12_worksGo_124 : decode cX12_worksGo 124 = .ok (.aload_n 0, 1) := getB' kX12_worksGo_6 4 rfl
theorem dX12_worksGo_125 : decode cX12_worksGo 125 = .ok (.getfield 667, 3) := getB' kX12_worksGo_6 5 rfl
theorem dX12_worksGo_128 : decode cX12_worksGo 128 = .ok (.if_icmp .ge 24, 3) := getB' kX12_worksGo_6 6 rfl
theorem dX12_worksGo_131 : decode cX12_worksGo 131 = .ok (.aload_n 0, 1) := getB' kX12_worksGo_6 7 rfl
theorem dX12_worksGo_132 : decode cX12_worksGo 132 = .ok (.getfield 295, 3) := getB' kX12_worksGo_6 8 rfl
theorem dX12_worksGo_135 : decode cX12_worksGo 135 = .ok (.iload_n 2, 1) := getB' kX12_worksGo_6 9 rfl
theorem dX12_worksGo_136 : decode cX12_worksGo 136 = .ok (.iaload, 1) := getB' kX12_worksGo_6 10 rfl
theorem dX12_worksGo_137 : decode cX12_worksGo 137 = .ok (.iload_n 1, 1) := getB' kX12_worksGo_6 11 rfl
def LX12_worksGo_7 : List (Nat × Instr × Nat) := [(138, .if_icmp .ne 8, 3), (141, .aload_n 0, 1), (142, .iload_n 2, 1), (143, .invokevirtual 670, 3), (146, .iinc 2 1, 3), (149, .goto (-26), 3), (152, .iinc 1 1, 3), (155, .goto (-153), 3), (158, .iconst 0, 1), (159, .istore_n 1, 1), (160, .iload_n 1, 1), (161, .aload_n 0, 1)]
theorem kX12_worksGo_7 : chkB cX12_worksGo LX12_worksGo_7 = true := by decide +kernel
theorem dX12_worksGo_138 : decode cX12_worksGo 138 = .ok (.if_icmp .ne 8, 3) := getB' kX12_worksGo_7 0 rfl
theorem dX12_worksGo_141 : decode cX12_worksGo 141 = .ok (.aload_n 0, 1) := getB' kX12_worksGo_7 1 rfl
theorem dX12_worksGo_142 : decode cX12_worksGo 142 = .ok (.iload_n 2, 1) := getB' kX12_worksGo_7 2 rfl
theorem dX12_worksGo_143 : decode cX12_worksGo 143 = .ok (.invokevirtual 670, 3) := getB' kX12_worksGo_7 3 rfl
theorem dX12_worksGo_146 : decode cX12_worksGo 146 = .ok (.iinc 2 1, 3) := getB' kX12_worksGo_7 4 rfl
theorem dX12_worksGo_149 : decode cX12_worksGo 149 = .ok (.goto (-26), 3) := getB' kX12_worksGo_7 5 rfl
theorem dX12_worksGo_152 : decode cX12_worksGo 152 = .ok (.iinc 1 1, 3) := getB' kX12_worksGo_7 6 rfl
theorem dX12_worksGo_155 : decode cX12_worksGo 155 = .ok (.goto (-153), 3) := getB' kX12_worksGo_7 7 rfl
theorem dX12_worksGo_158 : decode cX12_worksGo 158 = .ok (.iconst 0, 1) := getB' kX12_worksGo_7 8 rfl
theorem dX12_worksGo_159 : decode cX12_worksGo 159 = .ok (.istore_n 1, 1) := getB' kX12_worksGo_7 9 rfl
theorem dX12_worksGo_160 : decode cX12_worksGo 160 = .ok (.iload_n 1, 1) := getB' kX12_worksGo_7 10 rfl
theorem dX12_worksGo_161 : decode cX12_worksGo 161 = .ok (.aload_n 0, 1) := getB' kX12_worksGo_7 11 rfl
def LX12_worksGo_8 : List (Nat × Instr × Nat) := [(162, .getfield 393, 3), (165, .if_icmp .ge 60, 3), (168, .aload_n 0, 1), (169, .getfield 29, 3), (172, .iload_n 1, 1), (173, .iaload, 1), (174, .iconst (-1), 1), (175, .if_icmp .eq 6, 3), (178, .goto 41, 3), (181, .aload_n 0, 1), (182, .bipush 113, 2), (184, .iload_n 1, 1)]
theorem kX12_worksGo_8 : chkB cX12_worksGo LX12_worksGo_8 = true := by decide +kernel
theorem dX12_worksGo_162 : decode cX12_worksGo 162 = .ok (.getfield 393, 3) := getB' kX12_worksGo_8 0 rfl
theorem dX12_worksGo_165 : decode cX12_worksGo 165 = .ok (.if_icmp .ge 60, 3) := getB' kX12_worksGo_8 1 rfl
theorem dX12_worksGo_168 : decode cX12_worksGo 168 = .ok (.aload_n 0, 1) := getB' kX12_worksGo_8 2 rfl
theorem dX12_worksGo_169 : decode cX12_worksGo 169 = .ok (.getfield 29, 3) := getB' kX12_worksGo_8 3 rfl
theorem dX12_worksGo_172 : decode cX12_worksGo 172 = .ok (.iload_n 1, 1) := getB' kX12_worksGo_8 4 rfl
theorem dX12_worksGo_173 : decode cX12_worksGo 173 = .ok (.iaload, 1) := getB' kX12_worksGo_8 5 rfl
theorem dX12_worksGo_174 : decode cX12_worksGo 174 = .ok (.iconst (-1), 1) := getB' kX12_worksGo_8 6 rfl
theorem dX12_worksGo_175 : decode cX12_worksGo 175 = .ok (.if_icmp .eq 6, 3) := getB' kX12_worksGo_8 7 rfl
theorem dX12_worksGo_178 : decode cX12_worksGo 178 = .ok (.goto 41, 3) := getB' kX12_worksGo_8 8 rfl
theorem dX12_worksGo_181 : decode cX12_worksGo 181 = .ok (.aload_n 0, 1) := getB' kX12_worksGo_8 9 rfl
theorem dX12_worksGo_182 : decode cX12_worksGo 182 = .ok (.bipush 113, 2) := getB' kX12_worksGo_8 10 rfl
theorem dX12_worksGo_184 : decode cX12_worksGo 184 = .ok (.iload_n 1, 1) := getB' kX12_worksGo_8 11 rfl
def LX12_worksGo_9 : List (Nat × Instr × Nat) := [(185, .aload_n 0, 1), (186, .getfield 396, 3), (189, .iconst (-1), 1), (190, .invokevirtual 563, 3), (193, .istore_n 2, 1), (194, .iload_n 2, 1), (195, .iconst (-1), 1), (196, .if_icmp .eq 23, 3), (199, .aload_n 0, 1), (200, .getfield 32, 3), (203, .iload_n 1, 1), (204, .iaload, 1)]
theorem kX12_worksGo_9 : chkB cX12_worksGo LX12_worksGo_9 = true := by decide +kernel
theorem dX12_worksGo_185 : decode cX12_worksGo 185 = .ok (.aload_n 0, 1) := getB' kX12_worksGo_9 0 rfl
theorem dX12_worksGo_186 : decode cX12_worksGo 186 = .ok (.getfield 396, 3) := getB' kX12_worksGo_9 1 rfl
theorem dX12_worksGo_189 : decode cX12_worksGo 189 = .ok (.iconst (-1), 1) := getB' kX12_worksGo_9 2 rfl
theorem dX12_worksGo_190 : decode cX12_worksGo 190 = .ok (.invokevirtual 563, 3) := getB' kX12_worksGo_9 3 rfl
theorem dX12_worksGo_193 : decode cX12_worksGo 193 = .ok (.istore_n 2, 1) := getB' kX12_worksGo_9 4 rfl
theorem dX12_worksGo_194 : decode cX12_worksGo 194 = .ok (.iload_n 2, 1) := getB' kX12_worksGo_9 5 rfl
theorem dX12_worksGo_195 : decode cX12_worksGo 195 = .ok (.iconst (-1), 1) := getB' kX12_worksGo_9 6 rfl
theorem dX12_worksGo_196 : decode cX12_worksGo 196 = .ok (.if_icmp .eq 23, 3) := getB' kX12_worksGo_9 7 rfl
theorem dX12_worksGo_199 : decode cX12_worksGo 199 = .ok (.aload_n 0, 1) := getB' kX12_worksGo_9 8 rfl
theorem dX12_worksGo_200 : decode cX12_worksGo 200 = .ok (.getfield 32, 3) := getB' kX12_worksGo_9 9 rfl
theorem dX12_worksGo_203 : decode cX12_worksGo 203 = .ok (.iload_n 1, 1) := getB' kX12_worksGo_9 10 rfl
theorem dX12_worksGo_204 : decode cX12_worksGo 204 = .ok (.iaload, 1) := getB' kX12_worksGo_9 11 rfl
def LX12_worksGo_10 : List (Nat × Instr × Nat) := [(205, .iload_n 2, 1), (206, .if_icmp .lt 13, 3), (209, .aload_n 0, 1), (210, .getfield 29, 3), (213, .iload_n 1, 1), (214, .aload_n 0, 1), (215, .getfield 396, 3), (218, .iastore, 1), (219, .iinc 1 1, 3), (222, .goto (-62), 3), (225, .return_, 1)]
theorem kX12_worksGo_10 : chkB cX12_worksGo LX12_worksGo_10 = true := by decide +kernel
theorem dX12_worksGo_205 : decode cX12_worksGo 205 = .ok (.iload_n 2, 1) := getB' kX12_worksGo_10 0 rfl
theorem dX12_worksGo_206 : decode cX12_worksGo 206 = .ok (.if_icmp .lt 13, 3) := getB' kX12_worksGo_10 1 rfl
theorem dX12_worksGo_209 : decode cX12_worksGo 209 = .ok (.aload_n 0, 1) := getB' kX12_worksGo_10 2 rfl
theorem dX12_worksGo_210 : decode cX12_worksGo 210 = .ok (.getfield 29, 3) := getB' kX12_worksGo_10 3 rfl
theorem dX12_worksGo_213 : decode cX12_worksGo 213 = .ok (.iload_n 1, 1) := getB' kX12_worksGo_10 4 rfl
theorem dX12_worksGo_214 : decode cX12_worksGo 214 = .ok (.aload_n 0, 1) := getB' kX12_worksGo_10 5 rfl
theorem dX12_worksGo_215 : decode cX12_worksGo 215 = .ok (.getfield 396, 3) := getB' kX12_worksGo_10 6 rfl
theorem dX12_worksGo_218 : decode cX12_worksGo 218 = .ok (.iastore, 1) := getB' kX12_worksGo_10 7 rfl
theorem dX12_worksGo_219 : decode cX12_worksGo 219 = .ok (.iinc 1 1, 3) := getB' kX12_worksGo_10 8 rfl
theorem dX12_worksGo_222 : decode cX12_worksGo 222 = .ok (.goto (-62), 3) := getB' kX12_worksGo_10 9 rfl
theorem dX12_worksGo_225 : decode cX12_worksGo 225 = .ok (.return_, 1) := getB' kX12_worksGo_10 10 rfl
def LX12_sounds_0 : List (Nat × Instr × Nat) := [(0, .iconst 0, 1), (1, .istore_n 2, 1), (2, .iload_n 2, 1), (3, .aload_n 0, 1), (4, .getfield 375, 3), (7, .if_icmp .ge 104, 3), (10, .aload_n 0, 1), (11, .getfield 35, 3), (14, .iload_n 2, 1), (15, .iaload, 1), (16, .iconst 5, 1), (17, .if_icmp .ne 88, 3)]
theorem kX12_sounds_0 : chkB cX12_sounds LX12_sounds_0 = true := by decide +kernel
theorem dX12_sounds_0 : decode cX12_sounds 0 = .ok (.iconst 0, 1) := getB' kX12_sounds_0 0 rfl
theorem dX12_sounds_1 : decode cX12_sounds 1 = .ok (.istore_n 2, 1) := getB' kX12_sounds_0 1 rfl
theorem dX12_sounds_2 : decode cX12_sounds 2 = .ok (.iload_n 2, 1) := getB' kX12_sounds_0 2 rfl
theorem dX12_sounds_3 : decode cX12_sounds 3 = .ok (.aload_n 0, 1) := getB' kX12_sounds_0 3 rfl
theorem dX12_sounds_4 : decode cX12_sounds 4 = .ok (.getfield 375, 3) := getB' kX12_sounds_0 4 rfl
theorem dX12_sounds_7 : decode cX12_sounds 7 = .ok (.if_icmp .ge 104, 3) := getB' kX12_sounds_0 5 rfl
theorem dX12_sounds_10 : decode cX12_sounds 10 = .ok (.aload_n 0, 1) := getB' kX12_sounds_0 6 rfl
theorem dX12_sounds_11 : decode cX12_sounds 11 = .ok (.getfield 35, 3) := getB' kX12_sounds_0 7 rfl
theorem dX12_sounds_14 : decode cX12_sounds 14 = .ok (.iload_n 2, 1) := getB' kX12_sounds_0 8 rfl
theorem dX12_sounds_15 : decode cX12_sounds 15 = .ok (.iaload, 1) := getB' kX12_sounds_0 9 rfl
theorem dX12_sounds_16 : decode cX12_sounds 16 = .ok (.iconst 5, 1) := getB' kX12_sounds_0 10 rfl
theorem dX12_sounds_17 : decode cX12_sounds 17 = .ok (.if_icmp .ne 88, 3) := getB' kX12_sounds_0 11 rfl
def LX12_sounds_1 : List (Nat × Instr × Nat) := [(20, .aload_n 0, 1), (21, .aload_n 0, 1), (22, .getfield 41, 3), (25, .iload_n 2, 1), (26, .iaload, 1), (27, .aload_n 0, 1), (28, .getfield 169, 3), (31, .iload_n 1, 1), (32, .iaload, 1), (33, .invokevirtual 389, 3), (36, .iconst 3, 1), (37, .if_icmp .le 6, 3)]
theorem kX12_sounds_1 : chkB cX12_sounds LX12_sounds_1 = true := by decide +kernel
theorem dX12_sounds_20 : decode cX12_sounds 20 = .ok (.aload_n 0, 1) := getB' kX12_sounds_1 0 rfl
theorem dX12_sounds_21 : decode cX12_sounds 21 = .ok (.aload_n 0, 1) := getB' kX12_sounds_1 1 rfl
theorem dX12_sounds_22 : decode cX12_sounds 22 = .ok (.getfield 41, 3) := getB' kX12_sounds_1 2 rfl
theorem dX12_sounds_25 : decode cX12_sounds 25 = .ok (.iload_n 2, 1) := getB' kX12_sounds_1 3 rfl
theorem dX12_sounds_26 : decode cX12_sounds 26 = .ok (.iaload, 1) := getB' kX12_sounds_1 4 rfl
theorem dX12_sounds_27 : decode cX12_sounds 27 = .ok (.aload_n 0, 1) := getB' kX12_sounds_1 5 rfl
theorem dX12_sounds_28 : decode cX12_sounds 28 = .ok (.getfield 169, 3) := getB' kX12_sounds_1 6 rfl
theorem dX12_sounds_31 : decode cX12_sounds 31 = .ok (.iload_n 1, 1) := getB' kX12_sounds_1 7 rfl
theorem dX12_sounds_32 : decode cX12_sounds 32 = .ok (.iaload, 1) := getB' kX12_sounds_1 8 rfl
theorem dX12_sounds_33 : decode cX12_sounds 33 = .ok (.invokevirtual 389, 3) := getB' kX12_sounds_1 9 rfl
theorem dX12_sounds_36 : decode cX12_sounds 36 = .ok (.iconst 3, 1) := getB' kX12_sounds_1 10 rfl
theorem dX12_sounds_37 : decode cX12_sounds 37 = .ok (.if_icmp .le 6, 3) := getB' kX12_sounds_1 11 rfl
def LX12_sounds_2 : List (Nat × Instr × Nat) := [(40, .goto 65, 3), (43, .aload_n 0, 1), (44, .getfield 74, 3), (47, .bipush 10, 2), (49, .iload_n 2, 1), (50, .imul, 1), (51, .aload_n 0, 1), (52, .getfield 396, 3), (55, .sipush 360, 3), (58, .idiv, 1), (59, .iadd, 1), (60, .aload_n 0, 1)]
theorem kX12_sounds_2 : chkB cX12_sounds LX12_sounds_2 = true := by decide +kernel
theorem dX12_sounds_40 : decode cX12_sounds 40 = .ok (.goto 65, 3) := getB' kX12_sounds_2 0 rfl
theorem dX12_sounds_43 : decode cX12_sounds 43 = .ok (.aload_n 0, 1) := getB' kX12_sounds_2 1 rfl
theorem dX12_sounds_44 : decode cX12_sounds 44 = .ok (.getfield 74, 3) := getB' kX12_sounds_2 2 rfl
theorem dX12_sounds_47 : decode cX12_sounds 47 = .ok (.bipush 10, 2) := getB' kX12_sounds_2 3 rfl
theorem dX12_sounds_49 : decode cX12_sounds 49 = .ok (.iload_n 2, 1) := getB' kX12_sounds_2 4 rfl
theorem dX12_sounds_50 : decode cX12_sounds 50 = .ok (.imul, 1) := getB' kX12_sounds_2 5 rfl
theorem dX12_sounds_51 : decode cX12_sounds 51 = .ok (.aload_n 0, 1) := getB' kX12_sounds_2 6 rfl
theorem dX12_sounds_52 : decode cX12_sounds 52 = .ok (.getfield 396, 3) := getB' kX12_sounds_2 7 rfl
theorem dX12_sounds_55 : decode cX12_sounds 55 = .ok (.sipush 360, 3) := getB' kX12_sounds_2 8 rfl
theorem dX12_sounds_58 : decode cX12_sounds 58 = .ok (.idiv, 1) := getB' kX12_sounds_2 9 rfl
theorem dX12_sounds_59 : decode cX12_sounds 59 = .ok (.iadd, 1) := getB' kX12_sounds_2 10 rfl
theorem dX12_sounds_60 : decode cX12_sounds 60 = .ok (.aload_n 0, 1) := getB' kX12_sounds_2 11 rfl
def LX12_sounds_3 : List (Nat × Instr × Nat) := [(61, .getfield 74, 3), (64, .bipush 10, 2), (66, .iload_n 2, 1), (67, .imul, 1), (68, .aload_n 0, 1), (69, .getfield 396, 3), (72, .sipush 360, 3), (75, .idiv, 1), (76, .iadd, 1), (77, .iaload, 1), (78, .aload_n 0, 1), (79, .getfield 181, 3)]
theorem kX12_sounds_3 : chkB cX12_sounds LX12_sounds_3 = true := by decide +kernel
theorem dX12_sounds_61 : decode cX12_sounds 61 = .ok (.getfield 74, 3) := getB' kX12_sounds_3 0 rfl
theorem dX12_sounds_64 : decode cX12_sounds 64 = .ok (.bipush 10, 2) := getB' kX12_sounds_3 1 rfl
theorem dX12_sounds_66 : decode cX12_sounds 66 = .ok (.iload_n 2, 1) := getB' kX12_sounds_3 2 rfl
theorem dX12_sounds_67 : decode cX12_sounds 67 = .ok (.imul, 1) := getB' kX12_sounds_3 3 rfl
theorem dX12_sounds_68 : decode cX12_sounds 68 = .ok (.aload_n 0, 1) := getB' kX12_sounds_3 4 rfl
theorem dX12_sounds_69 : decode cX12_sounds 69 = .ok (.getfield 396, 3) := getB' kX12_sounds_3 5 rfl
theorem dX12_sounds_72 : decode cX12_sounds 72 = .ok (.sipush 360, 3) := getB' kX12_sounds_3 6 rfl
theorem dX12_sounds_75 : decode cX12_sounds 75 = .ok (.idiv, 1) := getB' kX12_sounds_3 7 rfl
theorem dX12_sounds_76 : decode cX12_sounds 76 = .ok (.iadd, 1) := getB' kX12_sounds_3 8 rfl
theorem dX12_sounds_77 : decode cX12_sounds 77 = .ok (.iaload, 1) := getB' kX12_sounds_3 9 rfl
theorem dX12_sounds_78 : decode cX12_sounds 78 = .ok (.aload_n 0, 1) := getB' kX12_sounds_3 10 rfl
theorem dX12_sounds_79 : decode cX12_sounds 79 = .ok (.getfield 181, 3) := getB' kX12_sounds_3 11 rfl
def LX12_sounds_4 : List (Nat × Instr × Nat) := [(82, .iload_n 1, 1), (83, .iaload, 1), (84, .aload_n 0, 1), (85, .aload_n 0, 1), (86, .getfield 41, 3), (89, .iload_n 2, 1), (90, .iaload, 1), (91, .aload_n 0, 1), (92, .getfield 169, 3), (95, .iload_n 1, 1), (96, .iaload, 1), (97, .invokevirtual 389, 3)]
theorem kX12_sounds_4 : chkB cX12_sounds LX12_sounds_4 = true := by decide +kernel
theorem dX12_sounds_82 : decode cX12_sounds 82 = .ok (.iload_n 1, 1) := getB' kX12_sounds_4 0 rfl
theorem dX12_sounds_83 : decode cX12_sounds 83 = .ok (.iaload, 1) := getB' kX12_sounds_4 1 rfl
theorem dX12_sounds_84 : decode cX12_sounds 84 = .ok (.aload_n 0, 1) := getB' kX12_sounds_4 2 rfl
theorem dX12_sounds_85 : decode cX12_sounds 85 = .ok (.aload_n 0, 1) := getB' kX12_sounds_4 3 rfl
theorem dX12_sounds_86 : decode cX12_sounds 86 = .ok (.getfield 41, 3) := getB' kX12_sounds_4 4 rfl
theorem dX12_sounds_89 : decode cX12_sounds 89 = .ok (.iload_n 2, 1) := getB' kX12_sounds_4 5 rfl
theorem dX12_sounds_90 : decode cX12_sounds 90 = .ok (.iaload, 1) := getB' kX12_sounds_4 6 rfl
theorem dX12_sounds_91 : decode cX12_sounds 91 = .ok (.aload_n 0, 1) := getB' kX12_sounds_4 7 rfl
theorem dX12_sounds_92 : decode cX12_sounds 92 = .ok (.getfield 169, 3) := getB' kX12_sounds_4 8 rfl
theorem dX12_sounds_95 : decode cX12_sounds 95 = .ok (.iload_n 1, 1) := getB' kX12_sounds_4 9 rfl
theorem dX12_sounds_96 : decode cX12_sounds 96 = .ok (.iaload, 1) := getB' kX12_sounds_4 10 rfl
theorem dX12_sounds_97 : decode cX12_sounds 97 = .ok (.invokevirtual 389, 3) := getB' kX12_sounds_4 11 rfl
def LX12_sounds_5 : List (Nat × Instr × Nat) := [(100, .iconst 1, 1), (101, .iadd, 1), (102, .idiv, 1), (103, .iadd, 1), (104, .iastore, 1), (105, .iinc 2 1, 3), (108, .goto (-106), 3), (111, .return_, 1)]
theorem kX12_sounds_5 : chkB cX12_sounds LX12_sounds_5 = true := by decide +kernel
theorem dX12_sounds_100 : decode cX12_sounds 100 = .ok (.iconst 1, 1) := getB' kX12_sounds_5 0 rfl
theorem dX12_sounds_101 : decode cX12_sounds 101 = .ok (.iadd, 1) := getB' kX12_sounds_5 1 rfl
theorem dX12_sounds_102 : decode cX12_sounds 102 = .ok (.idiv, 1) := getB' kX12_sounds_5 2 rfl
theorem dX12_sounds_103 : decode cX12_sounds 103 = .ok (.iadd, 1) := getB' kX12_sounds_5 3 rfl
theorem dX12_sounds_104 : decode cX12_sounds 104 = .ok (.iastore, 1) := getB' kX12_sounds_5 4 rfl
theorem dX12_sounds_105 : decode cX12_sounds 105 = .ok (.iinc 2 1, 3) := getB' kX12_sounds_5 5 rfl
theorem dX12_sounds_108 : decode cX12_sounds 108 = .ok (.goto (-106), 3) := getB' kX12_sounds_5 6 rfl
theorem dX12_sounds_111 : decode cX12_sounds 111 = .ok (.return_, 1) := getB' kX12_sounds_5 7 rfl
def LX12_goesHome_0 : List (Nat × Instr × Nat) := [(0, .aload_n 0, 1), (1, .aload_n 0, 1), (2, .getfield 673, 3), (5, .aload_n 0, 1), (6, .getfield 53, 3), (9, .iload_n 1, 1), (10, .iaload, 1), (11, .i2l, 1), (12, .ladd, 1), (13, .putfield 673, 3), (16, .aload_n 0, 1), (17, .getfield 53, 3)]
theorem kX12_goesHome_0 : chkB cX12_goesHome LX12_goesHome_0 = true := by decide +kernel
theorem dX12_goesHome_0 : decode cX12_goesHome 0 = .ok (.aload_n 0, 1) := getB' kX12_goesHome_0 0 rfl
theorem dX12_goesHome_1 : decode cX12_goesHome 1 = .ok (.aload_n 0, 1) := getB' kX12_goesHome_0 1 rfl
theorem dX12_goesHome_2 : decode cX12_goesHome 2 = .ok (.getfield 673, 3) := getB' kX12_goesHome_0 2 rfl
theorem dX12_goesHome_5 : decode cX12_goesHome 5 = .ok (.aload_n 0, 1) := getB' kX12_goesHome_0 3 rfl
theorem dX12_goesHome_6 : decode cX12_goesHome 6 = .ok (.getfield 53, 3) := getB' kX12_goesHome_0 4 rfl
theorem dX12_goesHome_9 : decode cX12_goesHome 9 = .ok (.iload_n 1, 1) := getB' kX12_goesHome_0 5 rfl
theorem dX12_goesHome_10 : decode cX12_goesHome 10 = .ok (.iaload, 1) := getB' kX12_goesHome_0 6 rfl
theorem dX12_goesHome_11 : decode cX12_goesHome 11 = .ok (.i2l, 1) := getB' kX12_goesHome_0 7 rfl
theorem dX12_goesHome_12 : decode cX12_goesHome 12 = .ok (.ladd, 1) := getB' kX12_goesHome_0 8 rfl
theorem dX12_goesHome_13 : decode cX12_goesHome 13 = .ok (.putfield 673, 3) := getB' kX12_goesHome_0 9 rfl
theorem dX12_goesHome_16 : decode cX12_goesHome 16 = .ok (.aload_n 0, 1) := getB' kX12_goesHome_0 10 rfl
theorem dX12_goesHome_17 : decode cX12_goesHome 17 = .ok (.getfield 53, 3) := getB' kX12_goesHome_0 11 rfl
def LX12_goesHome_1 : List (Nat × Instr × Nat) := [(20, .iload_n 1, 1), (21, .iconst 0, 1), (22, .iastore, 1), (23, .return_, 1)]
theorem kX12_goesHome_1 : chkB cX12_goesHome LX12_goesHome_1 = true := by decide +kernel
theorem dX12_goesHome_20 : decode cX12_goesHome 20 = .ok (.iload_n 1, 1) := getB' kX12_goesHome_1 0 rfl
theorem dX12_goesHome_21 : decode cX12_goesHome 21 = .ok (.iconst 0, 1) := getB' kX12_goesHome_1 1 rfl
theorem dX12_goesHome_22 : decode cX12_goesHome 22 = .ok (.iastore, 1) := getB' kX12_goesHome_1 2 rfl
theorem dX12_goesHome_23 : decode cX12_goesHome 23 = .ok (.return_, 1) := getB' kX12_goesHome_1 3 rfl
def LX12_burns_0 : List (Nat × Instr × Nat) := [(0, .aload_n 0, 1), (1, .getfield 53, 3), (4, .iload_n 1, 1), (5, .iaload, 1), (6, .bipush 9, 2), (8, .iadd, 1), (9, .bipush 10, 2), (11, .idiv, 1), (12, .aload_n 0, 1), (13, .aload_n 0, 1), (14, .getfield 396, 3), (17, .invokevirtual 582, 3)]
theorem kX12_burns_0 : chkB cX12_burns LX12_burns_0 = true := by decide +kernel
theorem dX12_burns_0 : decode cX12_burns 0 = .ok (.aload_n 0, 1) := getB' kX12_burns_0 0 rfl
theorem dX12_burns_1 : decode cX12_burns 1 = .ok (.getfield 53, 3) := getB' kX12_burns_0 1 rfl
theorem dX12_burns_4 : decode cX12_burns 4 = .ok (.iload_n 1, 1) := getB' kX12_burns_0 2 rfl
theorem dX12_burns_5 : decode cX12_burns 5 = .ok (.iaload, 1) := getB' kX12_burns_0 3 rfl
theorem dX12_burns_6 : decode cX12_burns 6 = .ok (.bipush 9, 2) := getB' kX12_burns_0 4 rfl
theorem dX12_burns_8 : decode cX12_burns 8 = .ok (.iadd, 1) := getB' kX12_burns_0 5 rfl
theorem dX12_burns_9 : decode cX12_burns 9 = .ok (.bipush 10, 2) := getB' kX12_burns_0 6 rfl
theorem dX12_burns_11 : decode cX12_burns 11 = .ok (.idiv, 1) := getB' kX12_burns_0 7 rfl
theorem dX12_burns_12 : decode cX12_burns 12 = .ok (.aload_n 0, 1) := getB' kX12_burns_0 8 rfl
theorem dX12_burns_13 : decode cX12_burns 13 = .ok (.aload_n 0, 1) := getB' kX12_burns_0 9 rfl
theorem dX12_burns_14 : decode cX12_burns 14 = .ok (.getfield 396, 3) := getB' kX12_burns_0 10 rfl
theorem dX12_burns_17 : decode cX12_burns 17 = .ok (.invokevirtual 582, 3) := getB' kX12_burns_0 11 rfl
def LX12_burns_1 : List (Nat × Instr × Nat) := [(20, .ifCond .eq 7, 3), (23, .iconst 2, 1), (24, .goto 4, 3), (27, .iconst 1, 1), (28, .imul, 1), (29, .istore_n 2, 1), (30, .iload_n 2, 1), (31, .aload_n 0, 1), (32, .getfield 56, 3), (35, .iload_n 1, 1), (36, .iaload, 1), (37, .if_icmp .ge 7, 3)]
theorem kX12_burns_1 : chkB cX12_burns LX12_burns_1 = true := by decide +kernel
theorem dX12_burns_20 : decode cX12_burns 20 = .ok (.ifCond .eq 7, 3) := getB' kX12_burns_1 0 rfl
theorem dX12_burns_23 : decode cX12_burns 23 = .ok (.iconst 2, 1) := getB' kX12_burns_1 1 rfl
theorem dX12_burns_24 : decode cX12_burns 24 = .ok (.goto 4, 3) := getB' kX12_burns_1 2 rfl
theorem dX12_burns_27 : decode cX12_burns 27 = .ok (.iconst 1, 1) := getB' kX12_burns_1 3 rfl
theorem dX12_burns_28 : decode cX12_burns 28 = .ok (.imul, 1) := getB' kX12_burns_1 4 rfl
theorem dX12_burns_29 : decode cX12_burns 29 = .ok (.istore_n 2, 1) := getB' kX12_burns_1 5 rfl
theorem dX12_burns_30 : decode cX12_burns 30 = .ok (.iload_n 2, 1) := getB' kX12_burns_1 6 rfl
theorem dX12_burns_31 : decode cX12_burns 31 = .ok (.aload_n 0, 1) := getB' kX12_burns_1 7 rfl
theorem dX12_burns_32 : decode cX12_burns 32 = .ok (.getfield 56, 3) := getB' kX12_burns_1 8 rfl
theorem dX12_burns_35 : decode cX12_burns 35 = .ok (.iload_n 1, 1) := getB' kX12_burns_1 9 rfl
theorem dX12_burns_36 : decode cX12_burns 36 = .ok (.iaload, 1) := getB' kX12_burns_1 10 rfl
theorem dX12_burns_37 : decode cX12_burns 37 = .ok (.if_icmp .ge 7, 3) := getB' kX12_burns_1 11 rfl
def LX12_burns_2 : List (Nat × Instr × Nat) := [(40, .iload_n 2, 1), (41, .goto 9, 3), (44, .aload_n 0, 1), (45, .getfield 56, 3), (48, .iload_n 1, 1), (49, .iaload, 1), (50, .istore_n 3, 1), (51, .aload_n 0, 1), (52, .getfield 56, 3), (55, .iload_n 1, 1), (56, .aload_n 0, 1), (57, .getfield 56, 3)]
theorem kX12_burns_2 : chkB cX12_burns LX12_burns_2 = true := by decide +kernel
theorem dX12_burns_40 : decode cX12_burns 40 = .ok (.iload_n 2, 1) := getB' kX12_burns_2 0 rfl
theorem dX12_burns_41 : decode cX12_burns 41 = .ok (.goto 9, 3) := getB' kX12_burns_2 1 rfl
theorem dX12_burns_44 : decode cX12_burns 44 = .ok (.aload_n 0, 1) := getB' kX12_burns_2 2 rfl
theorem dX12_burns_45 : decode cX12_burns 45 = .ok (.getfield 56, 3) := getB' kX12_burns_2 3 rfl
theorem dX12_burns_48 : decode cX12_burns 48 = .ok (.iload_n 1, 1) := getB' kX12_burns_2 4 rfl
theorem dX12_burns_49 : decode cX12_burns 49 = .ok (.iaload, 1) := getB' kX12_burns_2 5 rfl
theorem dX12_burns_50 : decode cX12_burns 50 = .ok (.istore_n 3, 1) := getB' kX12_burns_2 6 rfl
theorem dX12_burns_51 : decode cX12_burns 51 = .ok (.aload_n 0, 1) := getB' kX12_burns_2 7 rfl
theorem dX12_burns_52 : decode cX12_burns 52 = .ok (.getfield 56, 3) := getB' kX12_burns_2 8 rfl
theorem dX12_burns_55 : decode cX12_burns 55 = .ok (.iload_n 1, 1) := getB' kX12_burns_2 9 rfl
theorem dX12_burns_56 : decode cX12_burns 56 = .ok (.aload_n 0, 1) := getB' kX12_burns_2 10 rfl
theorem dX12_burns_57 : decode cX12_burns 57 = .ok (.getfield 56, 3) := getB' kX12_burns_2 11 rfl
def LX12_burns_3 : List (Nat × Instr × Nat) := [(60, .iload_n 1, 1), (61, .iaload, 1), (62, .iload_n 3, 1), (63, .isub, 1), (64, .iastore, 1), (65, .aload_n 0, 1), (66, .aload_n 0, 1), (67, .getfield 654, 3), (70, .iload_n 3, 1), (71, .i2l, 1), (72, .ladd, 1), (73, .putfield 654, 3)]
theorem kX12_burns_3 : chkB cX12_burns LX12_burns_3 = true := by decide +kernel
theorem dX12_burns_60 : decode cX12_burns 60 = .ok (.iload_n 1, 1) := getB' kX12_burns_3 0 rfl
theorem dX12_burns_61 : decode cX12_burns 61 = .ok (.iaload, 1) := getB' kX12_burns_3 1 rfl
theorem dX12_burns_62 : decode cX12_burns 62 = .ok (.iload_n 3, 1) := getB' kX12_burns_3 2 rfl
theorem dX12_burns_63 : decode cX12_burns 63 = .ok (.isub, 1) := getB' kX12_burns_3 3 rfl
theorem dX12_burns_64 : decode cX12_burns 64 = .ok (.iastore, 1) := getB' kX12_burns_3 4 rfl
theorem dX12_burns_65 : decode cX12_burns 65 = .ok (.aload_n 0, 1) := getB' kX12_burns_3 5 rfl
theorem dX12_burns_66 : decode cX12_burns 66 = .ok (.aload_n 0, 1) := getB' kX12_burns_3 6 rfl
theorem dX12_burns_67 : decode cX12_burns 67 = .ok (.getfield 654, 3) := getB' kX12_burns_3 7 rfl
theorem dX12_burns_70 : decode cX12_burns 70 = .ok (.iload_n 3, 1) := getB' kX12_burns_3 8 rfl
theorem dX12_burns_71 : decode cX12_burns 71 = .ok (.i2l, 1) := getB' kX12_burns_3 9 rfl
theorem dX12_burns_72 : decode cX12_burns 72 = .ok (.ladd, 1) := getB' kX12_burns_3 10 rfl
theorem dX12_burns_73 : decode cX12_burns 73 = .ok (.putfield 654, 3) := getB' kX12_burns_3 11 rfl
def LX12_burns_4 : List (Nat × Instr × Nat) := [(76, .aload_n 0, 1), (77, .getfield 62, 3), (80, .iload_n 1, 1), (81, .iload_n 3, 1), (82, .iload_n 2, 1), (83, .if_icmp .ge 14, 3), (86, .aload_n 0, 1), (87, .getfield 62, 3), (90, .iload_n 1, 1), (91, .iaload, 1), (92, .iconst 1, 1), (93, .iadd, 1)]
theorem kX12_burns_4 : chkB cX12_burns LX12_burns_4 = true := by decide +kernel
theorem dX12_burns_76 : decode cX12_burns 76 = .ok (.aload_n 0, 1) := getB' kX12_burns_4 0 rfl
theorem dX12_burns_77 : decode cX12_burns 77 = .ok (.getfield 62, 3) := getB' kX12_burns_4 1 rfl
theorem dX12_burns_80 : decode cX12_burns 80 = .ok (.iload_n 1, 1) := getB' kX12_burns_4 2 rfl
theorem dX12_burns_81 : decode cX12_burns 81 = .ok (.iload_n 3, 1) := getB' kX12_burns_4 3 rfl
theorem dX12_burns_82 : decode cX12_burns 82 = .ok (.iload_n 2, 1) := getB' kX12_burns_4 4 rfl
theorem dX12_burns_83 : decode cX12_burns 83 = .ok (.if_icmp .ge 14, 3) := getB' kX12_burns_4 5 rfl
theorem dX12_burns_86 : decode cX12_burns 86 = .ok (.aload_n 0, 1) := getB' kX12_burns_4 6 rfl
theorem dX12_burns_87 : decode cX12_burns 87 = .ok (.getfield 62, 3) := getB' kX12_burns_4 7 rfl
theorem dX12_burns_90 : decode cX12_burns 90 = .ok (.iload_n 1, 1) := getB' kX12_burns_4 8 rfl
theorem dX12_burns_91 : decode cX12_burns 91 = .ok (.iaload, 1) := getB' kX12_burns_4 9 rfl
theorem dX12_burns_92 : decode cX12_burns 92 = .ok (.iconst 1, 1) := getB' kX12_burns_4 10 rfl
theorem dX12_burns_93 : decode cX12_burns 93 = .ok (.iadd, 1) := getB' kX12_burns_4 11 rfl
def LX12_burns_5 : List (Nat × Instr × Nat) := [(94, .goto 4, 3), (97, .iconst 0, 1), (98, .iastore, 1), (99, .aload_n 0, 1), (100, .getfield 62, 3), (103, .iload_n 1, 1), (104, .iaload, 1), (105, .bipush 10, 2), (107, .if_icmp .ne 8, 3), (110, .aload_n 0, 1), (111, .iload_n 1, 1), (112, .invokevirtual 676, 3)]
theorem kX12_burns_5 : chkB cX12_burns LX12_burns_5 = true := by decide +kernel
theorem dX12_burns_94 : decode cX12_burns 94 = .ok (.goto 4, 3) := getB' kX12_burns_5 0 rfl
theorem dX12_burns_97 : decode cX12_burns 97 = .ok (.iconst 0, 1) := getB' kX12_burns_5 1 rfl
theorem dX12_burns_98 : decode cX12_burns 98 = .ok (.iastore, 1) := getB' kX12_burns_5 2 rfl
theorem dX12_burns_99 : decode cX12_burns 99 = .ok (.aload_n 0, 1) := getB' kX12_burns_5 3 rfl
theorem dX12_burns_100 : decode cX12_burns 100 = .ok (.getfield 62, 3) := getB' kX12_burns_5 4 rfl
theorem dX12_burns_103 : decode cX12_burns 103 = .ok (.iload_n 1, 1) := getB' kX12_burns_5 5 rfl
theorem dX12_burns_104 : decode cX12_burns 104 = .ok (.iaload, 1) := getB' kX12_burns_5 6 rfl
theorem dX12_burns_105 : decode cX12_burns 105 = .ok (.bipush 10, 2) := getB' kX12_burns_5 7 rfl
theorem dX12_burns_107 : decode cX12_burns 107 = .ok (.if_icmp .ne 8, 3) := getB' kX12_burns_5 8 rfl
theorem dX12_burns_110 : decode cX12_burns 110 = .ok (.aload_n 0, 1) := getB' kX12_burns_5 9 rfl
theorem dX12_burns_111 : decode cX12_burns 111 = .ok (.iload_n 1, 1) := getB' kX12_burns_5 10 rfl
theorem dX12_burns_112 : decode cX12_burns 112 = .ok (.invokevirtual 676, 3) := getB' kX12_burns_5 11 rfl
def LX12_burns_6 : List (Nat × Instr × Nat) := [(115, .aload_n 0, 1), (116, .getfield 53, 3), (119, .iload_n 1, 1), (120, .iaload, 1), (121, .bipush 49, 2), (123, .iadd, 1), (124, .bipush 50, 2), (126, .idiv, 1), (127, .istore 4, 2), (129, .aload_n 0, 1), (130, .aload_n 0, 1), (131, .getfield 396, 3)]
theorem kX12_burns_6 : chkB cX12_burns LX12_burns_6 = true := by decide +kernel
theorem dX12_burns_115 : decode cX12_burns 115 = .ok (.aload_n 0, 1) := getB' kX12_burns_6 0 rfl
theorem dX12_burns_116 : decode cX12_burns 116 = .ok (.getfield 53, 3) := getB' kX12_burns_6 1 rfl
theorem dX12_burns_119 : decode cX12_burns 119 = .ok (.iload_n 1, 1) := getB' kX12_burns_6 2 rfl
theorem dX12_burns_120 : decode cX12_burns 120 = .ok (.iaload, 1) := getB' kX12_burns_6 3 rfl
theorem dX12_burns_121 : decode cX12_burns 121 = .ok (.bipush 49, 2) := getB' kX12_burns_6 4 rfl
theorem dX12_burns_123 : decode cX12_burns 123 = .ok (.iadd, 1) := getB' kX12_burns_6 5 rfl
theorem dX12_burns_124 : decode cX12_burns 124 = .ok (.bipush 50, 2) := getB' kX12_burns_6 6 rfl
theorem dX12_burns_126 : decode cX12_burns 126 = .ok (.idiv, 1) := getB' kX12_burns_6 7 rfl
theorem dX12_burns_127 : decode cX12_burns 127 = .ok (.istore 4, 2) := getB' kX12_burns_6 8 rfl
theorem dX12_burns_129 : decode cX12_burns 129 = .ok (.aload_n 0, 1) := getB' kX12_burns_6 9 rfl
theorem dX12_burns_130 : decode cX12_burns 130 = .ok (.aload_n 0, 1) := getB' kX12_burns_6 10 rfl
theorem dX12_burns_131 : decode cX12_burns 131 = .ok (.getfield 396, 3) := getB' kX12_burns_6 11 rfl
def LX12_burns_7 : List (Nat × Instr × Nat) := [(134, .invokevirtual 582, 3), (137, .ifCond .eq 7, 3), (140, .iconst 3, 1), (141, .goto 4, 3), (144, .iconst 0, 1), (145, .istore 5, 2), (147, .aload_n 0, 1), (148, .getfield 65, 3), (151, .iconst 4, 1), (152, .iload_n 1, 1), (153, .imul, 1), (154, .iload 5, 2)]
theorem kX12_burns_7 : chkB cX12_burns LX12_burns_7 = true := by decide +kernel
theorem dX12_burns_134 : decode cX12_burns 134 = .ok (.invokevirtual 582, 3) := getB' kX12_burns_7 0 rfl
theorem dX12_burns_137 : decode cX12_burns 137 = .ok (.ifCond .eq 7, 3) := getB' kX12_burns_7 1 rfl
theorem dX12_burns_140 : decode cX12_burns 140 = .ok (.iconst 3, 1) := getB' kX12_burns_7 2 rfl
theorem dX12_burns_141 : decode cX12_burns 141 = .ok (.goto 4, 3) := getB' kX12_burns_7 3 rfl
theorem dX12_burns_144 : decode cX12_burns 144 = .ok (.iconst 0, 1) := getB' kX12_burns_7 4 rfl
theorem dX12_burns_145 : decode cX12_burns 145 = .ok (.istore 5, 2) := getB' kX12_burns_7 5 rfl
theorem dX12_burns_147 : decode cX12_burns 147 = .ok (.aload_n 0, 1) := getB' kX12_burns_7 6 rfl
theorem dX12_burns_148 : decode cX12_burns 148 = .ok (.getfield 65, 3) := getB' kX12_burns_7 7 rfl
theorem dX12_burns_151 : decode cX12_burns 151 = .ok (.iconst 4, 1) := getB' kX12_burns_7 8 rfl
theorem dX12_burns_152 : decode cX12_burns 152 = .ok (.iload_n 1, 1) := getB' kX12_burns_7 9 rfl
theorem dX12_burns_153 : decode cX12_burns 153 = .ok (.imul, 1) := getB' kX12_burns_7 10 rfl
theorem dX12_burns_154 : decode cX12_burns 154 = .ok (.iload 5, 2) := getB' kX12_burns_7 11 rfl
def LX12_burns_8 : List (Nat × Instr × Nat) := [(156, .iadd, 1), (157, .aload_n 0, 1), (158, .getfield 65, 3), (161, .iconst 4, 1), (162, .iload_n 1, 1), (163, .imul, 1), (164, .iload 5, 2), (166, .iadd, 1), (167, .iaload, 1), (168, .iload 4, 2), (170, .iadd, 1), (171, .iastore, 1)]
theorem kX12_burns_8 : chkB cX12_burns LX12_burns_8 = true := by decide +kernel
theorem dX12_burns_156 : decode cX12_burns 156 = .ok (.iadd, 1) := getB' kX12_burns_8 0 rfl
theorem dX12_burns_157 : decode cX12_burns 157 = .ok (.aload_n 0, 1) := getB' kX12_burns_8 1 rfl
theorem dX12_burns_158 : decode cX12_burns 158 = .ok (.getfield 65, 3) := getB' kX12_burns_8 2 rfl
theorem dX12_burns_161 : decode cX12_burns 161 = .ok (.iconst 4, 1) := getB' kX12_burns_8 3 rfl
theorem dX12_burns_162 : decode cX12_burns 162 = .ok (.iload_n 1, 1) := getB' kX12_burns_8 4 rfl
theorem dX12_burns_163 : decode cX12_burns 163 = .ok (.imul, 1) := getB' kX12_burns_8 5 rfl
theorem dX12_burns_164 : decode cX12_burns 164 = .ok (.iload 5, 2) := getB' kX12_burns_8 6 rfl
theorem dX12_burns_166 : decode cX12_burns 166 = .ok (.iadd, 1) := getB' kX12_burns_8 7 rfl
theorem dX12_burns_167 : decode cX12_burns 167 = .ok (.iaload, 1) := getB' kX12_burns_8 8 rfl
theorem dX12_burns_168 : decode cX12_burns 168 = .ok (.iload 4, 2) := getB' kX12_burns_8 9 rfl
theorem dX12_burns_170 : decode cX12_burns 170 = .ok (.iadd, 1) := getB' kX12_burns_8 10 rfl
theorem dX12_burns_171 : decode cX12_burns 171 = .ok (.iastore, 1) := getB' kX12_burns_8 11 rfl
def LX12_burns_9 : List (Nat × Instr × Nat) := [(172, .aload_n 0, 1), (173, .aload_n 0, 1), (174, .getfield 679, 3), (177, .iload 4, 2), (179, .i2l, 1), (180, .ladd, 1), (181, .putfield 679, 3), (184, .return_, 1)]
theorem kX12_burns_9 : chkB cX12_burns LX12_burns_9 = true := by decide +kernel
theorem dX12_burns_172 : decode cX12_burns 172 = .ok (.aload_n 0, 1) := getB' kX12_burns_9 0 rfl
theorem dX12_burns_173 : decode cX12_burns 173 = .ok (.aload_n 0, 1) := getB' kX12_burns_9 1 rfl
theorem dX12_burns_174 : decode cX12_burns 174 = .ok (.getfield 679, 3) := getB' kX12_burns_9 2 rfl
theorem dX12_burns_177 : decode cX12_burns 177 = .ok (.iload 4, 2) := getB' kX12_burns_9 3 rfl
theorem dX12_burns_179 : decode cX12_burns 179 = .ok (.i2l, 1) := getB' kX12_burns_9 4 rfl
theorem dX12_burns_180 : decode cX12_burns 180 = .ok (.ladd, 1) := getB' kX12_burns_9 5 rfl
theorem dX12_burns_181 : decode cX12_burns 181 = .ok (.putfield 679, 3) := getB' kX12_burns_9 6 rfl
theorem dX12_burns_184 : decode cX12_burns 184 = .ok (.return_, 1) := getB' kX12_burns_9 7 rfl
def LX12_loses_0 : List (Nat × Instr × Nat) := [(0, .aload_n 0, 1), (1, .getfield 80, 3), (4, .iload_n 1, 1), (5, .iconst 1, 1), (6, .bastore, 1), (7, .aload_n 0, 1), (8, .aload_n 0, 1), (9, .getfield 657, 3), (12, .aload_n 0, 1), (13, .getfield 56, 3), (16, .iload_n 1, 1), (17, .iaload, 1)]
theorem kX12_loses_0 : chkB cX12_loses LX12_loses_0 = true := by decide +kernel
theorem dX12_loses_0 : decode cX12_loses 0 = .ok (.aload_n 0, 1) := getB' kX12_loses_0 0 rfl
theorem dX12_loses_1 : decode cX12_loses 1 = .ok (.getfield 80, 3) := getB' kX12_loses_0 1 rfl
theorem dX12_loses_4 : decode cX12_loses 4 = .ok (.iload_n 1, 1) := getB' kX12_loses_0 2 rfl
theorem dX12_loses_5 : decode cX12_loses 5 = .ok (.iconst 1, 1) := getB' kX12_loses_0 3 rfl
theorem dX12_loses_6 : decode cX12_loses 6 = .ok (.bastore, 1) := getB' kX12_loses_0 4 rfl
theorem dX12_loses_7 : decode cX12_loses 7 = .ok (.aload_n 0, 1) := getB' kX12_loses_0 5 rfl
theorem dX12_loses_8 : decode cX12_loses 8 = .ok (.aload_n 0, 1) := getB' kX12_loses_0 6 rfl
theorem dX12_loses_9 : decode cX12_loses 9 = .ok (.getfield 657, 3) := getB' kX12_loses_0 7 rfl
theorem dX12_loses_12 : decode cX12_loses 12 = .ok (.aload_n 0, 1) := getB' kX12_loses_0 8 rfl
theorem dX12_loses_13 : decode cX12_loses 13 = .ok (.getfield 56, 3) := getB' kX12_loses_0 9 rfl
theorem dX12_loses_16 : decode cX12_loses 16 = .ok (.iload_n 1, 1) := getB' kX12_loses_0 10 rfl
theorem dX12_loses_17 : decode cX12_loses 17 = .ok (.iaload, 1) := getB' kX12_loses_0 11 rfl
def LX12_loses_1 : List (Nat × Instr × Nat) := [(18, .i2l, 1), (19, .ladd, 1), (20, .aload_n 0, 1), (21, .getfield 59, 3), (24, .iload_n 1, 1), (25, .iaload, 1), (26, .i2l, 1), (27, .ladd, 1), (28, .putfield 657, 3), (31, .aload_n 0, 1), (32, .getfield 56, 3), (35, .iload_n 1, 1)]
theorem kX12_loses_1 : chkB cX12_loses LX12_loses_1 = true := by decide +kernel
theorem dX12_loses_18 : decode cX12_loses 18 = .ok (.i2l, 1) := getB' kX12_loses_1 0 rfl
theorem dX12_loses_19 : decode cX12_loses 19 = .ok (.ladd, 1) := getB' kX12_loses_1 1 rfl
theorem dX12_loses_20 : decode cX12_loses 20 = .ok (.aload_n 0, 1) := getB' kX12_loses_1 2 rfl
theorem dX12_loses_21 : decode cX12_loses 21 = .ok (.getfield 59, 3) := getB' kX12_loses_1 3 rfl
theorem dX12_loses_24 : decode cX12_loses 24 = .ok (.iload_n 1, 1) := getB' kX12_loses_1 4 rfl
theorem dX12_loses_25 : decode cX12_loses 25 = .ok (.iaload, 1) := getB' kX12_loses_1 5 rfl
theorem dX12_loses_26 : decode cX12_loses 26 = .ok (.i2l, 1) := getB' kX12_loses_1 6 rfl
theorem dX12_loses_27 : decode cX12_loses 27 = .ok (.ladd, 1) := getB' kX12_loses_1 7 rfl
theorem dX12_loses_28 : decode cX12_loses 28 = .ok (.putfield 657, 3) := getB' kX12_loses_1 8 rfl
theorem dX12_loses_31 : decode cX12_loses 31 = .ok (.aload_n 0, 1) := getB' kX12_loses_1 9 rfl
theorem dX12_loses_32 : decode cX12_loses 32 = .ok (.getfield 56, 3) := getB' kX12_loses_1 10 rfl
theorem dX12_loses_35 : decode cX12_loses 35 = .ok (.iload_n 1, 1) := getB' kX12_loses_1 11 rfl
def LX12_loses_2 : List (Nat × Instr × Nat) := [(36, .iconst 0, 1), (37, .iastore, 1), (38, .aload_n 0, 1), (39, .getfield 59, 3), (42, .iload_n 1, 1), (43, .iconst 0, 1), (44, .iastore, 1), (45, .iconst 0, 1), (46, .istore_n 2, 1), (47, .iload_n 2, 1), (48, .iconst 4, 1), (49, .if_icmp .ge 40, 3)]
theorem kX12_loses_2 : chkB cX12_loses LX12_loses_2 = true := by decide +kernel
theorem dX12_loses_36 : decode cX12_loses 36 = .ok (.iconst 0, 1) := getB' kX12_loses_2 0 rfl
theorem dX12_loses_37 : decode cX12_loses 37 = .ok (.iastore, 1) := getB' kX12_loses_2 1 rfl
theorem dX12_loses_38 : decode cX12_loses 38 = .ok (.aload_n 0, 1) := getB' kX12_loses_2 2 rfl
theorem dX12_loses_39 : decode cX12_loses 39 = .ok (.getfield 59, 3) := getB' kX12_loses_2 3 rfl
theorem dX12_loses_42 : decode cX12_loses 42 = .ok (.iload_n 1, 1) := getB' kX12_loses_2 4 rfl
theorem dX12_loses_43 : decode cX12_loses 43 = .ok (.iconst 0, 1) := getB' kX12_loses_2 5 rfl
theorem dX12_loses_44 : decode cX12_loses 44 = .ok (.iastore, 1) := getB' kX12_loses_2 6 rfl
theorem dX12_loses_45 : decode cX12_loses 45 = .ok (.iconst 0, 1) := getB' kX12_loses_2 7 rfl
theorem dX12_loses_46 : decode cX12_loses 46 = .ok (.istore_n 2, 1) := getB' kX12_loses_2 8 rfl
theorem dX12_loses_47 : decode cX12_loses 47 = .ok (.iload_n 2, 1) := getB' kX12_loses_2 9 rfl
theorem dX12_loses_48 : decode cX12_loses 48 = .ok (.iconst 4, 1) := getB' kX12_loses_2 10 rfl
theorem dX12_loses_49 : decode cX12_loses 49 = .ok (.if_icmp .ge 40, 3) := getB' kX12_loses_2 11 rfl
def LX12_loses_3 : List (Nat × Instr × Nat) := [(52, .aload_n 0, 1), (53, .aload_n 0, 1), (54, .getfield 682, 3), (57, .aload_n 0, 1), (58, .getfield 65, 3), (61, .iconst 4, 1), (62, .iload_n 1, 1), (63, .imul, 1), (64, .iload_n 2, 1), (65, .iadd, 1), (66, .iaload, 1), (67, .i2l, 1)]
theorem kX12_loses_3 : chkB cX12_loses LX12_loses_3 = true := by decide +kernel
theorem dX12_loses_52 : decode cX12_loses 52 = .ok (.aload_n 0, 1) := getB' kX12_loses_3 0 rfl
theorem dX12_loses_53 : decode cX12_loses 53 = .ok (.aload_n 0, 1) := getB' kX12_loses_3 1 rfl
theorem dX12_loses_54 : decode cX12_loses 54 = .ok (.getfield 682, 3) := getB' kX12_loses_3 2 rfl
theorem dX12_loses_57 : decode cX12_loses 57 = .ok (.aload_n 0, 1) := getB' kX12_loses_3 3 rfl
theorem dX12_loses_58 : decode cX12_loses 58 = .ok (.getfield 65, 3) := getB' kX12_loses_3 4 rfl
theorem dX12_loses_61 : decode cX12_loses 61 = .ok (.iconst 4, 1) := getB' kX12_loses_3 5 rfl
theorem dX12_loses_62 : decode cX12_loses 62 = .ok (.iload_n 1, 1) := getB' kX12_loses_3 6 rfl
theorem dX12_loses_63 : decode cX12_loses 63 = .ok (.imul, 1) := getB' kX12_loses_3 7 rfl
theorem dX12_loses_64 : decode cX12_loses 64 = .ok (.iload_n 2, 1) := getB' kX12_loses_3 8 rfl
theorem dX12_loses_65 : decode cX12_loses 65 = .ok (.iadd, 1) := getB' kX12_loses_3 9 rfl
theorem dX12_loses_66 : decode cX12_loses 66 = .ok (.iaload, 1) := getB' kX12_loses_3 10 rfl
theorem dX12_loses_67 : decode cX12_loses 67 = .ok (.i2l, 1) := getB' kX12_loses_3 11 rfl
def LX12_loses_4 : List (Nat × Instr × Nat) := [(68, .ladd, 1), (69, .putfield 682, 3), (72, .aload_n 0, 1), (73, .getfield 65, 3), (76, .iconst 4, 1), (77, .iload_n 1, 1), (78, .imul, 1), (79, .iload_n 2, 1), (80, .iadd, 1), (81, .iconst 0, 1), (82, .iastore, 1), (83, .iinc 2 1, 3)]
theorem kX12_loses_4 : chkB cX12_loses LX12_loses_4 = true := by decide +kernel
theorem dX12_loses_68 : decode cX12_loses 68 = .ok (.ladd, 1) := getB' kX12_loses_4 0 rfl
theorem dX12_loses_69 : decode cX12_loses 69 = .ok (.putfield 682, 3) := getB' kX12_loses_4 1 rfl
theorem dX12_loses_72 : decode cX12_loses 72 = .ok (.aload_n 0, 1) := getB' kX12_loses_4 2 rfl
theorem dX12_loses_73 : decode cX12_loses 73 = .ok (.getfield 65, 3) := getB' kX12_loses_4 3 rfl
theorem dX12_loses_76 : decode cX12_loses 76 = .ok (.iconst 4, 1) := getB' kX12_loses_4 4 rfl
theorem dX12_loses_77 : decode cX12_loses 77 = .ok (.iload_n 1, 1) := getB' kX12_loses_4 5 rfl
theorem dX12_loses_78 : decode cX12_loses 78 = .ok (.imul, 1) := getB' kX12_loses_4 6 rfl
theorem dX12_loses_79 : decode cX12_loses 79 = .ok (.iload_n 2, 1) := getB' kX12_loses_4 7 rfl
theorem dX12_loses_80 : decode cX12_loses 80 = .ok (.iadd, 1) := getB' kX12_loses_4 8 rfl
theorem dX12_loses_81 : decode cX12_loses 81 = .ok (.iconst 0, 1) := getB' kX12_loses_4 9 rfl
theorem dX12_loses_82 : decode cX12_loses 82 = .ok (.iastore, 1) := getB' kX12_loses_4 10 rfl
theorem dX12_loses_83 : decode cX12_loses 83 = .ok (.iinc 2 1, 3) := getB' kX12_loses_4 11 rfl
def LX12_loses_5 : List (Nat × Instr × Nat) := [(86, .goto (-39), 3), (89, .aload_n 0, 1), (90, .iload_n 1, 1), (91, .invokevirtual 676, 3), (94, .iconst 0, 1), (95, .istore_n 2, 1), (96, .iload_n 2, 1), (97, .aload_n 0, 1), (98, .getfield 375, 3), (101, .if_icmp .ge 36, 3), (104, .aload_n 0, 1), (105, .getfield 35, 3)]
theorem kX12_loses_5 : chkB cX12_loses LX12_loses_5 = true := by decide +kernel
theorem dX12_loses_86 : decode cX12_loses 86 = .ok (.goto (-39), 3) := getB' kX12_loses_5 0 rfl
theorem dX12_loses_89 : decode cX12_loses 89 = .ok (.aload_n 0, 1) := getB' kX12_loses_5 1 rfl
theorem dX12_loses_90 : decode cX12_loses 90 = .ok (.iload_n 1, 1) := getB' kX12_loses_5 2 rfl
theorem dX12_loses_91 : decode cX12_loses 91 = .ok (.invokevirtual 676, 3) := getB' kX12_loses_5 3 rfl
theorem dX12_loses_94 : decode cX12_loses 94 = .ok (.iconst 0, 1) := getB' kX12_loses_5 4 rfl
theorem dX12_loses_95 : decode cX12_loses 95 = .ok (.istore_n 2, 1) := getB' kX12_loses_5 5 rfl
theorem dX12_loses_96 : decode cX12_loses 96 = .ok (.iload_n 2, 1) := getB' kX12_loses_5 6 rfl
theorem dX12_loses_97 : decode cX12_loses 97 = .ok (.aload_n 0, 1) := getB' kX12_loses_5 7 rfl
theorem dX12_loses_98 : decode cX12_loses 98 = .ok (.getfield 375, 3) := getB' kX12_loses_5 8 rfl
theorem dX12_loses_101 : decode cX12_loses 101 = .ok (.if_icmp .ge 36, 3) := getB' kX12_loses_5 9 rfl
theorem dX12_loses_104 : decode cX12_loses 104 = .ok (.aload_n 0, 1) := getB' kX12_loses_5 10 rfl
theorem dX12_loses_105 : decode cX12_loses 105 = .ok (.getfield 35, 3) := getB' kX12_loses_5 11 rfl
def LX12_loses_6 : List (Nat × Instr × Nat) := [(108, .iload_n 2, 1), (109, .iaload, 1), (110, .iconst 2, 1), (111, .if_icmp .ne 20, 3), (114, .aload_n 0, 1), (115, .getfield 47, 3), (118, .iload_n 2, 1), (119, .iaload, 1), (120, .iload_n 1, 1), (121, .if_icmp .ne 10, 3), (124, .aload_n 0, 1), (125, .getfield 80, 3)]
theorem kX12_loses_6 : chkB cX12_loses LX12_loses_6 = true := by decide +kernel
theorem dX12_loses_108 : decode cX12_loses 108 = .ok (.iload_n 2, 1) := getB' kX12_loses_6 0 rfl
theorem dX12_loses_109 : decode cX12_loses 109 = .ok (.iaload, 1) := getB' kX12_loses_6 1 rfl
theorem dX12_loses_110 : decode cX12_loses 110 = .ok (.iconst 2, 1) := getB' kX12_loses_6 2 rfl
theorem dX12_loses_111 : decode cX12_loses 111 = .ok (.if_icmp .ne 20, 3) := getB' kX12_loses_6 3 rfl
theorem dX12_loses_114 : decode cX12_loses 114 = .ok (.aload_n 0, 1) := getB' kX12_loses_6 4 rfl
theorem dX12_loses_115 : decode cX12_loses 115 = .ok (.getfield 47, 3) := getB' kX12_loses_6 5 rfl
theorem dX12_loses_118 : decode cX12_loses 118 = .ok (.iload_n 2, 1) := getB' kX12_loses_6 6 rfl
theorem dX12_loses_119 : decode cX12_loses 119 = .ok (.iaload, 1) := getB' kX12_loses_6 7 rfl
theorem dX12_loses_120 : decode cX12_loses 120 = .ok (.iload_n 1, 1) := getB' kX12_loses_6 8 rfl
theorem dX12_loses_121 : decode cX12_loses 121 = .ok (.if_icmp .ne 10, 3) := getB' kX12_loses_6 9 rfl
theorem dX12_loses_124 : decode cX12_loses 124 = .ok (.aload_n 0, 1) := getB' kX12_loses_6 10 rfl
theorem dX12_loses_125 : decode cX12_loses 125 = .ok (.getfield 80, 3) := getB' kX12_loses_6 11 rfl
def LX12_loses_7 : List (Nat × Instr × Nat) := [(128, .iload_n 2, 1), (129, .iconst 1, 1), (130, .bastore, 1), (131, .iinc 2 1, 3), (134, .goto (-38), 3), (137, .return_, 1)]
theorem kX12_loses_7 : chkB cX12_loses LX12_loses_7 = true := by decide +kernel
theorem dX12_loses_128 : decode cX12_loses 128 = .ok (.iload_n 2, 1) := getB' kX12_loses_7 0 rfl
theorem dX12_loses_129 : decode cX12_loses 129 = .ok (.iconst 1, 1) := getB' kX12_loses_7 1 rfl
theorem dX12_loses_130 : decode cX12_loses 130 = .ok (.bastore, 1) := getB' kX12_loses_7 2 rfl
theorem dX12_loses_131 : decode cX12_loses 131 = .ok (.iinc 2 1, 3) := getB' kX12_loses_7 3 rfl
theorem dX12_loses_134 : decode cX12_loses 134 = .ok (.goto (-38), 3) := getB' kX12_loses_7 4 rfl
theorem dX12_loses_137 : decode cX12_loses 137 = .ok (.return_, 1) := getB' kX12_loses_7 5 rfl
def LX12_flows_0 : List (Nat × Instr × Nat) := [(0, .aload_n 0, 1), (1, .getfield 41, 3), (4, .iload_n 1, 1), (5, .iaload, 1), (6, .istore_n 2, 1), (7, .aload_n 0, 1), (8, .getfield 20, 3), (11, .iload_n 2, 1), (12, .iaload, 1), (13, .ifCond .ne 33, 3), (16, .aload_n 0, 1), (17, .getfield 23, 3)]
theorem kX12_flows_0 : chkB cX12_flows LX12_flows_0 = true := by decide +kernel
theorem dX12_flows_0 : decode cX12_flows 0 = .ok (.aload_n 0, 1) := getB' kX12_flows_0 0 rfl
theorem dX12_flows_1 : decode cX12_flows 1 = .ok (.getfield 41, 3) := getB' kX12_flows_0 1 rfl
theorem dX12_flows_4 : decode cX12_flows 4 = .ok (.iload_n 1, 1) := getB' kX12_flows_0 2 rfl
theorem dX12_flows_5 : decode cX12_flows 5 = .ok (.iaload, 1) := getB' kX12_flows_0 3 rfl
theorem dX12_flows_6 : decode cX12_flows 6 = .ok (.istore_n 2, 1) := getB' kX12_flows_0 4 rfl
theorem dX12_flows_7 : decode cX12_flows 7 = .ok (.aload_n 0, 1) := getB' kX12_flows_0 5 rfl
theorem dX12_flows_8 : decode cX12_flows 8 = .ok (.getfield 20, 3) := getB' kX12_flows_0 6 rfl
theorem dX12_flows_11 : decode cX12_flows 11 = .ok (.iload_n 2, 1) := getB' kX12_flows_0 7 rfl
theorem dX12_flows_12 : decode cX12_flows 12 = .ok (.iaload, 1) := getB' kX12_flows_0 8 rfl
theorem dX12_flows_13 : decode cX12_flows 13 = .ok (.ifCond .ne 33, 3) := getB' kX12_flows_0 9 rfl
theorem dX12_flows_16 : decode cX12_flows 16 = .ok (.aload_n 0, 1) := getB' kX12_flows_0 10 rfl
theorem dX12_flows_17 : decode cX12_flows 17 = .ok (.getfield 23, 3) := getB' kX12_flows_0 11 rfl
def LX12_flows_1 : List (Nat × Instr × Nat) := [(20, .iload_n 2, 1), (21, .iaload, 1), (22, .iconst (-1), 1), (23, .if_icmp .eq 23, 3), (26, .aload_n 0, 1), (27, .getfield 396, 3), (30, .aload_n 0, 1), (31, .getfield 50, 3), (34, .iload_n 1, 1), (35, .iaload, 1), (36, .isub, 1), (37, .aload_n 0, 1)]
theorem kX12_flows_1 : chkB cX12_flows LX12_flows_1 = true := by decide +kernel
theorem dX12_flows_20 : decode cX12_flows 20 = .ok (.iload_n 2, 1) := getB' kX12_flows_1 0 rfl
theorem dX12_flows_21 : decode cX12_flows 21 = .ok (.iaload, 1) := getB' kX12_flows_1 1 rfl
theorem dX12_flows_22 : decode cX12_flows 22 = .ok (.iconst (-1), 1) := getB' kX12_flows_1 2 rfl
theorem dX12_flows_23 : decode cX12_flows 23 = .ok (.if_icmp .eq 23, 3) := getB' kX12_flows_1 3 rfl
theorem dX12_flows_26 : decode cX12_flows 26 = .ok (.aload_n 0, 1) := getB' kX12_flows_1 4 rfl
theorem dX12_flows_27 : decode cX12_flows 27 = .ok (.getfield 396, 3) := getB' kX12_flows_1 5 rfl
theorem dX12_flows_30 : decode cX12_flows 30 = .ok (.aload_n 0, 1) := getB' kX12_flows_1 6 rfl
theorem dX12_flows_31 : decode cX12_flows 31 = .ok (.getfield 50, 3) := getB' kX12_flows_1 7 rfl
theorem dX12_flows_34 : decode cX12_flows 34 = .ok (.iload_n 1, 1) := getB' kX12_flows_1 8 rfl
theorem dX12_flows_35 : decode cX12_flows 35 = .ok (.iaload, 1) := getB' kX12_flows_1 9 rfl
theorem dX12_flows_36 : decode cX12_flows 36 = .ok (.isub, 1) := getB' kX12_flows_1 10 rfl
theorem dX12_flows_37 : decode cX12_flows 37 = .ok (.aload_n 0, 1) := getB' kX12_flows_1 11 rfl
def LX12_flows_2 : List (Nat × Instr × Nat) := [(38, .getfield 26, 3), (41, .iload_n 2, 1), (42, .iaload, 1), (43, .if_icmp .ge 4, 3), (46, .return_, 1), (47, .aload_n 0, 1), (48, .getfield 23, 3), (51, .iload_n 2, 1), (52, .iaload, 1), (53, .invokestatic 639, 3), (56, .istore_n 3, 1), (57, .aload_n 0, 1)]
theorem kX12_flows_2 : chkB cX12_flows LX12_flows_2 = true := by decide +kernel
theorem dX12_flows_38 : decode cX12_flows 38 = .ok (.getfield 26, 3) := getB' kX12_flows_2 0 rfl
theorem dX12_flows_41 : decode cX12_flows 41 = .ok (.iload_n 2, 1) := getB' kX12_flows_2 1 rfl
theorem dX12_flows_42 : decode cX12_flows 42 = .ok (.iaload, 1) := getB' kX12_flows_2 2 rfl
theorem dX12_flows_43 : decode cX12_flows 43 = .ok (.if_icmp .ge 4, 3) := getB' kX12_flows_2 3 rfl
theorem dX12_flows_46 : decode cX12_flows 46 = .ok (.return_, 1) := getB' kX12_flows_2 4 rfl
theorem dX12_flows_47 : decode cX12_flows 47 = .ok (.aload_n 0, 1) := getB' kX12_flows_2 5 rfl
theorem dX12_flows_48 : decode cX12_flows 48 = .ok (.getfield 23, 3) := getB' kX12_flows_2 6 rfl
theorem dX12_flows_51 : decode cX12_flows 51 = .ok (.iload_n 2, 1) := getB' kX12_flows_2 7 rfl
theorem dX12_flows_52 : decode cX12_flows 52 = .ok (.iaload, 1) := getB' kX12_flows_2 8 rfl
theorem dX12_flows_53 : decode cX12_flows 53 = .ok (.invokestatic 639, 3) := getB' kX12_flows_2 9 rfl
theorem dX12_flows_56 : decode cX12_flows 56 = .ok (.istore_n 3, 1) := getB' kX12_flows_2 10 rfl
theorem dX12_flows_57 : decode cX12_flows 57 = .ok (.aload_n 0, 1) := getB' kX12_flows_2 11 rfl
def LX12_flows_3 : List (Nat × Instr × Nat) := [(58, .getfield 23, 3), (61, .iload_n 2, 1), (62, .iaload, 1), (63, .invokestatic 642, 3), (66, .istore 4, 2), (68, .aload_n 0, 1), (69, .iload_n 2, 1), (70, .iload_n 3, 1), (71, .iload 4, 2), (73, .invokevirtual 645, 3), (76, .istore 5, 2), (78, .iload 5, 2)]
theorem kX12_flows_3 : chkB cX12_flows LX12_flows_3 = true := by decide +kernel
theorem dX12_flows_58 : decode cX12_flows 58 = .ok (.getfield 23, 3) := getB' kX12_flows_3 0 rfl
theorem dX12_flows_61 : decode cX12_flows 61 = .ok (.iload_n 2, 1) := getB' kX12_flows_3 1 rfl
theorem dX12_flows_62 : decode cX12_flows 62 = .ok (.iaload, 1) := getB' kX12_flows_3 2 rfl
theorem dX12_flows_63 : decode cX12_flows 63 = .ok (.invokestatic 642, 3) := getB' kX12_flows_3 3 rfl
theorem dX12_flows_66 : decode cX12_flows 66 = .ok (.istore 4, 2) := getB' kX12_flows_3 4 rfl
theorem dX12_flows_68 : decode cX12_flows 68 = .ok (.aload_n 0, 1) := getB' kX12_flows_3 5 rfl
theorem dX12_flows_69 : decode cX12_flows 69 = .ok (.iload_n 2, 1) := getB' kX12_flows_3 6 rfl
theorem dX12_flows_70 : decode cX12_flows 70 = .ok (.iload_n 3, 1) := getB' kX12_flows_3 7 rfl
theorem dX12_flows_71 : decode cX12_flows 71 = .ok (.iload 4, 2) := getB' kX12_flows_3 8 rfl
theorem dX12_flows_73 : decode cX12_flows 73 = .ok (.invokevirtual 645, 3) := getB' kX12_flows_3 9 rfl
theorem dX12_flows_76 : decode cX12_flows 76 = .ok (.istore 5, 2) := getB' kX12_flows_3 10 rfl
theorem dX12_flows_78 : decode cX12_flows 78 = .ok (.iload 5, 2) := getB' kX12_flows_3 11 rfl
def LX12_flows_4 : List (Nat × Instr × Nat) := [(80, .iconst (-1), 1), (81, .if_icmp .ne 9, 3), (84, .aload_n 0, 1), (85, .iload_n 1, 1), (86, .invokevirtual 685, 3), (89, .return_, 1), (90, .aload_n 0, 1), (91, .getfield 41, 3), (94, .iload_n 1, 1), (95, .iload 5, 2), (97, .iastore, 1), (98, .aload_n 0, 1)]
theorem kX12_flows_4 : chkB cX12_flows LX12_flows_4 = true := by decide +kernel
theorem dX12_flows_80 : decode cX12_flows 80 = .ok (.iconst (-1), 1) := getB' kX12_flows_4 0 rfl
theorem dX12_flows_81 : decode cX12_flows 81 = .ok (.if_icmp .ne 9, 3) := getB' kX12_flows_4 1 rfl
theorem dX12_flows_84 : decode cX12_flows 84 = .ok (.aload_n 0, 1) := getB' kX12_flows_4 2 rfl
theorem dX12_flows_85 : decode cX12_flows 85 = .ok (.iload_n 1, 1) := getB' kX12_flows_4 3 rfl
theorem dX12_flows_86 : decode cX12_flows 86 = .ok (.invokevirtual 685, 3) := getB' kX12_flows_4 4 rfl
theorem dX12_flows_89 : decode cX12_flows 89 = .ok (.return_, 1) := getB' kX12_flows_4 5 rfl
theorem dX12_flows_90 : decode cX12_flows 90 = .ok (.aload_n 0, 1) := getB' kX12_flows_4 6 rfl
theorem dX12_flows_91 : decode cX12_flows 91 = .ok (.getfield 41, 3) := getB' kX12_flows_4 7 rfl
theorem dX12_flows_94 : decode cX12_flows 94 = .ok (.iload_n 1, 1) := getB' kX12_flows_4 8 rfl
theorem dX12_flows_95 : decode cX12_flows 95 = .ok (.iload 5, 2) := getB' kX12_flows_4 9 rfl
theorem dX12_flows_97 : decode cX12_flows 97 = .ok (.iastore, 1) := getB' kX12_flows_4 10 rfl
theorem dX12_flows_98 : decode cX12_flows 98 = .ok (.aload_n 0, 1) := getB' kX12_flows_4 11 rfl
def LX12_flows_5 : List (Nat × Instr × Nat) := [(99, .getfield 50, 3), (102, .iload_n 1, 1), (103, .aload_n 0, 1), (104, .getfield 396, 3), (107, .iastore, 1), (108, .iconst 0, 1), (109, .istore 6, 2), (111, .iload 6, 2), (113, .aload_n 0, 1), (114, .getfield 375, 3), (117, .if_icmp .ge 112, 3), (120, .aload_n 0, 1)]
theorem kX12_flows_5 : chkB cX12_flows LX12_flows_5 = true := by decide +kernel
theorem dX12_flows_99 : decode cX12_flows 99 = .ok (.getfield 50, 3) := getB' kX12_flows_5 0 rfl
theorem dX12_flows_102 : decode cX12_flows 102 = .ok (.iload_n 1, 1) := getB' kX12_flows_5 1 rfl
theorem dX12_flows_103 : decode cX12_flows 103 = .ok (.aload_n 0, 1) := getB' kX12_flows_5 2 rfl
theorem dX12_flows_104 : decode cX12_flows 104 = .ok (.getfield 396, 3) := getB' kX12_flows_5 3 rfl
theorem dX12_flows_107 : decode cX12_flows 107 = .ok (.iastore, 1) := getB' kX12_flows_5 4 rfl
theorem dX12_flows_108 : decode cX12_flows 108 = .ok (.iconst 0, 1) := getB' kX12_flows_5 5 rfl
theorem dX12_flows_109 : decode cX12_flows 109 = .ok (.istore 6, 2) := getB' kX12_flows_5 6 rfl
theorem dX12_flows_111 : decode cX12_flows 111 = .ok (.iload 6, 2) := getB' kX12_flows_5 7 rfl
theorem dX12_flows_113 : decode cX12_flows 113 = .ok (.aload_n 0, 1) := getB' kX12_flows_5 8 rfl
theorem dX12_flows_114 : decode cX12_flows 114 = .ok (.getfield 375, 3) := getB' kX12_flows_5 9 rfl
theorem dX12_flows_117 : decode cX12_flows 117 = .ok (.if_icmp .ge 112, 3) := getB' kX12_flows_5 10 rfl
theorem dX12_flows_120 : decode cX12_flows 120 = .ok (.aload_n 0, 1) := getB' kX12_flows_5 11 rfl
def LX12_flows_6 : List (Nat × Instr × Nat) := [(121, .getfield 35, 3), (124, .iload 6, 2), (126, .iaload, 1), (127, .iconst 2, 1), (128, .if_icmp .ne 95, 3), (131, .aload_n 0, 1), (132, .getfield 47, 3), (135, .iload 6, 2), (137, .iaload, 1), (138, .iload_n 1, 1), (139, .if_icmp .ne 84, 3), (142, .aload_n 0, 1)]
theorem kX12_flows_6 : chkB cX12_flows LX12_flows_6 = true := by decide +kernel
theorem dX12_flows_121 : decode cX12_flows 121 = .ok (.getfield 35, 3) := getB' kX12_flows_6 0 rfl
theorem dX12_flows_124 : decode cX12_flows 124 = .ok (.iload 6, 2) := getB' kX12_flows_6 1 rfl
theorem dX12_flows_126 : decode cX12_flows 126 = .ok (.iaload, 1) := getB' kX12_flows_6 2 rfl
theorem dX12_flows_127 : decode cX12_flows 127 = .ok (.iconst 2, 1) := getB' kX12_flows_6 3 rfl
theorem dX12_flows_128 : decode cX12_flows 128 = .ok (.if_icmp .ne 95, 3) := getB' kX12_flows_6 4 rfl
theorem dX12_flows_131 : decode cX12_flows 131 = .ok (.aload_n 0, 1) := getB' kX12_flows_6 5 rfl
theorem dX12_flows_132 : decode cX12_flows 132 = .ok (.getfield 47, 3) := getB' kX12_flows_6 6 rfl
theorem dX12_flows_135 : decode cX12_flows 135 = .ok (.iload 6, 2) := getB' kX12_flows_6 7 rfl
theorem dX12_flows_137 : decode cX12_flows 137 = .ok (.iaload, 1) := getB' kX12_flows_6 8 rfl
theorem dX12_flows_138 : decode cX12_flows 138 = .ok (.iload_n 1, 1) := getB' kX12_flows_6 9 rfl
theorem dX12_flows_139 : decode cX12_flows 139 = .ok (.if_icmp .ne 84, 3) := getB' kX12_flows_6 10 rfl
theorem dX12_flows_142 : decode cX12_flows 142 = .ok (.aload_n 0, 1) := getB' kX12_flows_6 11 rfl
def LX12_flows_7 : List (Nat × Instr × Nat) := [(143, .getfield 80, 3), (146, .iload 6, 2), (148, .baload, 1), (149, .ifCond .eq 6, 3), (152, .goto 71, 3), (155, .aload_n 0, 1), (156, .aload_n 0, 1), (157, .getfield 41, 3), (160, .iload 6, 2), (162, .iaload, 1), (163, .iload_n 3, 1), (164, .iload 4, 2)]
theorem kX12_flows_7 : chkB cX12_flows LX12_flows_7 = true := by decide +kernel
theorem dX12_flows_143 : decode cX12_flows 143 = .ok (.getfield 80, 3) := getB' kX12_flows_7 0 rfl
theorem dX12_flows_146 : decode cX12_flows 146 = .ok (.iload 6, 2) := getB' kX12_flows_7 1 rfl
theorem dX12_flows_148 : decode cX12_flows 148 = .ok (.baload, 1) := getB' kX12_flows_7 2 rfl
theorem dX12_flows_149 : decode cX12_flows 149 = .ok (.ifCond .eq 6, 3) := getB' kX12_flows_7 3 rfl
theorem dX12_flows_152 : decode cX12_flows 152 = .ok (.goto 71, 3) := getB' kX12_flows_7 4 rfl
theorem dX12_flows_155 : decode cX12_flows 155 = .ok (.aload_n 0, 1) := getB' kX12_flows_7 5 rfl
theorem dX12_flows_156 : decode cX12_flows 156 = .ok (.aload_n 0, 1) := getB' kX12_flows_7 6 rfl
theorem dX12_flows_157 : decode cX12_flows 157 = .ok (.getfield 41, 3) := getB' kX12_flows_7 7 rfl
theorem dX12_flows_160 : decode cX12_flows 160 = .ok (.iload 6, 2) := getB' kX12_flows_7 8 rfl
theorem dX12_flows_162 : decode cX12_flows 162 = .ok (.iaload, 1) := getB' kX12_flows_7 9 rfl
theorem dX12_flows_163 : decode cX12_flows 163 = .ok (.iload_n 3, 1) := getB' kX12_flows_7 10 rfl
theorem dX12_flows_164 : decode cX12_flows 164 = .ok (.iload 4, 2) := getB' kX12_flows_7 11 rfl
def LX12_flows_8 : List (Nat × Instr × Nat) := [(166, .invokevirtual 645, 3), (169, .istore 7, 2), (171, .aload_n 0, 1), (172, .getfield 80, 3), (175, .iload 6, 2), (177, .iload 7, 2), (179, .iconst (-1), 1), (180, .if_icmp .eq 12, 3), (183, .aload_n 0, 1), (184, .iload 7, 2), (186, .invokevirtual 425, 3), (189, .ifCond .ne 7, 3)]
theorem kX12_flows_8 : chkB cX12_flows LX12_flows_8 = true := by decide +kernel
theorem dX12_flows_166 : decode cX12_flows 166 = .ok (.invokevirtual 645, 3) := getB' kX12_flows_8 0 rfl
theorem dX12_flows_169 : decode cX12_flows 169 = .ok (.istore 7, 2) := getB' kX12_flows_8 1 rfl
theorem dX12_flows_171 : decode cX12_flows 171 = .ok (.aload_n 0, 1) := getB' kX12_flows_8 2 rfl
theorem dX12_flows_172 : decode cX12_flows 172 = .ok (.getfield 80, 3) := getB' kX12_flows_8 3 rfl
theorem dX12_flows_175 : decode cX12_flows 175 = .ok (.iload 6, 2) := getB' kX12_flows_8 4 rfl
theorem dX12_flows_177 : decode cX12_flows 177 = .ok (.iload 7, 2) := getB' kX12_flows_8 5 rfl
theorem dX12_flows_179 : decode cX12_flows 179 = .ok (.iconst (-1), 1) := getB' kX12_flows_8 6 rfl
theorem dX12_flows_180 : decode cX12_flows 180 = .ok (.if_icmp .eq 12, 3) := getB' kX12_flows_8 7 rfl
theorem dX12_flows_183 : decode cX12_flows 183 = .ok (.aload_n 0, 1) := getB' kX12_flows_8 8 rfl
theorem dX12_flows_184 : decode cX12_flows 184 = .ok (.iload 7, 2) := getB' kX12_flows_8 9 rfl
theorem dX12_flows_186 : decode cX12_flows 186 = .ok (.invokevirtual 425, 3) := getB' kX12_flows_8 10 rfl
theorem dX12_flows_189 : decode cX12_flows 189 = .ok (.ifCond .ne 7, 3) := getB' kX12_flows_8 11 rfl
def LX12_flows_9 : List (Nat × Instr × Nat) := [(192, .iconst 1, 1), (193, .goto 4, 3), (196, .iconst 0, 1), (197, .bastore, 1), (198, .aload_n 0, 1), (199, .getfield 41, 3), (202, .iload 6, 2), (204, .iload 7, 2), (206, .iconst (-1), 1), (207, .if_icmp .ne 13, 3), (210, .aload_n 0, 1), (211, .getfield 41, 3)]
theorem kX12_flows_9 : chkB cX12_flows LX12_flows_9 = true := by decide +kernel
theorem dX12_flows_192 : decode cX12_flows 192 = .ok (.iconst 1, 1) := getB' kX12_flows_9 0 rfl
theorem dX12_flows_193 : decode cX12_flows 193 = .ok (.goto 4, 3) := getB' kX12_flows_9 1 rfl
theorem dX12_flows_196 : decode cX12_flows 196 = .ok (.iconst 0, 1) := getB' kX12_flows_9 2 rfl
theorem dX12_flows_197 : decode cX12_flows 197 = .ok (.bastore, 1) := getB' kX12_flows_9 3 rfl
theorem dX12_flows_198 : decode cX12_flows 198 = .ok (.aload_n 0, 1) := getB' kX12_flows_9 4 rfl
theorem dX12_flows_199 : decode cX12_flows 199 = .ok (.getfield 41, 3) := getB' kX12_flows_9 5 rfl
theorem dX12_flows_202 : decode cX12_flows 202 = .ok (.iload 6, 2) := getB' kX12_flows_9 6 rfl
theorem dX12_flows_204 : decode cX12_flows 204 = .ok (.iload 7, 2) := getB' kX12_flows_9 7 rfl
theorem dX12_flows_206 : decode cX12_flows 206 = .ok (.iconst (-1), 1) := getB' kX12_flows_9 8 rfl
theorem dX12_flows_207 : decode cX12_flows 207 = .ok (.if_icmp .ne 13, 3) := getB' kX12_flows_9 9 rfl
theorem dX12_flows_210 : decode cX12_flows 210 = .ok (.aload_n 0, 1) := getB' kX12_flows_9 10 rfl
theorem dX12_flows_211 : decode cX12_flows 211 = .ok (.getfield 41, 3) := getB' kX12_flows_9 11 rfl
def LX12_flows_10 : List (Nat × Instr × Nat) := [(214, .iload 6, 2), (216, .iaload, 1), (217, .goto 5, 3), (220, .iload 7, 2), (222, .iastore, 1), (223, .iinc 6 1, 3), (226, .goto (-115), 3), (229, .aload_n 0, 1), (230, .iload 5, 2), (232, .invokevirtual 425, 3), (235, .ifCond .ne 8, 3), (238, .aload_n 0, 1)]
theorem kX12_flows_10 : chkB cX12_flows LX12_flows_10 = true := by decide +kernel
theorem dX12_flows_214 : decode cX12_flows 214 = .ok (.iload 6, 2) := getB' kX12_flows_10 0 rfl
theorem dX12_flows_216 : decode cX12_flows 216 = .ok (.iaload, 1) := getB' kX12_flows_10 1 rfl
theorem dX12_flows_217 : decode cX12_flows 217 = .ok (.goto 5, 3) := getB' kX12_flows_10 2 rfl
theorem dX12_flows_220 : decode cX12_flows 220 = .ok (.iload 7, 2) := getB' kX12_flows_10 3 rfl
theorem dX12_flows_222 : decode cX12_flows 222 = .ok (.iastore, 1) := getB' kX12_flows_10 4 rfl
theorem dX12_flows_223 : decode cX12_flows 223 = .ok (.iinc 6 1, 3) := getB' kX12_flows_10 5 rfl
theorem dX12_flows_226 : decode cX12_flows 226 = .ok (.goto (-115), 3) := getB' kX12_flows_10 6 rfl
theorem dX12_flows_229 : decode cX12_flows 229 = .ok (.aload_n 0, 1) := getB' kX12_flows_10 7 rfl
theorem dX12_flows_230 : decode cX12_flows 230 = .ok (.iload 5, 2) := getB' kX12_flows_10 8 rfl
theorem dX12_flows_232 : decode cX12_flows 232 = .ok (.invokevirtual 425, 3) := getB' kX12_flows_10 9 rfl
theorem dX12_flows_235 : decode cX12_flows 235 = .ok (.ifCond .ne 8, 3) := getB' kX12_flows_10 10 rfl
theorem dX12_flows_238 : decode cX12_flows 238 = .ok (.aload_n 0, 1) := getB' kX12_flows_10 11 rfl
def LX12_flows_11 : List (Nat × Instr × Nat) := [(239, .iload_n 1, 1), (240, .invokevirtual 685, 3), (243, .return_, 1)]
theorem kX12_flows_11 : chkB cX12_flows LX12_flows_11 = true := by decide +kernel
theorem dX12_flows_239 : decode cX12_flows 239 = .ok (.iload_n 1, 1) := getB' kX12_flows_11 0 rfl
theorem dX12_flows_240 : decode cX12_flows 240 = .ok (.invokevirtual 685, 3) := getB' kX12_flows_11 1 rfl
theorem dX12_flows_243 : decode cX12_flows 243 = .ok (.return_, 1) := getB' kX12_flows_11 2 rfl
def LX12_day_0 : List (Nat × Instr × Nat) := [(0, .aload_n 0, 1), (1, .getfield 396, 3), (4, .sipush 3599, 3), (7, .if_icmp .ne 5, 3), (10, .iconst (-1), 1), (11, .ireturn, 1), (12, .aload_n 0, 1), (13, .aload_n 0, 1), (14, .getfield 396, 3), (17, .iconst 1, 1), (18, .iadd, 1), (19, .putfield 396, 3)]
theorem kX12_day_0 : chkB cX12_day LX12_day_0 = true := by decide +kernel
theorem dX12_day_0 : decode cX12_day 0 = .ok (.aload_n 0, 1) := getB' kX12_day_0 0 rfl
theorem dX12_day_1 : decode cX12_day 1 = .ok (.getfield 396, 3) := getB' kX12_day_0 1 rfl
theorem dX12_day_4 : decode cX12_day 4 = .ok (.sipush 3599, 3) := getB' kX12_day_0 2 rfl
theorem dX12_day_7 : decode cX12_day 7 = .ok (.if_icmp .ne 5, 3) := getB' kX12_day_0 3 rfl
theorem dX12_day_10 : decode cX12_day 10 = .ok (.iconst (-1), 1) := getB' kX12_day_0 4 rfl
theorem dX12_day_11 : decode cX12_day 11 = .ok (.ireturn, 1) := getB' kX12_day_0 5 rfl
theorem dX12_day_12 : decode cX12_day 12 = .ok (.aload_n 0, 1) := getB' kX12_day_0 6 rfl
theorem dX12_day_13 : decode cX12_day 13 = .ok (.aload_n 0, 1) := getB' kX12_day_0 7 rfl
theorem dX12_day_14 : decode cX12_day 14 = .ok (.getfield 396, 3) := getB' kX12_day_0 8 rfl
theorem dX12_day_17 : decode cX12_day 17 = .ok (.iconst 1, 1) := getB' kX12_day_0 9 rfl
theorem dX12_day_18 : decode cX12_day 18 = .ok (.iadd, 1) := getB' kX12_day_0 10 rfl
theorem dX12_day_19 : decode cX12_day 19 = .ok (.putfield 396, 3) := getB' kX12_day_0 11 rfl
def LX12_day_1 : List (Nat × Instr × Nat) := [(22, .aload_n 0, 1), (23, .invokevirtual 688, 3), (26, .iconst 0, 1), (27, .istore_n 1, 1), (28, .iload_n 1, 1), (29, .aload_n 0, 1), (30, .getfield 375, 3), (33, .if_icmp .ge 30, 3), (36, .aload_n 0, 1), (37, .iload_n 1, 1), (38, .invokevirtual 433, 3), (41, .ifCond .ne 6, 3)]
theorem kX12_day_1 : chkB cX12_day LX12_day_1 = true := by decide +kernel
theorem dX12_day_22 : decode cX12_day 22 = .ok (.aload_n 0, 1) := getB' kX12_day_1 0 rfl
theorem dX12_day_23 : decode cX12_day 23 = .ok (.invokevirtual 688, 3) := getB' kX12_day_1 1 rfl
theorem dX12_day_26 : decode cX12_day 26 = .ok (.iconst 0, 1) := getB' kX12_day_1 2 rfl
theorem dX12_day_27 : decode cX12_day 27 = .ok (.istore_n 1, 1) := getB' kX12_day_1 3 rfl
theorem dX12_day_28 : decode cX12_day 28 = .ok (.iload_n 1, 1) := getB' kX12_day_1 4 rfl
theorem dX12_day_29 : decode cX12_day 29 = .ok (.aload_n 0, 1) := getB' kX12_day_1 5 rfl
theorem dX12_day_30 : decode cX12_day 30 = .ok (.getfield 375, 3) := getB' kX12_day_1 6 rfl
theorem dX12_day_33 : decode cX12_day 33 = .ok (.if_icmp .ge 30, 3) := getB' kX12_day_1 7 rfl
theorem dX12_day_36 : decode cX12_day 36 = .ok (.aload_n 0, 1) := getB' kX12_day_1 8 rfl
theorem dX12_day_37 : decode cX12_day 37 = .ok (.iload_n 1, 1) := getB' kX12_day_1 9 rfl
theorem dX12_day_38 : decode cX12_day 38 = .ok (.invokevirtual 433, 3) := getB' kX12_day_1 10 rfl
theorem dX12_day_41 : decode cX12_day 41 = .ok (.ifCond .ne 6, 3) := getB' kX12_day_1 11 rfl
def LX12_day_2 : List (Nat × Instr × Nat) := [(44, .goto 13, 3), (47, .aload_n 0, 1), (48, .iload_n 1, 1), (49, .invokevirtual 691, 3), (52, .aload_n 0, 1), (53, .iload_n 1, 1), (54, .invokevirtual 694, 3), (57, .iinc 1 1, 3), (60, .goto (-32), 3), (63, .iconst 0, 1), (64, .istore_n 1, 1), (65, .iload_n 1, 1)]
theorem kX12_day_2 : chkB cX12_day LX12_day_2 = true := by decide +kernel
theorem dX12_day_44 : decode cX12_day 44 = .ok (.goto 13, 3) := getB' kX12_day_2 0 rfl
theorem dX12_day_47 : decode cX12_day 47 = .ok (.aload_n 0, 1) := getB' kX12_day_2 1 rfl
theorem dX12_day_48 : decode cX12_day 48 = .ok (.iload_n 1, 1) := getB' kX12_day_2 2 rfl
theorem dX12_day_49 : decode cX12_day 49 = .ok (.invokevirtual 691, 3) := getB' kX12_day_2 3 rfl
theorem dX12_day_52 : decode cX12_day 52 = .ok (.aload_n 0, 1) := getB' kX12_day_2 4 rfl
theorem dX12_day_53 : decode cX12_day 53 = .ok (.iload_n 1, 1) := getB' kX12_day_2 5 rfl
theorem dX12_day_54 : decode cX12_day 54 = .ok (.invokevirtual 694, 3) := getB' kX12_day_2 6 rfl
theorem dX12_day_57 : decode cX12_day 57 = .ok (.iinc 1 1, 3) := getB' kX12_day_2 7 rfl
theorem dX12_day_60 : decode cX12_day 60 = .ok (.goto (-32), 3) := getB' kX12_day_2 8 rfl
theorem dX12_day_63 : decode cX12_day 63 = .ok (.iconst 0, 1) := getB' kX12_day_2 9 rfl
theorem dX12_day_64 : decode cX12_day 64 = .ok (.istore_n 1, 1) := getB' kX12_day_2 10 rfl
theorem dX12_day_65 : decode cX12_day 65 = .ok (.iload_n 1, 1) := getB' kX12_day_2 11 rfl
def LX12_day_3 : List (Nat × Instr × Nat) := [(66, .aload_n 0, 1), (67, .getfield 612, 3), (70, .if_icmp .ge 14, 3), (73, .aload_n 0, 1), (74, .iload_n 1, 1), (75, .invokevirtual 697, 3), (78, .iinc 1 1, 3), (81, .goto (-16), 3), (84, .iconst 0, 1), (85, .istore_n 1, 1), (86, .iload_n 1, 1), (87, .aload_n 0, 1)]
theorem kX12_day_3 : chkB cX12_day LX12_day_3 = true := by decide +kernel
theorem dX12_day_66 : decode cX12_day 66 = .ok (.aload_n 0, 1) := getB' kX12_day_3 0 rfl
theorem dX12_day_67 : decode cX12_day 67 = .ok (.getfield 612, 3) := getB' kX12_day_3 1 rfl
theorem dX12_day_70 : decode cX12_day 70 = .ok (.if_icmp .ge 14, 3) := getB' kX12_day_3 2 rfl
theorem dX12_day_73 : decode cX12_day 73 = .ok (.aload_n 0, 1) := getB' kX12_day_3 3 rfl
theorem dX12_day_74 : decode cX12_day 74 = .ok (.iload_n 1, 1) := getB' kX12_day_3 4 rfl
theorem dX12_day_75 : decode cX12_day 75 = .ok (.invokevirtual 697, 3) := getB' kX12_day_3 5 rfl
theorem dX12_day_78 : decode cX12_day 78 = .ok (.iinc 1 1, 3) := getB' kX12_day_3 6 rfl
theorem dX12_day_81 : decode cX12_day 81 = .ok (.goto (-16), 3) := getB' kX12_day_3 7 rfl
theorem dX12_day_84 : decode cX12_day 84 = .ok (.iconst 0, 1) := getB' kX12_day_3 8 rfl
theorem dX12_day_85 : decode cX12_day 85 = .ok (.istore_n 1, 1) := getB' kX12_day_3 9 rfl
theorem dX12_day_86 : decode cX12_day 86 = .ok (.iload_n 1, 1) := getB' kX12_day_3 10 rfl
theorem dX12_day_87 : decode cX12_day 87 = .ok (.aload_n 0, 1) := getB' kX12_day_3 11 rfl
def LX12_day_4 : List (Nat × Instr × Nat) := [(88, .getfield 648, 3), (91, .if_icmp .ge 14, 3), (94, .aload_n 0, 1), (95, .iload_n 1, 1), (96, .invokevirtual 700, 3), (99, .iinc 1 1, 3), (102, .goto (-16), 3), (105, .aload_n 0, 1), (106, .getfield 396, 3), (109, .ireturn, 1)]
theorem kX12_day_4 : chkB cX12_day LX12_day_4 = true := by decide +kernel
theorem dX12_day_88 : decode cX12_day 88 = .ok (.getfield 648, 3) := getB' kX12_day_4 0 rfl
theorem dX12_day_91 : decode cX12_day 91 = .ok (.if_icmp .ge 14, 3) := getB' kX12_day_4 1 rfl
theorem dX12_day_94 : decode cX12_day 94 = .ok (.aload_n 0, 1) := getB' kX12_day_4 2 rfl
theorem dX12_day_95 : decode cX12_day 95 = .ok (.iload_n 1, 1) := getB' kX12_day_4 3 rfl
theorem dX12_day_96 : decode cX12_day 96 = .ok (.invokevirtual 700, 3) := getB' kX12_day_4 4 rfl
theorem dX12_day_99 : decode cX12_day 99 = .ok (.iinc 1 1, 3) := getB' kX12_day_4 5 rfl
theorem dX12_day_102 : decode cX12_day 102 = .ok (.goto (-16), 3) := getB' kX12_day_4 6 rfl
theorem dX12_day_105 : decode cX12_day 105 = .ok (.aload_n 0, 1) := getB' kX12_day_4 7 rfl
theorem dX12_day_106 : decode cX12_day 106 = .ok (.getfield 396, 3) := getB' kX12_day_4 8 rfl
theorem dX12_day_109 : decode cX12_day 109 = .ok (.ireturn, 1) := getB' kX12_day_4 9 rfl
def LX12_sound_0 : List (Nat × Instr × Nat) := [(0, .aload_n 0, 1), (1, .iload_n 1, 1), (2, .iconst 4, 1), (3, .invokevirtual 399, 3), (6, .ifCond .eq 36, 3), (9, .iload_n 2, 1), (10, .iconst 1, 1), (11, .sipush 5000, 3), (14, .invokestatic 371, 3), (17, .ifCond .eq 25, 3), (20, .iload_n 3, 1), (21, .iconst 0, 1)]
theorem kX12_sound_0 : chkB cX12_sound LX12_sound_0 = true := by decide +kernel
theorem dX12_sound_0 : decode cX12_sound 0 = .ok (.aload_n 0, 1) := getB' kX12_sound_0 0 rfl
theorem dX12_sound_1 : decode cX12_sound 1 = .ok (.iload_n 1, 1) := getB' kX12_sound_0 1 rfl
theorem dX12_sound_2 : decode cX12_sound 2 = .ok (.iconst 4, 1) := getB' kX12_sound_0 2 rfl
theorem dX12_sound_3 : decode cX12_sound 3 = .ok (.invokevirtual 399, 3) := getB' kX12_sound_0 3 rfl
theorem dX12_sound_6 : decode cX12_sound 6 = .ok (.ifCond .eq 36, 3) := getB' kX12_sound_0 4 rfl
theorem dX12_sound_9 : decode cX12_sound 9 = .ok (.iload_n 2, 1) := getB' kX12_sound_0 5 rfl
theorem dX12_sound_10 : decode cX12_sound 10 = .ok (.iconst 1, 1) := getB' kX12_sound_0 6 rfl
theorem dX12_sound_11 : decode cX12_sound 11 = .ok (.sipush 5000, 3) := getB' kX12_sound_0 7 rfl
theorem dX12_sound_14 : decode cX12_sound 14 = .ok (.invokestatic 371, 3) := getB' kX12_sound_0 8 rfl
theorem dX12_sound_17 : decode cX12_sound 17 = .ok (.ifCond .eq 25, 3) := getB' kX12_sound_0 9 rfl
theorem dX12_sound_20 : decode cX12_sound 20 = .ok (.iload_n 3, 1) := getB' kX12_sound_0 10 rfl
theorem dX12_sound_21 : decode cX12_sound 21 = .ok (.iconst 0, 1) := getB' kX12_sound_0 11 rfl
def LX12_sound_1 : List (Nat × Instr × Nat) := [(22, .sipush 1000, 3), (25, .invokestatic 371, 3), (28, .ifCond .eq 14, 3), (31, .aload_n 0, 1), (32, .getfield 283, 3), (35, .iload_n 1, 1), (36, .iaload, 1), (37, .bipush 8, 2), (39, .if_icmp .ne 5, 3), (42, .iconst 0, 1), (43, .ireturn, 1), (44, .aload_n 0, 1)]
theorem kX12_sound_1 : chkB cX12_sound LX12_sound_1 = true := by decide +kernel
theorem dX12_sound_22 : decode cX12_sound 22 = .ok (.sipush 1000, 3) := getB' kX12_sound_1 0 rfl
theorem dX12_sound_25 : decode cX12_sound 25 = .ok (.invokestatic 371, 3) := getB' kX12_sound_1 1 rfl
theorem dX12_sound_28 : decode cX12_sound 28 = .ok (.ifCond .eq 14, 3) := getB' kX12_sound_1 2 rfl
theorem dX12_sound_31 : decode cX12_sound 31 = .ok (.aload_n 0, 1) := getB' kX12_sound_1 3 rfl
theorem dX12_sound_32 : decode cX12_sound 32 = .ok (.getfield 283, 3) := getB' kX12_sound_1 4 rfl
theorem dX12_sound_35 : decode cX12_sound 35 = .ok (.iload_n 1, 1) := getB' kX12_sound_1 5 rfl
theorem dX12_sound_36 : decode cX12_sound 36 = .ok (.iaload, 1) := getB' kX12_sound_1 6 rfl
theorem dX12_sound_37 : decode cX12_sound 37 = .ok (.bipush 8, 2) := getB' kX12_sound_1 7 rfl
theorem dX12_sound_39 : decode cX12_sound 39 = .ok (.if_icmp .ne 5, 3) := getB' kX12_sound_1 8 rfl
theorem dX12_sound_42 : decode cX12_sound 42 = .ok (.iconst 0, 1) := getB' kX12_sound_1 9 rfl
theorem dX12_sound_43 : decode cX12_sound 43 = .ok (.ireturn, 1) := getB' kX12_sound_1 10 rfl
theorem dX12_sound_44 : decode cX12_sound 44 = .ok (.aload_n 0, 1) := getB' kX12_sound_1 11 rfl
def LX12_sound_2 : List (Nat × Instr × Nat) := [(45, .getfield 286, 3), (48, .bipush 8, 2), (50, .iload_n 1, 1), (51, .imul, 1), (52, .aload_n 0, 1), (53, .getfield 283, 3), (56, .iload_n 1, 1), (57, .iaload, 1), (58, .iadd, 1), (59, .iload_n 2, 1), (60, .iastore, 1), (61, .aload_n 0, 1)]
theorem kX12_sound_2 : chkB cX12_sound LX12_sound_2 = true := by decide +kernel
theorem dX12_sound_45 : decode cX12_sound 45 = .ok (.getfield 286, 3) := getB' kX12_sound_2 0 rfl
theorem dX12_sound_48 : decode cX12_sound 48 = .ok (.bipush 8, 2) := getB' kX12_sound_2 1 rfl
theorem dX12_sound_50 : decode cX12_sound 50 = .ok (.iload_n 1, 1) := getB' kX12_sound_2 2 rfl
theorem dX12_sound_51 : decode cX12_sound 51 = .ok (.imul, 1) := getB' kX12_sound_2 3 rfl
theorem dX12_sound_52 : decode cX12_sound 52 = .ok (.aload_n 0, 1) := getB' kX12_sound_2 4 rfl
theorem dX12_sound_53 : decode cX12_sound 53 = .ok (.getfield 283, 3) := getB' kX12_sound_2 5 rfl
theorem dX12_sound_56 : decode cX12_sound 56 = .ok (.iload_n 1, 1) := getB' kX12_sound_2 6 rfl
theorem dX12_sound_57 : decode cX12_sound 57 = .ok (.iaload, 1) := getB' kX12_sound_2 7 rfl
theorem dX12_sound_58 : decode cX12_sound 58 = .ok (.iadd, 1) := getB' kX12_sound_2 8 rfl
theorem dX12_sound_59 : decode cX12_sound 59 = .ok (.iload_n 2, 1) := getB' kX12_sound_2 9 rfl
theorem dX12_sound_60 : decode cX12_sound 60 = .ok (.iastore, 1) := getB' kX12_sound_2 10 rfl
theorem dX12_sound_61 : decode cX12_sound 61 = .ok (.aload_n 0, 1) := getB' kX12_sound_2 11 rfl
def LX12_sound_3 : List (Nat × Instr × Nat) := [(62, .getfield 289, 3), (65, .bipush 8, 2), (67, .iload_n 1, 1), (68, .imul, 1), (69, .aload_n 0, 1), (70, .getfield 283, 3), (73, .iload_n 1, 1), (74, .iaload, 1), (75, .iadd, 1), (76, .iload_n 3, 1), (77, .iastore, 1), (78, .aload_n 0, 1)]
theorem kX12_sound_3 : chkB cX12_sound LX12_sound_3 = true := by decide +kernel
theorem dX12_sound_62 : decode cX12_sound 62 = .ok (.getfield 289, 3) := getB' kX12_sound_3 0 rfl
theorem dX12_sound_65 : decode cX12_sound 65 = .ok (.bipush 8, 2) := getB' kX12_sound_3 1 rfl
theorem dX12_sound_67 : decode cX12_sound 67 = .ok (.iload_n 1, 1) := getB' kX12_sound_3 2 rfl
theorem dX12_sound_68 : decode cX12_sound 68 = .ok (.imul, 1) := getB' kX12_sound_3 3 rfl
theorem dX12_sound_69 : decode cX12_sound 69 = .ok (.aload_n 0, 1) := getB' kX12_sound_3 4 rfl
theorem dX12_sound_70 : decode cX12_sound 70 = .ok (.getfield 283, 3) := getB' kX12_sound_3 5 rfl
theorem dX12_sound_73 : decode cX12_sound 73 = .ok (.iload_n 1, 1) := getB' kX12_sound_3 6 rfl
theorem dX12_sound_74 : decode cX12_sound 74 = .ok (.iaload, 1) := getB' kX12_sound_3 7 rfl
theorem dX12_sound_75 : decode cX12_sound 75 = .ok (.iadd, 1) := getB' kX12_sound_3 8 rfl
theorem dX12_sound_76 : decode cX12_sound 76 = .ok (.iload_n 3, 1) := getB' kX12_sound_3 9 rfl
theorem dX12_sound_77 : decode cX12_sound 77 = .ok (.iastore, 1) := getB' kX12_sound_3 10 rfl
theorem dX12_sound_78 : decode cX12_sound 78 = .ok (.aload_n 0, 1) := getB' kX12_sound_3 11 rfl
def LX12_sound_4 : List (Nat × Instr × Nat) := [(79, .getfield 283, 3), (82, .iload_n 1, 1), (83, .aload_n 0, 1), (84, .getfield 283, 3), (87, .iload_n 1, 1), (88, .iaload, 1), (89, .iconst 1, 1), (90, .iadd, 1), (91, .iastore, 1), (92, .iconst 1, 1), (93, .ireturn, 1)]
theorem kX12_sound_4 : chkB cX12_sound LX12_sound_4 = true := by decide +kernel
theorem dX12_sound_79 : decode cX12_sound 79 = .ok (.getfield 283, 3) := getB' kX12_sound_4 0 rfl
theorem dX12_sound_82 : decode cX12_sound 82 = .ok (.iload_n 1, 1) := getB' kX12_sound_4 1 rfl
theorem dX12_sound_83 : decode cX12_sound 83 = .ok (.aload_n 0, 1) := getB' kX12_sound_4 2 rfl
theorem dX12_sound_84 : decode cX12_sound 84 = .ok (.getfield 283, 3) := getB' kX12_sound_4 3 rfl
theorem dX12_sound_87 : decode cX12_sound 87 = .ok (.iload_n 1, 1) := getB' kX12_sound_4 4 rfl
theorem dX12_sound_88 : decode cX12_sound 88 = .ok (.iaload, 1) := getB' kX12_sound_4 5 rfl
theorem dX12_sound_89 : decode cX12_sound 89 = .ok (.iconst 1, 1) := getB' kX12_sound_4 6 rfl
theorem dX12_sound_90 : decode cX12_sound 90 = .ok (.iadd, 1) := getB' kX12_sound_4 7 rfl
theorem dX12_sound_91 : decode cX12_sound 91 = .ok (.iastore, 1) := getB' kX12_sound_4 8 rfl
theorem dX12_sound_92 : decode cX12_sound 92 = .ok (.iconst 1, 1) := getB' kX12_sound_4 9 rfl
theorem dX12_sound_93 : decode cX12_sound 93 = .ok (.ireturn, 1) := getB' kX12_sound_4 10 rfl
def LX12_sureOf_0 : List (Nat × Instr × Nat) := [(0, .aload_n 0, 1), (1, .getfield 283, 3), (4, .iload_n 1, 1), (5, .iaload, 1), (6, .ifCond .ne 5, 3), (9, .iconst 0, 1), (10, .ireturn, 1), (11, .ldc_w 663, 3), (14, .istore_n 2, 1), (15, .ldc_w 638, 3), (18, .istore_n 3, 1), (19, .ldc_w 638, 3)]
theorem kX12_sureOf_0 : chkB cX12_sureOf LX12_sureOf_0 = true := by decide +kernel
theorem dX12_sureOf_0 : decode cX12_sureOf 0 = .ok (.aload_n 0, 1) := getB' kX12_sureOf_0 0 rfl
theorem dX12_sureOf_1 : decode cX12_sureOf 1 = .ok (.getfield 283, 3) := getB' kX12_sureOf_0 1 rfl
theorem dX12_sureOf_4 : decode cX12_sureOf 4 = .ok (.iload_n 1, 1) := getB' kX12_sureOf_0 2 rfl
theorem dX12_sureOf_5 : decode cX12_sureOf 5 = .ok (.iaload, 1) := getB' kX12_sureOf_0 3 rfl
theorem dX12_sureOf_6 : decode cX12_sureOf 6 = .ok (.ifCond .ne 5, 3) := getB' kX12_sureOf_0 4 rfl
theorem dX12_sureOf_9 : decode cX12_sureOf 9 = .ok (.iconst 0, 1) := getB' kX12_sureOf_0 5 rfl
theorem dX12_sureOf_10 : decode cX12_sureOf 10 = .ok (.ireturn, 1) := getB' kX12_sureOf_0 6 rfl
theorem dX12_sureOf_11 : decode cX12_sureOf 11 = .ok (.ldc_w 663, 3) := getB' kX12_sureOf_0 7 rfl
theorem dX12_sureOf_14 : decode cX12_sureOf 14 = .ok (.istore_n 2, 1) := getB' kX12_sureOf_0 8 rfl
theorem dX12_sureOf_15 : decode cX12_sureOf 15 = .ok (.ldc_w 638, 3) := getB' kX12_sureOf_0 9 rfl
theorem dX12_sureOf_18 : decode cX12_sureOf 18 = .ok (.istore_n 3, 1) := getB' kX12_sureOf_0 10 rfl
theorem dX12_sureOf_19 : decode cX12_sureOf 19 = .ok (.ldc_w 638, 3) := getB' kX12_sureOf_0 11 rfl
def LX12_sureOf_1 : List (Nat × Instr × Nat) := [(22, .istore 4, 2), (24, .bipush 8, 2), (26, .iload_n 1, 1), (27, .imul, 1), (28, .istore 5, 2), (30, .iload 5, 2), (32, .bipush 8, 2), (34, .iload_n 1, 1), (35, .imul, 1), (36, .aload_n 0, 1), (37, .getfield 283, 3), (40, .iload_n 1, 1)]
theorem kX12_sureOf_1 : chkB cX12_sureOf LX12_sureOf_1 = true := by decide +kernel
theorem dX12_sureOf_22 : decode cX12_sureOf 22 = .ok (.istore 4, 2) := getB' kX12_sureOf_1 0 rfl
theorem dX12_sureOf_24 : decode cX12_sureOf 24 = .ok (.bipush 8, 2) := getB' kX12_sureOf_1 1 rfl
theorem dX12_sureOf_26 : decode cX12_sureOf 26 = .ok (.iload_n 1, 1) := getB' kX12_sureOf_1 2 rfl
theorem dX12_sureOf_27 : decode cX12_sureOf 27 = .ok (.imul, 1) := getB' kX12_sureOf_1 3 rfl
theorem dX12_sureOf_28 : decode cX12_sureOf 28 = .ok (.istore 5, 2) := getB' kX12_sureOf_1 4 rfl
theorem dX12_sureOf_30 : decode cX12_sureOf 30 = .ok (.iload 5, 2) := getB' kX12_sureOf_1 5 rfl
theorem dX12_sureOf_32 : decode cX12_sureOf 32 = .ok (.bipush 8, 2) := getB' kX12_sureOf_1 6 rfl
theorem dX12_sureOf_34 : decode cX12_sureOf 34 = .ok (.iload_n 1, 1) := getB' kX12_sureOf_1 7 rfl
theorem dX12_sureOf_35 : decode cX12_sureOf 35 = .ok (.imul, 1) := getB' kX12_sureOf_1 8 rfl
theorem dX12_sureOf_36 : decode cX12_sureOf 36 = .ok (.aload_n 0, 1) := getB' kX12_sureOf_1 9 rfl
theorem dX12_sureOf_37 : decode cX12_sureOf 37 = .ok (.getfield 283, 3) := getB' kX12_sureOf_1 10 rfl
theorem dX12_sureOf_40 : decode cX12_sureOf 40 = .ok (.iload_n 1, 1) := getB' kX12_sureOf_1 11 rfl
def LX12_sureOf_2 : List (Nat × Instr × Nat) := [(41, .iaload, 1), (42, .iadd, 1), (43, .if_icmp .ge 85, 3), (46, .aload_n 0, 1), (47, .getfield 286, 3), (50, .iload 5, 2), (52, .iaload, 1), (53, .aload_n 0, 1), (54, .getfield 289, 3), (57, .iload 5, 2), (59, .iaload, 1), (60, .isub, 1)]
theorem kX12_sureOf_2 : chkB cX12_sureOf LX12_sureOf_2 = true := by decide +kernel
theorem dX12_sureOf_41 : decode cX12_sureOf 41 = .ok (.iaload, 1) := getB' kX12_sureOf_2 0 rfl
theorem dX12_sureOf_42 : decode cX12_sureOf 42 = .ok (.iadd, 1) := getB' kX12_sureOf_2 1 rfl
theorem dX12_sureOf_43 : decode cX12_sureOf 43 = .ok (.if_icmp .ge 85, 3) := getB' kX12_sureOf_2 2 rfl
theorem dX12_sureOf_46 : decode cX12_sureOf 46 = .ok (.aload_n 0, 1) := getB' kX12_sureOf_2 3 rfl
theorem dX12_sureOf_47 : decode cX12_sureOf 47 = .ok (.getfield 286, 3) := getB' kX12_sureOf_2 4 rfl
theorem dX12_sureOf_50 : decode cX12_sureOf 50 = .ok (.iload 5, 2) := getB' kX12_sureOf_2 5 rfl
theorem dX12_sureOf_52 : decode cX12_sureOf 52 = .ok (.iaload, 1) := getB' kX12_sureOf_2 6 rfl
theorem dX12_sureOf_53 : decode cX12_sureOf 53 = .ok (.aload_n 0, 1) := getB' kX12_sureOf_2 7 rfl
theorem dX12_sureOf_54 : decode cX12_sureOf 54 = .ok (.getfield 289, 3) := getB' kX12_sureOf_2 8 rfl
theorem dX12_sureOf_57 : decode cX12_sureOf 57 = .ok (.iload 5, 2) := getB' kX12_sureOf_2 9 rfl
theorem dX12_sureOf_59 : decode cX12_sureOf 59 = .ok (.iaload, 1) := getB' kX12_sureOf_2 10 rfl
theorem dX12_sureOf_60 : decode cX12_sureOf 60 = .ok (.isub, 1) := getB' kX12_sureOf_2 11 rfl
def LX12_sureOf_3 : List (Nat × Instr × Nat) := [(61, .istore 6, 2), (63, .aload_n 0, 1), (64, .getfield 286, 3), (67, .iload 5, 2), (69, .iaload, 1), (70, .aload_n 0, 1), (71, .getfield 289, 3), (74, .iload 5, 2), (76, .iaload, 1), (77, .iadd, 1), (78, .istore 7, 2), (80, .iload 6, 2)]
theorem kX12_sureOf_3 : chkB cX12_sureOf LX12_sureOf_3 = true := by decide +kernel
theorem dX12_sureOf_61 : decode cX12_sureOf 61 = .ok (.istore 6, 2) := getB' kX12_sureOf_3 0 rfl
theorem dX12_sureOf_63 : decode cX12_sureOf 63 = .ok (.aload_n 0, 1) := getB' kX12_sureOf_3 1 rfl
theorem dX12_sureOf_64 : decode cX12_sureOf 64 = .ok (.getfield 286, 3) := getB' kX12_sureOf_3 2 rfl
theorem dX12_sureOf_67 : decode cX12_sureOf 67 = .ok (.iload 5, 2) := getB' kX12_sureOf_3 3 rfl
theorem dX12_sureOf_69 : decode cX12_sureOf 69 = .ok (.iaload, 1) := getB' kX12_sureOf_3 4 rfl
theorem dX12_sureOf_70 : decode cX12_sureOf 70 = .ok (.aload_n 0, 1) := getB' kX12_sureOf_3 5 rfl
theorem dX12_sureOf_71 : decode cX12_sureOf 71 = .ok (.getfield 289, 3) := getB' kX12_sureOf_3 6 rfl
theorem dX12_sureOf_74 : decode cX12_sureOf 74 = .ok (.iload 5, 2) := getB' kX12_sureOf_3 7 rfl
theorem dX12_sureOf_76 : decode cX12_sureOf 76 = .ok (.iaload, 1) := getB' kX12_sureOf_3 8 rfl
theorem dX12_sureOf_77 : decode cX12_sureOf 77 = .ok (.iadd, 1) := getB' kX12_sureOf_3 9 rfl
theorem dX12_sureOf_78 : decode cX12_sureOf 78 = .ok (.istore 7, 2) := getB' kX12_sureOf_3 10 rfl
theorem dX12_sureOf_80 : decode cX12_sureOf 80 = .ok (.iload 6, 2) := getB' kX12_sureOf_3 11 rfl
def LX12_sureOf_4 : List (Nat × Instr × Nat) := [(82, .iload_n 2, 1), (83, .if_icmp .le 8, 3), (86, .iload 6, 2), (88, .goto 4, 3), (91, .iload_n 2, 1), (92, .istore_n 2, 1), (93, .iload 6, 2), (95, .iload_n 3, 1), (96, .if_icmp .ge 8, 3), (99, .iload 6, 2), (101, .goto 4, 3), (104, .iload_n 3, 1)]
theorem kX12_sureOf_4 : chkB cX12_sureOf LX12_sureOf_4 = true := by decide +kernel
theorem dX12_sureOf_82 : decode cX12_sureOf 82 = .ok (.iload_n 2, 1) := getB' kX12_sureOf_4 0 rfl
theorem dX12_sureOf_83 : decode cX12_sureOf 83 = .ok (.if_icmp .le 8, 3) := getB' kX12_sureOf_4 1 rfl
theorem dX12_sureOf_86 : decode cX12_sureOf 86 = .ok (.iload 6, 2) := getB' kX12_sureOf_4 2 rfl
theorem dX12_sureOf_88 : decode cX12_sureOf 88 = .ok (.goto 4, 3) := getB' kX12_sureOf_4 3 rfl
theorem dX12_sureOf_91 : decode cX12_sureOf 91 = .ok (.iload_n 2, 1) := getB' kX12_sureOf_4 4 rfl
theorem dX12_sureOf_92 : decode cX12_sureOf 92 = .ok (.istore_n 2, 1) := getB' kX12_sureOf_4 5 rfl
theorem dX12_sureOf_93 : decode cX12_sureOf 93 = .ok (.iload 6, 2) := getB' kX12_sureOf_4 6 rfl
theorem dX12_sureOf_95 : decode cX12_sureOf 95 = .ok (.iload_n 3, 1) := getB' kX12_sureOf_4 7 rfl
theorem dX12_sureOf_96 : decode cX12_sureOf 96 = .ok (.if_icmp .ge 8, 3) := getB' kX12_sureOf_4 8 rfl
theorem dX12_sureOf_99 : decode cX12_sureOf 99 = .ok (.iload 6, 2) := getB' kX12_sureOf_4 9 rfl
theorem dX12_sureOf_101 : decode cX12_sureOf 101 = .ok (.goto 4, 3) := getB' kX12_sureOf_4 10 rfl
theorem dX12_sureOf_104 : decode cX12_sureOf 104 = .ok (.iload_n 3, 1) := getB' kX12_sureOf_4 11 rfl
def LX12_sureOf_5 : List (Nat × Instr × Nat) := [(105, .istore_n 3, 1), (106, .iload 7, 2), (108, .iload 4, 2), (110, .if_icmp .ge 8, 3), (113, .iload 7, 2), (115, .goto 5, 3), (118, .iload 4, 2), (120, .istore 4, 2), (122, .iinc 5 1, 3), (125, .goto (-95), 3), (128, .iload_n 2, 1), (129, .iload 4, 2)]
theorem kX12_sureOf_5 : chkB cX12_sureOf LX12_sureOf_5 = true := by decide +kernel
theorem dX12_sureOf_105 : decode cX12_sureOf 105 = .ok (.istore_n 3, 1) := getB' kX12_sureOf_5 0 rfl
theorem dX12_sureOf_106 : decode cX12_sureOf 106 = .ok (.iload 7, 2) := getB' kX12_sureOf_5 1 rfl
theorem dX12_sureOf_108 : decode cX12_sureOf 108 = .ok (.iload 4, 2) := getB' kX12_sureOf_5 2 rfl
theorem dX12_sureOf_110 : decode cX12_sureOf 110 = .ok (.if_icmp .ge 8, 3) := getB' kX12_sureOf_5 3 rfl
theorem dX12_sureOf_113 : decode cX12_sureOf 113 = .ok (.iload 7, 2) := getB' kX12_sureOf_5 4 rfl
theorem dX12_sureOf_115 : decode cX12_sureOf 115 = .ok (.goto 5, 3) := getB' kX12_sureOf_5 5 rfl
theorem dX12_sureOf_118 : decode cX12_sureOf 118 = .ok (.iload 4, 2) := getB' kX12_sureOf_5 6 rfl
theorem dX12_sureOf_120 : decode cX12_sureOf 120 = .ok (.istore 4, 2) := getB' kX12_sureOf_5 7 rfl
theorem dX12_sureOf_122 : decode cX12_sureOf 122 = .ok (.iinc 5 1, 3) := getB' kX12_sureOf_5 8 rfl
theorem dX12_sureOf_125 : decode cX12_sureOf 125 = .ok (.goto (-95), 3) := getB' kX12_sureOf_5 9 rfl
theorem dX12_sureOf_128 : decode cX12_sureOf 128 = .ok (.iload_n 2, 1) := getB' kX12_sureOf_5 10 rfl
theorem dX12_sureOf_129 : decode cX12_sureOf 129 = .ok (.iload 4, 2) := getB' kX12_sureOf_5 11 rfl
def LX12_sureOf_6 : List (Nat × Instr × Nat) := [(131, .if_icmp .gt 7, 3), (134, .iload_n 2, 1), (135, .goto 4, 3), (138, .iload_n 3, 1), (139, .istore 5, 2), (141, .iload 5, 2), (143, .ifCond .ge 7, 3), (146, .iconst 0, 1), (147, .goto 5, 3), (150, .iload 5, 2), (152, .ireturn, 1)]
theorem kX12_sureOf_6 : chkB cX12_sureOf LX12_sureOf_6 = true := by decide +kernel
theorem dX12_sureOf_131 : decode cX12_sureOf 131 = .ok (.if_icmp .gt 7, 3) := getB' kX12_sureOf_6 0 rfl
theorem dX12_sureOf_134 : decode cX12_sureOf 134 = .ok (.iload_n 2, 1) := getB' kX12_sureOf_6 1 rfl
theorem dX12_sureOf_135 : decode cX12_sureOf 135 = .ok (.goto 4, 3) := getB' kX12_sureOf_6 2 rfl
theorem dX12_sureOf_138 : decode cX12_sureOf 138 = .ok (.iload_n 3, 1) := getB' kX12_sureOf_6 3 rfl
theorem dX12_sureOf_139 : decode cX12_sureOf 139 = .ok (.istore 5, 2) := getB' kX12_sureOf_6 4 rfl
theorem dX12_sureOf_141 : decode cX12_sureOf 141 = .ok (.iload 5, 2) := getB' kX12_sureOf_6 5 rfl
theorem dX12_sureOf_143 : decode cX12_sureOf 143 = .ok (.ifCond .ge 7, 3) := getB' kX12_sureOf_6 6 rfl
theorem dX12_sureOf_146 : decode cX12_sureOf 146 = .ok (.iconst 0, 1) := getB' kX12_sureOf_6 7 rfl
theorem dX12_sureOf_147 : decode cX12_sureOf 147 = .ok (.goto 5, 3) := getB' kX12_sureOf_6 8 rfl
theorem dX12_sureOf_150 : decode cX12_sureOf 150 = .ok (.iload 5, 2) := getB' kX12_sureOf_6 9 rfl
theorem dX12_sureOf_152 : decode cX12_sureOf 152 = .ok (.ireturn, 1) := getB' kX12_sureOf_6 10 rfl
def LX12_sure : List (Nat × Instr × Nat) := [(0, .aload_n 0, 1), (1, .iload_n 1, 1), (2, .iconst 4, 1), (3, .invokevirtual 399, 3), (6, .ifCond .eq 11, 3), (9, .aload_n 0, 1), (10, .iload_n 1, 1), (11, .invokevirtual 703, 3), (14, .goto 4, 3), (17, .iconst (-1), 1), (18, .ireturn, 1)]
theorem kX12_sure : chkB cX12_sure LX12_sure = true := by decide +kernel
theorem dX12_sure_0 : decode cX12_sure 0 = .ok (.aload_n 0, 1) := getB' kX12_sure 0 rfl
theorem dX12_sure_1 : decode cX12_sure 1 = .ok (.iload_n 1, 1) := getB' kX12_sure 1 rfl
theorem dX12_sure_2 : decode cX12_sure 2 = .ok (.iconst 4, 1) := getB' kX12_sure 2 rfl
theorem dX12_sure_3 : decode cX12_sure 3 = .ok (.invokevirtual 399, 3) := getB' kX12_sure 3 rfl
theorem dX12_sure_6 : decode cX12_sure 6 = .ok (.ifCond .eq 11, 3) := getB' kX12_sure 4 rfl
theorem dX12_sure_9 : decode cX12_sure 9 = .ok (.aload_n 0, 1) := getB' kX12_sure 5 rfl
theorem dX12_sure_10 : decode cX12_sure 10 = .ok (.iload_n 1, 1) := getB' kX12_sure 6 rfl
theorem dX12_sure_11 : decode cX12_sure 11 = .ok (.invokevirtual 703, 3) := getB' kX12_sure 7 rfl
theorem dX12_sure_14 : decode cX12_sure 14 = .ok (.goto 4, 3) := getB' kX12_sure 8 rfl
theorem dX12_sure_17 : decode cX12_sure 17 = .ok (.iconst (-1), 1) := getB' kX12_sure 9 rfl
theorem dX12_sure_18 : decode cX12_sure 18 = .ok (.ireturn, 1) := getB' kX12_sure 10 rfl
def LX12_drill_0 : List (Nat × Instr × Nat) := [(0, .aload_n 0, 1), (1, .iload_n 1, 1), (2, .iconst 4, 1), (3, .invokevirtual 399, 3), (6, .ifCond .eq 45, 3), (9, .aload_n 0, 1), (10, .iload_n 2, 1), (11, .invokevirtual 566, 3), (14, .ifCond .eq 37, 3), (17, .aload_n 0, 1), (18, .getfield 163, 3), (21, .iload_n 2, 1)]
theorem kX12_drill_0 : chkB cX12_drill LX12_drill_0 = true := by decide +kernel
theorem dX12_drill_0 : decode cX12_drill 0 = .ok (.aload_n 0, 1) := getB' kX12_drill_0 0 rfl
theorem dX12_drill_1 : decode cX12_drill 1 = .ok (.iload_n 1, 1) := getB' kX12_drill_0 1 rfl
theorem dX12_drill_2 : decode cX12_drill 2 = .ok (.iconst 4, 1) := getB' kX12_drill_0 2 rfl
theorem dX12_drill_3 : decode cX12_drill 3 = .ok (.invokevirtual 399, 3) := getB' kX12_drill_0 3 rfl
theorem dX12_drill_6 : decode cX12_drill 6 = .ok (.ifCond .eq 45, 3) := getB' kX12_drill_0 4 rfl
theorem dX12_drill_9 : decode cX12_drill 9 = .ok (.aload_n 0, 1) := getB' kX12_drill_0 5 rfl
theorem dX12_drill_10 : decode cX12_drill 10 = .ok (.iload_n 2, 1) := getB' kX12_drill_0 6 rfl
theorem dX12_drill_11 : decode cX12_drill 11 = .ok (.invokevirtual 566, 3) := getB' kX12_drill_0 7 rfl
theorem dX12_drill_14 : decode cX12_drill 14 = .ok (.ifCond .eq 37, 3) := getB' kX12_drill_0 8 rfl
theorem dX12_drill_17 : decode cX12_drill 17 = .ok (.aload_n 0, 1) := getB' kX12_drill_0 9 rfl
theorem dX12_drill_18 : decode cX12_drill 18 = .ok (.getfield 163, 3) := getB' kX12_drill_0 10 rfl
theorem dX12_drill_21 : decode cX12_drill 21 = .ok (.iload_n 2, 1) := getB' kX12_drill_0 11 rfl
def LX12_drill_1 : List (Nat × Instr × Nat) := [(22, .iaload, 1), (23, .iconst 2, 1), (24, .if_icmp .ne 27, 3), (27, .aload_n 0, 1), (28, .getfield 169, 3), (31, .iload_n 2, 1), (32, .iaload, 1), (33, .aload_n 0, 1), (34, .getfield 41, 3), (37, .iload_n 1, 1), (38, .iaload, 1), (39, .if_icmp .ne 12, 3)]
theorem kX12_drill_1 : chkB cX12_drill LX12_drill_1 = true := by decide +kernel
theorem dX12_drill_22 : decode cX12_drill 22 = .ok (.iaload, 1) := getB' kX12_drill_1 0 rfl
theorem dX12_drill_23 : decode cX12_drill 23 = .ok (.iconst 2, 1) := getB' kX12_drill_1 1 rfl
theorem dX12_drill_24 : decode cX12_drill 24 = .ok (.if_icmp .ne 27, 3) := getB' kX12_drill_1 2 rfl
theorem dX12_drill_27 : decode cX12_drill 27 = .ok (.aload_n 0, 1) := getB' kX12_drill_1 3 rfl
theorem dX12_drill_28 : decode cX12_drill 28 = .ok (.getfield 169, 3) := getB' kX12_drill_1 4 rfl
theorem dX12_drill_31 : decode cX12_drill 31 = .ok (.iload_n 2, 1) := getB' kX12_drill_1 5 rfl
theorem dX12_drill_32 : decode cX12_drill 32 = .ok (.iaload, 1) := getB' kX12_drill_1 6 rfl
theorem dX12_drill_33 : decode cX12_drill 33 = .ok (.aload_n 0, 1) := getB' kX12_drill_1 7 rfl
theorem dX12_drill_34 : decode cX12_drill 34 = .ok (.getfield 41, 3) := getB' kX12_drill_1 8 rfl
theorem dX12_drill_37 : decode cX12_drill 37 = .ok (.iload_n 1, 1) := getB' kX12_drill_1 9 rfl
theorem dX12_drill_38 : decode cX12_drill 38 = .ok (.iaload, 1) := getB' kX12_drill_1 10 rfl
theorem dX12_drill_39 : decode cX12_drill 39 = .ok (.if_icmp .ne 12, 3) := getB' kX12_drill_1 11 rfl
def LX12_drill_2 : List (Nat × Instr × Nat) := [(42, .aload_n 0, 1), (43, .getfield 667, 3), (46, .bipush 10, 2), (48, .if_icmp .ne 5, 3), (51, .iconst (-1), 1), (52, .ireturn, 1), (53, .aload_n 0, 1), (54, .getfield 292, 3), (57, .aload_n 0, 1), (58, .getfield 667, 3), (61, .iload_n 1, 1), (62, .iastore, 1)]
theorem kX12_drill_2 : chkB cX12_drill LX12_drill_2 = true := by decide +kernel
theorem dX12_drill_42 : decode cX12_drill 42 = .ok (.aload_n 0, 1) := getB' kX12_drill_2 0 rfl
theorem dX12_drill_43 : decode cX12_drill 43 = .ok (.getfield 667, 3) := getB' kX12_drill_2 1 rfl
theorem dX12_drill_46 : decode cX12_drill 46 = .ok (.bipush 10, 2) := getB' kX12_drill_2 2 rfl
theorem dX12_drill_48 : decode cX12_drill 48 = .ok (.if_icmp .ne 5, 3) := getB' kX12_drill_2 3 rfl
theorem dX12_drill_51 : decode cX12_drill 51 = .ok (.iconst (-1), 1) := getB' kX12_drill_2 4 rfl
theorem dX12_drill_52 : decode cX12_drill 52 = .ok (.ireturn, 1) := getB' kX12_drill_2 5 rfl
theorem dX12_drill_53 : decode cX12_drill 53 = .ok (.aload_n 0, 1) := getB' kX12_drill_2 6 rfl
theorem dX12_drill_54 : decode cX12_drill 54 = .ok (.getfield 292, 3) := getB' kX12_drill_2 7 rfl
theorem dX12_drill_57 : decode cX12_drill 57 = .ok (.aload_n 0, 1) := getB' kX12_drill_2 8 rfl
theorem dX12_drill_58 : decode cX12_drill 58 = .ok (.getfield 667, 3) := getB' kX12_drill_2 9 rfl
theorem dX12_drill_61 : decode cX12_drill 61 = .ok (.iload_n 1, 1) := getB' kX12_drill_2 10 rfl
theorem dX12_drill_62 : decode cX12_drill 62 = .ok (.iastore, 1) := getB' kX12_drill_2 11 rfl
def LX12_drill_3 : List (Nat × Instr × Nat) := [(63, .aload_n 0, 1), (64, .getfield 295, 3), (67, .aload_n 0, 1), (68, .getfield 667, 3), (71, .iload_n 2, 1), (72, .iastore, 1), (73, .aload_n 0, 1), (74, .aload_n 0, 1), (75, .getfield 667, 3), (78, .iconst 1, 1), (79, .iadd, 1), (80, .putfield 667, 3)]
theorem kX12_drill_3 : chkB cX12_drill LX12_drill_3 = true := by decide +kernel
theorem dX12_drill_63 : decode cX12_drill 63 = .ok (.aload_n 0, 1) := getB' kX12_drill_3 0 rfl
theorem dX12_drill_64 : decode cX12_drill 64 = .ok (.getfield 295, 3) := getB' kX12_drill_3 1 rfl
theorem dX12_drill_67 : decode cX12_drill 67 = .ok (.aload_n 0, 1) := getB' kX12_drill_3 2 rfl
theorem dX12_drill_68 : decode cX12_drill 68 = .ok (.getfield 667, 3) := getB' kX12_drill_3 3 rfl
theorem dX12_drill_71 : decode cX12_drill 71 = .ok (.iload_n 2, 1) := getB' kX12_drill_3 4 rfl
theorem dX12_drill_72 : decode cX12_drill 72 = .ok (.iastore, 1) := getB' kX12_drill_3 5 rfl
theorem dX12_drill_73 : decode cX12_drill 73 = .ok (.aload_n 0, 1) := getB' kX12_drill_3 6 rfl
theorem dX12_drill_74 : decode cX12_drill 74 = .ok (.aload_n 0, 1) := getB' kX12_drill_3 7 rfl
theorem dX12_drill_75 : decode cX12_drill 75 = .ok (.getfield 667, 3) := getB' kX12_drill_3 8 rfl
theorem dX12_drill_78 : decode cX12_drill 78 = .ok (.iconst 1, 1) := getB' kX12_drill_3 9 rfl
theorem dX12_drill_79 : decode cX12_drill 79 = .ok (.iadd, 1) := getB' kX12_drill_3 10 rfl
theorem dX12_drill_80 : decode cX12_drill 80 = .ok (.putfield 667, 3) := getB' kX12_drill_3 11 rfl
def LX12_drill_4 : List (Nat × Instr × Nat) := [(83, .aload_n 0, 1), (84, .getfield 667, 3), (87, .iconst 1, 1), (88, .isub, 1), (89, .ireturn, 1)]
theorem kX12_drill_4 : chkB cX12_drill LX12_drill_4 = true := by decide +kernel
theorem dX12_drill_83 : decode cX12_drill 83 = .ok (.aload_n 0, 1) := getB' kX12_drill_4 0 rfl
theorem dX12_drill_84 : decode cX12_drill 84 = .ok (.getfield 667, 3) := getB' kX12_drill_4 1 rfl
theorem dX12_drill_87 : decode cX12_drill 87 = .ok (.iconst 1, 1) := getB' kX12_drill_4 2 rfl
theorem dX12_drill_88 : decode cX12_drill 88 = .ok (.isub, 1) := getB' kX12_drill_4 3 rfl
theorem dX12_drill_89 : decode cX12_drill 89 = .ok (.ireturn, 1) := getB' kX12_drill_4 4 rfl
def LX12_speed_0 : List (Nat × Instr × Nat) := [(0, .iload_n 1, 1), (1, .iconst (-1), 1), (2, .if_icmp .ne 21, 3), (5, .iload_n 2, 1), (6, .iconst 0, 1), (7, .sipush 1000, 3), (10, .invokestatic 371, 3), (13, .ifCond .eq 10, 3), (16, .aload_n 0, 1), (17, .iload_n 2, 1), (18, .putfield 280, 3), (21, .iconst 1, 1)]
theorem kX12_speed_0 : chkB cX12_speed LX12_speed_0 = true := by decide +kernel
theorem dX12_speed_0 : decode cX12_speed 0 = .ok (.iload_n 1, 1) := getB' kX12_speed_0 0 rfl
theorem dX12_speed_1 : decode cX12_speed 1 = .ok (.iconst (-1), 1) := getB' kX12_speed_0 1 rfl
theorem dX12_speed_2 : decode cX12_speed 2 = .ok (.if_icmp .ne 21, 3) := getB' kX12_speed_0 2 rfl
theorem dX12_speed_5 : decode cX12_speed 5 = .ok (.iload_n 2, 1) := getB' kX12_speed_0 3 rfl
theorem dX12_speed_6 : decode cX12_speed 6 = .ok (.iconst 0, 1) := getB' kX12_speed_0 4 rfl
theorem dX12_speed_7 : decode cX12_speed 7 = .ok (.sipush 1000, 3) := getB' kX12_speed_0 5 rfl
theorem dX12_speed_10 : decode cX12_speed 10 = .ok (.invokestatic 371, 3) := getB' kX12_speed_0 6 rfl
theorem dX12_speed_13 : decode cX12_speed 13 = .ok (.ifCond .eq 10, 3) := getB' kX12_speed_0 7 rfl
theorem dX12_speed_16 : decode cX12_speed 16 = .ok (.aload_n 0, 1) := getB' kX12_speed_0 8 rfl
theorem dX12_speed_17 : decode cX12_speed 17 = .ok (.iload_n 2, 1) := getB' kX12_speed_0 9 rfl
theorem dX12_speed_18 : decode cX12_speed 18 = .ok (.putfield 280, 3) := getB' kX12_speed_0 10 rfl
theorem dX12_speed_21 : decode cX12_speed 21 = .ok (.iconst 1, 1) := getB' kX12_speed_0 11 rfl
def LX12_speed_1 : List (Nat × Instr × Nat) := [(22, .ireturn, 1), (23, .iload_n 1, 1), (24, .iconst 0, 1), (25, .bipush 9, 2), (27, .invokestatic 371, 3), (30, .ifCond .eq 14, 3), (33, .iload_n 2, 1), (34, .iconst 1, 1), (35, .sipush 200, 3), (38, .invokestatic 371, 3), (41, .ifCond .ne 5, 3), (44, .iconst 0, 1)]
theorem kX12_speed_1 : chkB cX12_speed LX12_speed_1 = true := by decide +kernel
theorem dX12_speed_22 : decode cX12_speed 22 = .ok (.ireturn, 1) := getB' kX12_speed_1 0 rfl
theorem dX12_speed_23 : decode cX12_speed 23 = .ok (.iload_n 1, 1) := getB' kX12_speed_1 1 rfl
theorem dX12_speed_24 : decode cX12_speed 24 = .ok (.iconst 0, 1) := getB' kX12_speed_1 2 rfl
theorem dX12_speed_25 : decode cX12_speed 25 = .ok (.bipush 9, 2) := getB' kX12_speed_1 3 rfl
theorem dX12_speed_27 : decode cX12_speed 27 = .ok (.invokestatic 371, 3) := getB' kX12_speed_1 4 rfl
theorem dX12_speed_30 : decode cX12_speed 30 = .ok (.ifCond .eq 14, 3) := getB' kX12_speed_1 5 rfl
theorem dX12_speed_33 : decode cX12_speed 33 = .ok (.iload_n 2, 1) := getB' kX12_speed_1 6 rfl
theorem dX12_speed_34 : decode cX12_speed 34 = .ok (.iconst 1, 1) := getB' kX12_speed_1 7 rfl
theorem dX12_speed_35 : decode cX12_speed 35 = .ok (.sipush 200, 3) := getB' kX12_speed_1 8 rfl
theorem dX12_speed_38 : decode cX12_speed 38 = .ok (.invokestatic 371, 3) := getB' kX12_speed_1 9 rfl
theorem dX12_speed_41 : decode cX12_speed 41 = .ok (.ifCond .ne 5, 3) := getB' kX12_speed_1 10 rfl
theorem dX12_speed_44 : decode cX12_speed 44 = .ok (.iconst 0, 1) := getB' kX12_speed_1 11 rfl
def LX12_speed_2 : List (Nat × Instr × Nat) := [(45, .ireturn, 1), (46, .aload_n 0, 1), (47, .getfield 301, 3), (50, .iload_n 1, 1), (51, .iload_n 2, 1), (52, .iastore, 1), (53, .iconst 1, 1), (54, .ireturn, 1)]
theorem kX12_speed_2 : chkB cX12_speed LX12_speed_2 = true := by decide +kernel
theorem dX12_speed_45 : decode cX12_speed 45 = .ok (.ireturn, 1) := getB' kX12_speed_2 0 rfl
theorem dX12_speed_46 : decode cX12_speed 46 = .ok (.aload_n 0, 1) := getB' kX12_speed_2 1 rfl
theorem dX12_speed_47 : decode cX12_speed 47 = .ok (.getfield 301, 3) := getB' kX12_speed_2 2 rfl
theorem dX12_speed_50 : decode cX12_speed 50 = .ok (.iload_n 1, 1) := getB' kX12_speed_2 3 rfl
theorem dX12_speed_51 : decode cX12_speed 51 = .ok (.iload_n 2, 1) := getB' kX12_speed_2 4 rfl
theorem dX12_speed_52 : decode cX12_speed 52 = .ok (.iastore, 1) := getB' kX12_speed_2 5 rfl
theorem dX12_speed_53 : decode cX12_speed 53 = .ok (.iconst 1, 1) := getB' kX12_speed_2 6 rfl
theorem dX12_speed_54 : decode cX12_speed 54 = .ok (.ireturn, 1) := getB' kX12_speed_2 7 rfl
def LX12_goesDown_0 : List (Nat × Instr × Nat) := [(0, .aload_n 0, 1), (1, .getfield 298, 3), (4, .iload_n 1, 1), (5, .iaload, 1), (6, .sipush 500, 3), (9, .idiv, 1), (10, .bipush 9, 2), (12, .if_icmp .le 8, 3), (15, .bipush 9, 2), (17, .goto 13, 3), (20, .aload_n 0, 1), (21, .getfield 298, 3)]
theorem kX12_goesDown_0 : chkB cX12_goesDown LX12_goesDown_0 = true := by decide +kernel
theorem dX12_goesDown_0 : decode cX12_goesDown 0 = .ok (.aload_n 0, 1) := getB' kX12_goesDown_0 0 rfl
theorem dX12_goesDown_1 : decode cX12_goesDown 1 = .ok (.getfield 298, 3) := getB' kX12_goesDown_0 1 rfl
theorem dX12_goesDown_4 : decode cX12_goesDown 4 = .ok (.iload_n 1, 1) := getB' kX12_goesDown_0 2 rfl
theorem dX12_goesDown_5 : decode cX12_goesDown 5 = .ok (.iaload, 1) := getB' kX12_goesDown_0 3 rfl
theorem dX12_goesDown_6 : decode cX12_goesDown 6 = .ok (.sipush 500, 3) := getB' kX12_goesDown_0 4 rfl
theorem dX12_goesDown_9 : decode cX12_goesDown 9 = .ok (.idiv, 1) := getB' kX12_goesDown_0 5 rfl
theorem dX12_goesDown_10 : decode cX12_goesDown 10 = .ok (.bipush 9, 2) := getB' kX12_goesDown_0 6 rfl
theorem dX12_goesDown_12 : decode cX12_goesDown 12 = .ok (.if_icmp .le 8, 3) := getB' kX12_goesDown_0 7 rfl
theorem dX12_goesDown_15 : decode cX12_goesDown 15 = .ok (.bipush 9, 2) := getB' kX12_goesDown_0 8 rfl
theorem dX12_goesDown_17 : decode cX12_goesDown 17 = .ok (.goto 13, 3) := getB' kX12_goesDown_0 9 rfl
theorem dX12_goesDown_20 : decode cX12_goesDown 20 = .ok (.aload_n 0, 1) := getB' kX12_goesDown_0 10 rfl
theorem dX12_goesDown_21 : decode cX12_goesDown 21 = .ok (.getfield 298, 3) := getB' kX12_goesDown_0 11 rfl
def LX12_goesDown_1 : List (Nat × Instr × Nat) := [(24, .iload_n 1, 1), (25, .iaload, 1), (26, .sipush 500, 3), (29, .idiv, 1), (30, .istore_n 2, 1), (31, .aload_n 0, 1), (32, .getfield 298, 3), (35, .iload_n 1, 1), (36, .iaload, 1), (37, .aload_n 0, 1), (38, .getfield 301, 3), (41, .iload_n 2, 1)]
theorem kX12_goesDown_1 : chkB cX12_goesDown LX12_goesDown_1 = true := by decide +kernel
theorem dX12_goesDown_24 : decode cX12_goesDown 24 = .ok (.iload_n 1, 1) := getB' kX12_goesDown_1 0 rfl
theorem dX12_goesDown_25 : decode cX12_goesDown 25 = .ok (.iaload, 1) := getB' kX12_goesDown_1 1 rfl
theorem dX12_goesDown_26 : decode cX12_goesDown 26 = .ok (.sipush 500, 3) := getB' kX12_goesDown_1 2 rfl
theorem dX12_goesDown_29 : decode cX12_goesDown 29 = .ok (.idiv, 1) := getB' kX12_goesDown_1 3 rfl
theorem dX12_goesDown_30 : decode cX12_goesDown 30 = .ok (.istore_n 2, 1) := getB' kX12_goesDown_1 4 rfl
theorem dX12_goesDown_31 : decode cX12_goesDown 31 = .ok (.aload_n 0, 1) := getB' kX12_goesDown_1 5 rfl
theorem dX12_goesDown_32 : decode cX12_goesDown 32 = .ok (.getfield 298, 3) := getB' kX12_goesDown_1 6 rfl
theorem dX12_goesDown_35 : decode cX12_goesDown 35 = .ok (.iload_n 1, 1) := getB' kX12_goesDown_1 7 rfl
theorem dX12_goesDown_36 : decode cX12_goesDown 36 = .ok (.iaload, 1) := getB' kX12_goesDown_1 8 rfl
theorem dX12_goesDown_37 : decode cX12_goesDown 37 = .ok (.aload_n 0, 1) := getB' kX12_goesDown_1 9 rfl
theorem dX12_goesDown_38 : decode cX12_goesDown 38 = .ok (.getfield 301, 3) := getB' kX12_goesDown_1 10 rfl
theorem dX12_goesDown_41 : decode cX12_goesDown 41 = .ok (.iload_n 2, 1) := getB' kX12_goesDown_1 11 rfl
def LX12_goesDown_2 : List (Nat × Instr × Nat) := [(42, .iaload, 1), (43, .iadd, 1), (44, .istore_n 3, 1), (45, .aload_n 0, 1), (46, .aload_n 0, 1), (47, .getfield 292, 3), (50, .iload_n 1, 1), (51, .iaload, 1), (52, .invokevirtual 703, 3), (55, .aload_n 0, 1), (56, .getfield 280, 3), (59, .isub, 1)]
theorem kX12_goesDown_2 : chkB cX12_goesDown LX12_goesDown_2 = true := by decide +kernel
theorem dX12_goesDown_42 : decode cX12_goesDown 42 = .ok (.iaload, 1) := getB' kX12_goesDown_2 0 rfl
theorem dX12_goesDown_43 : decode cX12_goesDown 43 = .ok (.iadd, 1) := getB' kX12_goesDown_2 1 rfl
theorem dX12_goesDown_44 : decode cX12_goesDown 44 = .ok (.istore_n 3, 1) := getB' kX12_goesDown_2 2 rfl
theorem dX12_goesDown_45 : decode cX12_goesDown 45 = .ok (.aload_n 0, 1) := getB' kX12_goesDown_2 3 rfl
theorem dX12_goesDown_46 : decode cX12_goesDown 46 = .ok (.aload_n 0, 1) := getB' kX12_goesDown_2 4 rfl
theorem dX12_goesDown_47 : decode cX12_goesDown 47 = .ok (.getfield 292, 3) := getB' kX12_goesDown_2 5 rfl
theorem dX12_goesDown_50 : decode cX12_goesDown 50 = .ok (.iload_n 1, 1) := getB' kX12_goesDown_2 6 rfl
theorem dX12_goesDown_51 : decode cX12_goesDown 51 = .ok (.iaload, 1) := getB' kX12_goesDown_2 7 rfl
theorem dX12_goesDown_52 : decode cX12_goesDown 52 = .ok (.invokevirtual 703, 3) := getB' kX12_goesDown_2 8 rfl
theorem dX12_goesDown_55 : decode cX12_goesDown 55 = .ok (.aload_n 0, 1) := getB' kX12_goesDown_2 9 rfl
theorem dX12_goesDown_56 : decode cX12_goesDown 56 = .ok (.getfield 280, 3) := getB' kX12_goesDown_2 10 rfl
theorem dX12_goesDown_59 : decode cX12_goesDown 59 = .ok (.isub, 1) := getB' kX12_goesDown_2 11 rfl
def LX12_goesDown_3 : List (Nat × Instr × Nat) := [(60, .istore 4, 2), (62, .iload_n 3, 1), (63, .iload 4, 2), (65, .if_icmp .ge 7, 3), (68, .iload_n 3, 1), (69, .goto 5, 3), (72, .iload 4, 2), (74, .istore_n 3, 1), (75, .aload_n 0, 1), (76, .getfield 298, 3), (79, .iload_n 1, 1), (80, .iload_n 3, 1)]
theorem kX12_goesDown_3 : chkB cX12_goesDown LX12_goesDown_3 = true := by decide +kernel
theorem dX12_goesDown_60 : decode cX12_goesDown 60 = .ok (.istore 4, 2) := getB' kX12_goesDown_3 0 rfl
theorem dX12_goesDown_62 : decode cX12_goesDown 62 = .ok (.iload_n 3, 1) := getB' kX12_goesDown_3 1 rfl
theorem dX12_goesDown_63 : decode cX12_goesDown 63 = .ok (.iload 4, 2) := getB' kX12_goesDown_3 2 rfl
theorem dX12_goesDown_65 : decode cX12_goesDown 65 = .ok (.if_icmp .ge 7, 3) := getB' kX12_goesDown_3 3 rfl
theorem dX12_goesDown_68 : decode cX12_goesDown 68 = .ok (.iload_n 3, 1) := getB' kX12_goesDown_3 4 rfl
theorem dX12_goesDown_69 : decode cX12_goesDown 69 = .ok (.goto 5, 3) := getB' kX12_goesDown_3 5 rfl
theorem dX12_goesDown_72 : decode cX12_goesDown 72 = .ok (.iload 4, 2) := getB' kX12_goesDown_3 6 rfl
theorem dX12_goesDown_74 : decode cX12_goesDown 74 = .ok (.istore_n 3, 1) := getB' kX12_goesDown_3 7 rfl
theorem dX12_goesDown_75 : decode cX12_goesDown 75 = .ok (.aload_n 0, 1) := getB' kX12_goesDown_3 8 rfl
theorem dX12_goesDown_76 : decode cX12_goesDown 76 = .ok (.getfield 298, 3) := getB' kX12_goesDown_3 9 rfl
theorem dX12_goesDown_79 : decode cX12_goesDown 79 = .ok (.iload_n 1, 1) := getB' kX12_goesDown_3 10 rfl
theorem dX12_goesDown_80 : decode cX12_goesDown 80 = .ok (.iload_n 3, 1) := getB' kX12_goesDown_3 11 rfl
def LX12_goesDown_4 : List (Nat × Instr × Nat) := [(81, .aload_n 0, 1), (82, .getfield 298, 3), (85, .iload_n 1, 1), (86, .iaload, 1), (87, .if_icmp .le 7, 3), (90, .iload_n 3, 1), (91, .goto 9, 3), (94, .aload_n 0, 1), (95, .getfield 298, 3), (98, .iload_n 1, 1), (99, .iaload, 1), (100, .iastore, 1)]
theorem kX12_goesDown_4 : chkB cX12_goesDown LX12_goesDown_4 = true := by decide +kernel
theorem dX12_goesDown_81 : decode cX12_goesDown 81 = .ok (.aload_n 0, 1) := getB' kX12_goesDown_4 0 rfl
theorem dX12_goesDown_82 : decode cX12_goesDown 82 = .ok (.getfield 298, 3) := getB' kX12_goesDown_4 1 rfl
theorem dX12_goesDown_85 : decode cX12_goesDown 85 = .ok (.iload_n 1, 1) := getB' kX12_goesDown_4 2 rfl
theorem dX12_goesDown_86 : decode cX12_goesDown 86 = .ok (.iaload, 1) := getB' kX12_goesDown_4 3 rfl
theorem dX12_goesDown_87 : decode cX12_goesDown 87 = .ok (.if_icmp .le 7, 3) := getB' kX12_goesDown_4 4 rfl
theorem dX12_goesDown_90 : decode cX12_goesDown 90 = .ok (.iload_n 3, 1) := getB' kX12_goesDown_4 5 rfl
theorem dX12_goesDown_91 : decode cX12_goesDown 91 = .ok (.goto 9, 3) := getB' kX12_goesDown_4 6 rfl
theorem dX12_goesDown_94 : decode cX12_goesDown 94 = .ok (.aload_n 0, 1) := getB' kX12_goesDown_4 7 rfl
theorem dX12_goesDown_95 : decode cX12_goesDown 95 = .ok (.getfield 298, 3) := getB' kX12_goesDown_4 8 rfl
theorem dX12_goesDown_98 : decode cX12_goesDown 98 = .ok (.iload_n 1, 1) := getB' kX12_goesDown_4 9 rfl
theorem dX12_goesDown_99 : decode cX12_goesDown 99 = .ok (.iaload, 1) := getB' kX12_goesDown_4 10 rfl
theorem dX12_goesDown_100 : decode cX12_goesDown 100 = .ok (.iastore, 1) := getB' kX12_goesDown_4 11 rfl
def LX12_goesDown_5 : List (Nat × Instr × Nat) := [(101, .return_, 1)]
theorem kX12_goesDown_5 : chkB cX12_goesDown LX12_goesDown_5 = true := by decide +kernel
theorem dX12_goesDown_101 : decode cX12_goesDown 101 = .ok (.return_, 1) := getB' kX12_goesDown_5 0 rfl
def LX12_birds_0 : List (Nat × Instr × Nat) := [(0, .aload_n 0, 1), (1, .iload_n 1, 1), (2, .iconst 5, 1), (3, .invokevirtual 399, 3), (6, .ifCond .eq 24, 3), (9, .iload_n 2, 1), (10, .iconst 0, 1), (11, .bipush 9, 2), (13, .invokestatic 371, 3), (16, .ifCond .eq 14, 3), (19, .iload_n 3, 1), (20, .iconst 0, 1)]
theorem kX12_birds_0 : chkB cX12_birds LX12_birds_0 = true := by decide +kernel
theorem dX12_birds_0 : decode cX12_birds 0 = .ok (.aload_n 0, 1) := getB' kX12_birds_0 0 rfl
theorem dX12_birds_1 : decode cX12_birds 1 = .ok (.iload_n 1, 1) := getB' kX12_birds_0 1 rfl
theorem dX12_birds_2 : decode cX12_birds 2 = .ok (.iconst 5, 1) := getB' kX12_birds_0 2 rfl
theorem dX12_birds_3 : decode cX12_birds 3 = .ok (.invokevirtual 399, 3) := getB' kX12_birds_0 3 rfl
theorem dX12_birds_6 : decode cX12_birds 6 = .ok (.ifCond .eq 24, 3) := getB' kX12_birds_0 4 rfl
theorem dX12_birds_9 : decode cX12_birds 9 = .ok (.iload_n 2, 1) := getB' kX12_birds_0 5 rfl
theorem dX12_birds_10 : decode cX12_birds 10 = .ok (.iconst 0, 1) := getB' kX12_birds_0 6 rfl
theorem dX12_birds_11 : decode cX12_birds 11 = .ok (.bipush 9, 2) := getB' kX12_birds_0 7 rfl
theorem dX12_birds_13 : decode cX12_birds 13 = .ok (.invokestatic 371, 3) := getB' kX12_birds_0 8 rfl
theorem dX12_birds_16 : decode cX12_birds 16 = .ok (.ifCond .eq 14, 3) := getB' kX12_birds_0 9 rfl
theorem dX12_birds_19 : decode cX12_birds 19 = .ok (.iload_n 3, 1) := getB' kX12_birds_0 10 rfl
theorem dX12_birds_20 : decode cX12_birds 20 = .ok (.iconst 0, 1) := getB' kX12_birds_0 11 rfl
def LX12_birds_1 : List (Nat × Instr × Nat) := [(21, .ldc_w 428, 3), (24, .invokestatic 371, 3), (27, .ifCond .ne 5, 3), (30, .iconst 0, 1), (31, .ireturn, 1), (32, .aload_n 0, 1), (33, .getfield 77, 3), (36, .bipush 10, 2), (38, .iload_n 1, 1), (39, .imul, 1), (40, .iload_n 2, 1), (41, .iadd, 1)]
theorem kX12_birds_1 : chkB cX12_birds LX12_birds_1 = true := by decide +kernel
theorem dX12_birds_21 : decode cX12_birds 21 = .ok (.ldc_w 428, 3) := getB' kX12_birds_1 0 rfl
theorem dX12_birds_24 : decode cX12_birds 24 = .ok (.invokestatic 371, 3) := getB' kX12_birds_1 1 rfl
theorem dX12_birds_27 : decode cX12_birds 27 = .ok (.ifCond .ne 5, 3) := getB' kX12_birds_1 2 rfl
theorem dX12_birds_30 : decode cX12_birds 30 = .ok (.iconst 0, 1) := getB' kX12_birds_1 3 rfl
theorem dX12_birds_31 : decode cX12_birds 31 = .ok (.ireturn, 1) := getB' kX12_birds_1 4 rfl
theorem dX12_birds_32 : decode cX12_birds 32 = .ok (.aload_n 0, 1) := getB' kX12_birds_1 5 rfl
theorem dX12_birds_33 : decode cX12_birds 33 = .ok (.getfield 77, 3) := getB' kX12_birds_1 6 rfl
theorem dX12_birds_36 : decode cX12_birds 36 = .ok (.bipush 10, 2) := getB' kX12_birds_1 7 rfl
theorem dX12_birds_38 : decode cX12_birds 38 = .ok (.iload_n 1, 1) := getB' kX12_birds_1 8 rfl
theorem dX12_birds_39 : decode cX12_birds 39 = .ok (.imul, 1) := getB' kX12_birds_1 9 rfl
theorem dX12_birds_40 : decode cX12_birds 40 = .ok (.iload_n 2, 1) := getB' kX12_birds_1 10 rfl
theorem dX12_birds_41 : decode cX12_birds 41 = .ok (.iadd, 1) := getB' kX12_birds_1 11 rfl
def LX12_birds_2 : List (Nat × Instr × Nat) := [(42, .iload_n 3, 1), (43, .iastore, 1), (44, .iconst 1, 1), (45, .ireturn, 1)]
theorem kX12_birds_2 : chkB cX12_birds LX12_birds_2 = true := by decide +kernel
theorem dX12_birds_42 : decode cX12_birds 42 = .ok (.iload_n 3, 1) := getB' kX12_birds_2 0 rfl
theorem dX12_birds_43 : decode cX12_birds 43 = .ok (.iastore, 1) := getB' kX12_birds_2 1 rfl
theorem dX12_birds_44 : decode cX12_birds 44 = .ok (.iconst 1, 1) := getB' kX12_birds_2 2 rfl
theorem dX12_birds_45 : decode cX12_birds 45 = .ok (.ireturn, 1) := getB' kX12_birds_2 3 rfl
def LX12_part : List (Nat × Instr × Nat) := [(0, .iload_n 0, 1), (1, .iload_n 1, 1), (2, .imul, 1), (3, .bipush 99, 2), (5, .iadd, 1), (6, .bipush 100, 2), (8, .idiv, 1), (9, .ireturn, 1)]
theorem kX12_part : chkB cX12_part LX12_part = true := by decide +kernel
theorem dX12_part_0 : decode cX12_part 0 = .ok (.iload_n 0, 1) := getB' kX12_part 0 rfl
theorem dX12_part_1 : decode cX12_part 1 = .ok (.iload_n 1, 1) := getB' kX12_part 1 rfl
theorem dX12_part_2 : decode cX12_part 2 = .ok (.imul, 1) := getB' kX12_part 2 rfl
theorem dX12_part_3 : decode cX12_part 3 = .ok (.bipush 99, 2) := getB' kX12_part 3 rfl
theorem dX12_part_5 : decode cX12_part 5 = .ok (.iadd, 1) := getB' kX12_part 4 rfl
theorem dX12_part_6 : decode cX12_part 6 = .ok (.bipush 100, 2) := getB' kX12_part 5 rfl
theorem dX12_part_8 : decode cX12_part 8 = .ok (.idiv, 1) := getB' kX12_part 6 rfl
theorem dX12_part_9 : decode cX12_part 9 = .ok (.ireturn, 1) := getB' kX12_part 7 rfl
def LX12_loss_0 : List (Nat × Instr × Nat) := [(0, .aload_n 0, 1), (1, .iload_n 1, 1), (2, .iconst 5, 1), (3, .invokevirtual 399, 3), (6, .ifCond .eq 46, 3), (9, .iload_n 2, 1), (10, .iconst 0, 1), (11, .bipush 9, 2), (13, .invokestatic 371, 3), (16, .ifCond .eq 36, 3), (19, .iload_n 3, 1), (20, .iload_n 2, 1)]
theorem kX12_loss_0 : chkB cX12_loss LX12_loss_0 = true := by decide +kernel
theorem dX12_loss_0 : decode cX12_loss 0 = .ok (.aload_n 0, 1) := getB' kX12_loss_0 0 rfl
theorem dX12_loss_1 : decode cX12_loss 1 = .ok (.iload_n 1, 1) := getB' kX12_loss_0 1 rfl
theorem dX12_loss_2 : decode cX12_loss 2 = .ok (.iconst 5, 1) := getB' kX12_loss_0 2 rfl
theorem dX12_loss_3 : decode cX12_loss 3 = .ok (.invokevirtual 399, 3) := getB' kX12_loss_0 3 rfl
theorem dX12_loss_6 : decode cX12_loss 6 = .ok (.ifCond .eq 46, 3) := getB' kX12_loss_0 4 rfl
theorem dX12_loss_9 : decode cX12_loss 9 = .ok (.iload_n 2, 1) := getB' kX12_loss_0 5 rfl
theorem dX12_loss_10 : decode cX12_loss 10 = .ok (.iconst 0, 1) := getB' kX12_loss_0 6 rfl
theorem dX12_loss_11 : decode cX12_loss 11 = .ok (.bipush 9, 2) := getB' kX12_loss_0 7 rfl
theorem dX12_loss_13 : decode cX12_loss 13 = .ok (.invokestatic 371, 3) := getB' kX12_loss_0 8 rfl
theorem dX12_loss_16 : decode cX12_loss 16 = .ok (.ifCond .eq 36, 3) := getB' kX12_loss_0 9 rfl
theorem dX12_loss_19 : decode cX12_loss 19 = .ok (.iload_n 3, 1) := getB' kX12_loss_0 10 rfl
theorem dX12_loss_20 : decode cX12_loss 20 = .ok (.iload_n 2, 1) := getB' kX12_loss_0 11 rfl
def LX12_loss_1 : List (Nat × Instr × Nat) := [(21, .iconst 1, 1), (22, .iadd, 1), (23, .bipush 9, 2), (25, .invokestatic 371, 3), (28, .ifCond .eq 24, 3), (31, .iload 4, 2), (33, .iconst 0, 1), (34, .bipush 99, 2), (36, .invokestatic 371, 3), (39, .ifCond .eq 13, 3), (42, .iload 5, 2), (44, .iconst 0, 1)]
theorem kX12_loss_1 : chkB cX12_loss LX12_loss_1 = true := by decide +kernel
theorem dX12_loss_21 : decode cX12_loss 21 = .ok (.iconst 1, 1) := getB' kX12_loss_1 0 rfl
theorem dX12_loss_22 : decode cX12_loss 22 = .ok (.iadd, 1) := getB' kX12_loss_1 1 rfl
theorem dX12_loss_23 : decode cX12_loss 23 = .ok (.bipush 9, 2) := getB' kX12_loss_1 2 rfl
theorem dX12_loss_25 : decode cX12_loss 25 = .ok (.invokestatic 371, 3) := getB' kX12_loss_1 3 rfl
theorem dX12_loss_28 : decode cX12_loss 28 = .ok (.ifCond .eq 24, 3) := getB' kX12_loss_1 4 rfl
theorem dX12_loss_31 : decode cX12_loss 31 = .ok (.iload 4, 2) := getB' kX12_loss_1 5 rfl
theorem dX12_loss_33 : decode cX12_loss 33 = .ok (.iconst 0, 1) := getB' kX12_loss_1 6 rfl
theorem dX12_loss_34 : decode cX12_loss 34 = .ok (.bipush 99, 2) := getB' kX12_loss_1 7 rfl
theorem dX12_loss_36 : decode cX12_loss 36 = .ok (.invokestatic 371, 3) := getB' kX12_loss_1 8 rfl
theorem dX12_loss_39 : decode cX12_loss 39 = .ok (.ifCond .eq 13, 3) := getB' kX12_loss_1 9 rfl
theorem dX12_loss_42 : decode cX12_loss 42 = .ok (.iload 5, 2) := getB' kX12_loss_1 10 rfl
theorem dX12_loss_44 : decode cX12_loss 44 = .ok (.iconst 0, 1) := getB' kX12_loss_1 11 rfl
def LX12_loss_2 : List (Nat × Instr × Nat) := [(45, .iconst 1, 1), (46, .invokestatic 371, 3), (49, .ifCond .ne 7, 3), (52, .ldc_w 663, 3), (55, .ireturn, 1), (56, .aload_n 0, 1), (57, .getfield 77, 3), (60, .bipush 10, 2), (62, .iload_n 1, 1), (63, .imul, 1), (64, .iload_n 2, 1), (65, .iadd, 1)]
theorem kX12_loss_2 : chkB cX12_loss LX12_loss_2 = true := by decide +kernel
theorem dX12_loss_45 : decode cX12_loss 45 = .ok (.iconst 1, 1) := getB' kX12_loss_2 0 rfl
theorem dX12_loss_46 : decode cX12_loss 46 = .ok (.invokestatic 371, 3) := getB' kX12_loss_2 1 rfl
theorem dX12_loss_49 : decode cX12_loss 49 = .ok (.ifCond .ne 7, 3) := getB' kX12_loss_2 2 rfl
theorem dX12_loss_52 : decode cX12_loss 52 = .ok (.ldc_w 663, 3) := getB' kX12_loss_2 3 rfl
theorem dX12_loss_55 : decode cX12_loss 55 = .ok (.ireturn, 1) := getB' kX12_loss_2 4 rfl
theorem dX12_loss_56 : decode cX12_loss 56 = .ok (.aload_n 0, 1) := getB' kX12_loss_2 5 rfl
theorem dX12_loss_57 : decode cX12_loss 57 = .ok (.getfield 77, 3) := getB' kX12_loss_2 6 rfl
theorem dX12_loss_60 : decode cX12_loss 60 = .ok (.bipush 10, 2) := getB' kX12_loss_2 7 rfl
theorem dX12_loss_62 : decode cX12_loss 62 = .ok (.iload_n 1, 1) := getB' kX12_loss_2 8 rfl
theorem dX12_loss_63 : decode cX12_loss 63 = .ok (.imul, 1) := getB' kX12_loss_2 9 rfl
theorem dX12_loss_64 : decode cX12_loss 64 = .ok (.iload_n 2, 1) := getB' kX12_loss_2 10 rfl
theorem dX12_loss_65 : decode cX12_loss 65 = .ok (.iadd, 1) := getB' kX12_loss_2 11 rfl
def LX12_loss_3 : List (Nat × Instr × Nat) := [(66, .iaload, 1), (67, .istore 6, 2), (69, .aload_n 0, 1), (70, .getfield 77, 3), (73, .bipush 10, 2), (75, .iload_n 1, 1), (76, .imul, 1), (77, .iload_n 3, 1), (78, .iadd, 1), (79, .iaload, 1), (80, .istore 7, 2), (82, .iload 6, 2)]
theorem kX12_loss_3 : chkB cX12_loss LX12_loss_3 = true := by decide +kernel
theorem dX12_loss_66 : decode cX12_loss 66 = .ok (.iaload, 1) := getB' kX12_loss_3 0 rfl
theorem dX12_loss_67 : decode cX12_loss 67 = .ok (.istore 6, 2) := getB' kX12_loss_3 1 rfl
theorem dX12_loss_69 : decode cX12_loss 69 = .ok (.aload_n 0, 1) := getB' kX12_loss_3 2 rfl
theorem dX12_loss_70 : decode cX12_loss 70 = .ok (.getfield 77, 3) := getB' kX12_loss_3 3 rfl
theorem dX12_loss_73 : decode cX12_loss 73 = .ok (.bipush 10, 2) := getB' kX12_loss_3 4 rfl
theorem dX12_loss_75 : decode cX12_loss 75 = .ok (.iload_n 1, 1) := getB' kX12_loss_3 5 rfl
theorem dX12_loss_76 : decode cX12_loss 76 = .ok (.imul, 1) := getB' kX12_loss_3 6 rfl
theorem dX12_loss_77 : decode cX12_loss 77 = .ok (.iload_n 3, 1) := getB' kX12_loss_3 7 rfl
theorem dX12_loss_78 : decode cX12_loss 78 = .ok (.iadd, 1) := getB' kX12_loss_3 8 rfl
theorem dX12_loss_79 : decode cX12_loss 79 = .ok (.iaload, 1) := getB' kX12_loss_3 9 rfl
theorem dX12_loss_80 : decode cX12_loss 80 = .ok (.istore 7, 2) := getB' kX12_loss_3 10 rfl
theorem dX12_loss_82 : decode cX12_loss 82 = .ok (.iload 6, 2) := getB' kX12_loss_3 11 rfl
def LX12_loss_4 : List (Nat × Instr × Nat) := [(84, .iconst (-1), 1), (85, .if_icmp .eq 9, 3), (88, .iload 7, 2), (90, .iconst (-1), 1), (91, .if_icmp .ne 7, 3), (94, .ldc_w 663, 3), (97, .ireturn, 1), (98, .iload 6, 2), (100, .iload 4, 2), (102, .invokestatic 706, 3), (105, .iload 7, 2), (107, .iload 4, 2)]
theorem kX12_loss_4 : chkB cX12_loss LX12_loss_4 = true := by decide +kernel
theorem dX12_loss_84 : decode cX12_loss 84 = .ok (.iconst (-1), 1) := getB' kX12_loss_4 0 rfl
theorem dX12_loss_85 : decode cX12_loss 85 = .ok (.if_icmp .eq 9, 3) := getB' kX12_loss_4 1 rfl
theorem dX12_loss_88 : decode cX12_loss 88 = .ok (.iload 7, 2) := getB' kX12_loss_4 2 rfl
theorem dX12_loss_90 : decode cX12_loss 90 = .ok (.iconst (-1), 1) := getB' kX12_loss_4 3 rfl
theorem dX12_loss_91 : decode cX12_loss 91 = .ok (.if_icmp .ne 7, 3) := getB' kX12_loss_4 4 rfl
theorem dX12_loss_94 : decode cX12_loss 94 = .ok (.ldc_w 663, 3) := getB' kX12_loss_4 5 rfl
theorem dX12_loss_97 : decode cX12_loss 97 = .ok (.ireturn, 1) := getB' kX12_loss_4 6 rfl
theorem dX12_loss_98 : decode cX12_loss 98 = .ok (.iload 6, 2) := getB' kX12_loss_4 7 rfl
theorem dX12_loss_100 : decode cX12_loss 100 = .ok (.iload 4, 2) := getB' kX12_loss_4 8 rfl
theorem dX12_loss_102 : decode cX12_loss 102 = .ok (.invokestatic 706, 3) := getB' kX12_loss_4 9 rfl
theorem dX12_loss_105 : decode cX12_loss 105 = .ok (.iload 7, 2) := getB' kX12_loss_4 10 rfl
theorem dX12_loss_107 : decode cX12_loss 107 = .ok (.iload 4, 2) := getB' kX12_loss_4 11 rfl
def LX12_loss_5 : List (Nat × Instr × Nat) := [(109, .invokestatic 706, 3), (112, .iadd, 1), (113, .istore 8, 2), (115, .iload 5, 2), (117, .ifCond .ne 14, 3), (120, .iload 6, 2), (122, .iload 7, 2), (124, .isub, 1), (125, .iload 8, 2), (127, .isub, 1), (128, .goto 11, 3), (131, .iload 6, 2)]
theorem kX12_loss_5 : chkB cX12_loss LX12_loss_5 = true := by decide +kernel
theorem dX12_loss_109 : decode cX12_loss 109 = .ok (.invokestatic 706, 3) := getB' kX12_loss_5 0 rfl
theorem dX12_loss_112 : decode cX12_loss 112 = .ok (.iadd, 1) := getB' kX12_loss_5 1 rfl
theorem dX12_loss_113 : decode cX12_loss 113 = .ok (.istore 8, 2) := getB' kX12_loss_5 2 rfl
theorem dX12_loss_115 : decode cX12_loss 115 = .ok (.iload 5, 2) := getB' kX12_loss_5 3 rfl
theorem dX12_loss_117 : decode cX12_loss 117 = .ok (.ifCond .ne 14, 3) := getB' kX12_loss_5 4 rfl
theorem dX12_loss_120 : decode cX12_loss 120 = .ok (.iload 6, 2) := getB' kX12_loss_5 5 rfl
theorem dX12_loss_122 : decode cX12_loss 122 = .ok (.iload 7, 2) := getB' kX12_loss_5 6 rfl
theorem dX12_loss_124 : decode cX12_loss 124 = .ok (.isub, 1) := getB' kX12_loss_5 7 rfl
theorem dX12_loss_125 : decode cX12_loss 125 = .ok (.iload 8, 2) := getB' kX12_loss_5 8 rfl
theorem dX12_loss_127 : decode cX12_loss 127 = .ok (.isub, 1) := getB' kX12_loss_5 9 rfl
theorem dX12_loss_128 : decode cX12_loss 128 = .ok (.goto 11, 3) := getB' kX12_loss_5 10 rfl
theorem dX12_loss_131 : decode cX12_loss 131 = .ok (.iload 6, 2) := getB' kX12_loss_5 11 rfl
def LX12_loss_6 : List (Nat × Instr × Nat) := [(133, .iload 7, 2), (135, .isub, 1), (136, .iload 8, 2), (138, .iadd, 1), (139, .ireturn, 1)]
theorem kX12_loss_6 : chkB cX12_loss LX12_loss_6 = true := by decide +kernel
theorem dX12_loss_133 : decode cX12_loss 133 = .ok (.iload 7, 2) := getB' kX12_loss_6 0 rfl
theorem dX12_loss_135 : decode cX12_loss 135 = .ok (.isub, 1) := getB' kX12_loss_6 1 rfl
theorem dX12_loss_136 : decode cX12_loss 136 = .ok (.iload 8, 2) := getB' kX12_loss_6 2 rfl
theorem dX12_loss_138 : decode cX12_loss 138 = .ok (.iadd, 1) := getB' kX12_loss_6 3 rfl
theorem dX12_loss_139 : decode cX12_loss 139 = .ok (.ireturn, 1) := getB' kX12_loss_6 4 rfl
def LX12_noise_0 : List (Nat × Instr × Nat) := [(0, .aload_n 0, 1), (1, .iload_n 1, 1), (2, .iconst 5, 1), (3, .invokevirtual 399, 3), (6, .ifCond .eq 27, 3), (9, .iload_n 2, 1), (10, .iconst 0, 1), (11, .bipush 9, 2), (13, .invokestatic 371, 3), (16, .ifCond .eq 17, 3), (19, .aload_n 0, 1), (20, .getfield 74, 3)]
theorem kX12_noise_0 : chkB cX12_noise LX12_noise_0 = true := by decide +kernel
theorem dX12_noise_0 : decode cX12_noise 0 = .ok (.aload_n 0, 1) := getB' kX12_noise_0 0 rfl
theorem dX12_noise_1 : decode cX12_noise 1 = .ok (.iload_n 1, 1) := getB' kX12_noise_0 1 rfl
theorem dX12_noise_2 : decode cX12_noise 2 = .ok (.iconst 5, 1) := getB' kX12_noise_0 2 rfl
theorem dX12_noise_3 : decode cX12_noise 3 = .ok (.invokevirtual 399, 3) := getB' kX12_noise_0 3 rfl
theorem dX12_noise_6 : decode cX12_noise 6 = .ok (.ifCond .eq 27, 3) := getB' kX12_noise_0 4 rfl
theorem dX12_noise_9 : decode cX12_noise 9 = .ok (.iload_n 2, 1) := getB' kX12_noise_0 5 rfl
theorem dX12_noise_10 : decode cX12_noise 10 = .ok (.iconst 0, 1) := getB' kX12_noise_0 6 rfl
theorem dX12_noise_11 : decode cX12_noise 11 = .ok (.bipush 9, 2) := getB' kX12_noise_0 7 rfl
theorem dX12_noise_13 : decode cX12_noise 13 = .ok (.invokestatic 371, 3) := getB' kX12_noise_0 8 rfl
theorem dX12_noise_16 : decode cX12_noise 16 = .ok (.ifCond .eq 17, 3) := getB' kX12_noise_0 9 rfl
theorem dX12_noise_19 : decode cX12_noise 19 = .ok (.aload_n 0, 1) := getB' kX12_noise_0 10 rfl
theorem dX12_noise_20 : decode cX12_noise 20 = .ok (.getfield 74, 3) := getB' kX12_noise_0 11 rfl
def LX12_noise_1 : List (Nat × Instr × Nat) := [(23, .bipush 10, 2), (25, .iload_n 1, 1), (26, .imul, 1), (27, .iload_n 2, 1), (28, .iadd, 1), (29, .iaload, 1), (30, .goto 4, 3), (33, .iconst (-1), 1), (34, .ireturn, 1)]
theorem kX12_noise_1 : chkB cX12_noise LX12_noise_1 = true := by decide +kernel
theorem dX12_noise_23 : decode cX12_noise 23 = .ok (.bipush 10, 2) := getB' kX12_noise_1 0 rfl
theorem dX12_noise_25 : decode cX12_noise 25 = .ok (.iload_n 1, 1) := getB' kX12_noise_1 1 rfl
theorem dX12_noise_26 : decode cX12_noise 26 = .ok (.imul, 1) := getB' kX12_noise_1 2 rfl
theorem dX12_noise_27 : decode cX12_noise 27 = .ok (.iload_n 2, 1) := getB' kX12_noise_1 3 rfl
theorem dX12_noise_28 : decode cX12_noise 28 = .ok (.iadd, 1) := getB' kX12_noise_1 4 rfl
theorem dX12_noise_29 : decode cX12_noise 29 = .ok (.iaload, 1) := getB' kX12_noise_1 5 rfl
theorem dX12_noise_30 : decode cX12_noise 30 = .ok (.goto 4, 3) := getB' kX12_noise_1 6 rfl
theorem dX12_noise_33 : decode cX12_noise 33 = .ok (.iconst (-1), 1) := getB' kX12_noise_1 7 rfl
theorem dX12_noise_34 : decode cX12_noise 34 = .ok (.ireturn, 1) := getB' kX12_noise_1 8 rfl
def LX12_caught_0 : List (Nat × Instr × Nat) := [(0, .aload_n 0, 1), (1, .iload_n 1, 1), (2, .invokevirtual 618, 3), (5, .ifCond .eq 54, 3), (8, .iload_n 2, 1), (9, .iconst 0, 1), (10, .iconst 3, 1), (11, .invokestatic 371, 3), (14, .ifCond .eq 45, 3), (17, .iload_n 3, 1), (18, .invokestatic 615, 3), (21, .ifCond .eq 38, 3)]
theorem kX12_caught_0 : chkB cX12_caught LX12_caught_0 = true := by decide +kernel
theorem dX12_caught_0 : decode cX12_caught 0 = .ok (.aload_n 0, 1) := getB' kX12_caught_0 0 rfl
theorem dX12_caught_1 : decode cX12_caught 1 = .ok (.iload_n 1, 1) := getB' kX12_caught_0 1 rfl
theorem dX12_caught_2 : decode cX12_caught 2 = .ok (.invokevirtual 618, 3) := getB' kX12_caught_0 2 rfl
theorem dX12_caught_5 : decode cX12_caught 5 = .ok (.ifCond .eq 54, 3) := getB' kX12_caught_0 3 rfl
theorem dX12_caught_8 : decode cX12_caught 8 = .ok (.iload_n 2, 1) := getB' kX12_caught_0 4 rfl
theorem dX12_caught_9 : decode cX12_caught 9 = .ok (.iconst 0, 1) := getB' kX12_caught_0 5 rfl
theorem dX12_caught_10 : decode cX12_caught 10 = .ok (.iconst 3, 1) := getB' kX12_caught_0 6 rfl
theorem dX12_caught_11 : decode cX12_caught 11 = .ok (.invokestatic 371, 3) := getB' kX12_caught_0 7 rfl
theorem dX12_caught_14 : decode cX12_caught 14 = .ok (.ifCond .eq 45, 3) := getB' kX12_caught_0 8 rfl
theorem dX12_caught_17 : decode cX12_caught 17 = .ok (.iload_n 3, 1) := getB' kX12_caught_0 9 rfl
theorem dX12_caught_18 : decode cX12_caught 18 = .ok (.invokestatic 615, 3) := getB' kX12_caught_0 10 rfl
theorem dX12_caught_21 : decode cX12_caught 21 = .ok (.ifCond .eq 38, 3) := getB' kX12_caught_0 11 rfl
def LX12_caught_1 : List (Nat × Instr × Nat) := [(24, .iload 4, 2), (26, .iconst 1, 1), (27, .ldc_w 638, 3), (30, .invokestatic 371, 3), (33, .ifCond .eq 26, 3), (36, .iload 5, 2), (38, .iconst 0, 1), (39, .aload_n 0, 1), (40, .getfield 396, 3), (43, .invokestatic 371, 3), (46, .ifCond .eq 13, 3), (49, .aload_n 0, 1)]
theorem kX12_caught_1 : chkB cX12_caught LX12_caught_1 = true := by decide +kernel
theorem dX12_caught_24 : decode cX12_caught 24 = .ok (.iload 4, 2) := getB' kX12_caught_1 0 rfl
theorem dX12_caught_26 : decode cX12_caught 26 = .ok (.iconst 1, 1) := getB' kX12_caught_1 1 rfl
theorem dX12_caught_27 : decode cX12_caught 27 = .ok (.ldc_w 638, 3) := getB' kX12_caught_1 2 rfl
theorem dX12_caught_30 : decode cX12_caught 30 = .ok (.invokestatic 371, 3) := getB' kX12_caught_1 3 rfl
theorem dX12_caught_33 : decode cX12_caught 33 = .ok (.ifCond .eq 26, 3) := getB' kX12_caught_1 4 rfl
theorem dX12_caught_36 : decode cX12_caught 36 = .ok (.iload 5, 2) := getB' kX12_caught_1 5 rfl
theorem dX12_caught_38 : decode cX12_caught 38 = .ok (.iconst 0, 1) := getB' kX12_caught_1 6 rfl
theorem dX12_caught_39 : decode cX12_caught 39 = .ok (.aload_n 0, 1) := getB' kX12_caught_1 7 rfl
theorem dX12_caught_40 : decode cX12_caught 40 = .ok (.getfield 396, 3) := getB' kX12_caught_1 8 rfl
theorem dX12_caught_43 : decode cX12_caught 43 = .ok (.invokestatic 371, 3) := getB' kX12_caught_1 9 rfl
theorem dX12_caught_46 : decode cX12_caught 46 = .ok (.ifCond .eq 13, 3) := getB' kX12_caught_1 10 rfl
theorem dX12_caught_49 : decode cX12_caught 49 = .ok (.aload_n 0, 1) := getB' kX12_caught_1 11 rfl
def LX12_caught_2 : List (Nat × Instr × Nat) := [(50, .getfield 709, 3), (53, .sipush 200, 3), (56, .if_icmp .ne 5, 3), (59, .iconst (-1), 1), (60, .ireturn, 1), (61, .aload_n 0, 1), (62, .getfield 304, 3), (65, .aload_n 0, 1), (66, .getfield 709, 3), (69, .iload_n 1, 1), (70, .iastore, 1), (71, .aload_n 0, 1)]
theorem kX12_caught_2 : chkB cX12_caught LX12_caught_2 = true := by decide +kernel
theorem dX12_caught_50 : decode cX12_caught 50 = .ok (.getfield 709, 3) := getB' kX12_caught_2 0 rfl
theorem dX12_caught_53 : decode cX12_caught 53 = .ok (.sipush 200, 3) := getB' kX12_caught_2 1 rfl
theorem dX12_caught_56 : decode cX12_caught 56 = .ok (.if_icmp .ne 5, 3) := getB' kX12_caught_2 2 rfl
theorem dX12_caught_59 : decode cX12_caught 59 = .ok (.iconst (-1), 1) := getB' kX12_caught_2 3 rfl
theorem dX12_caught_60 : decode cX12_caught 60 = .ok (.ireturn, 1) := getB' kX12_caught_2 4 rfl
theorem dX12_caught_61 : decode cX12_caught 61 = .ok (.aload_n 0, 1) := getB' kX12_caught_2 5 rfl
theorem dX12_caught_62 : decode cX12_caught 62 = .ok (.getfield 304, 3) := getB' kX12_caught_2 6 rfl
theorem dX12_caught_65 : decode cX12_caught 65 = .ok (.aload_n 0, 1) := getB' kX12_caught_2 7 rfl
theorem dX12_caught_66 : decode cX12_caught 66 = .ok (.getfield 709, 3) := getB' kX12_caught_2 8 rfl
theorem dX12_caught_69 : decode cX12_caught 69 = .ok (.iload_n 1, 1) := getB' kX12_caught_2 9 rfl
theorem dX12_caught_70 : decode cX12_caught 70 = .ok (.iastore, 1) := getB' kX12_caught_2 10 rfl
theorem dX12_caught_71 : decode cX12_caught 71 = .ok (.aload_n 0, 1) := getB' kX12_caught_2 11 rfl
def LX12_caught_3 : List (Nat × Instr × Nat) := [(72, .getfield 307, 3), (75, .aload_n 0, 1), (76, .getfield 709, 3), (79, .iload_n 2, 1), (80, .iastore, 1), (81, .aload_n 0, 1), (82, .getfield 310, 3), (85, .aload_n 0, 1), (86, .getfield 709, 3), (89, .iload_n 3, 1), (90, .iastore, 1), (91, .aload_n 0, 1)]
theorem kX12_caught_3 : chkB cX12_caught LX12_caught_3 = true := by decide +kernel
theorem dX12_caught_72 : decode cX12_caught 72 = .ok (.getfield 307, 3) := getB' kX12_caught_3 0 rfl
theorem dX12_caught_75 : decode cX12_caught 75 = .ok (.aload_n 0, 1) := getB' kX12_caught_3 1 rfl
theorem dX12_caught_76 : decode cX12_caught 76 = .ok (.getfield 709, 3) := getB' kX12_caught_3 2 rfl
theorem dX12_caught_79 : decode cX12_caught 79 = .ok (.iload_n 2, 1) := getB' kX12_caught_3 3 rfl
theorem dX12_caught_80 : decode cX12_caught 80 = .ok (.iastore, 1) := getB' kX12_caught_3 4 rfl
theorem dX12_caught_81 : decode cX12_caught 81 = .ok (.aload_n 0, 1) := getB' kX12_caught_3 5 rfl
theorem dX12_caught_82 : decode cX12_caught 82 = .ok (.getfield 310, 3) := getB' kX12_caught_3 6 rfl
theorem dX12_caught_85 : decode cX12_caught 85 = .ok (.aload_n 0, 1) := getB' kX12_caught_3 7 rfl
theorem dX12_caught_86 : decode cX12_caught 86 = .ok (.getfield 709, 3) := getB' kX12_caught_3 8 rfl
theorem dX12_caught_89 : decode cX12_caught 89 = .ok (.iload_n 3, 1) := getB' kX12_caught_3 9 rfl
theorem dX12_caught_90 : decode cX12_caught 90 = .ok (.iastore, 1) := getB' kX12_caught_3 10 rfl
theorem dX12_caught_91 : decode cX12_caught 91 = .ok (.aload_n 0, 1) := getB' kX12_caught_3 11 rfl
def LX12_caught_4 : List (Nat × Instr × Nat) := [(92, .getfield 313, 3), (95, .aload_n 0, 1), (96, .getfield 709, 3), (99, .iload 4, 2), (101, .iastore, 1), (102, .aload_n 0, 1), (103, .getfield 316, 3), (106, .aload_n 0, 1), (107, .getfield 709, 3), (110, .iload 5, 2), (112, .iastore, 1), (113, .aload_n 0, 1)]
theorem kX12_caught_4 : chkB cX12_caught LX12_caught_4 = true := by decide +kernel
theorem dX12_caught_92 : decode cX12_caught 92 = .ok (.getfield 313, 3) := getB' kX12_caught_4 0 rfl
theorem dX12_caught_95 : decode cX12_caught 95 = .ok (.aload_n 0, 1) := getB' kX12_caught_4 1 rfl
theorem dX12_caught_96 : decode cX12_caught 96 = .ok (.getfield 709, 3) := getB' kX12_caught_4 2 rfl
theorem dX12_caught_99 : decode cX12_caught 99 = .ok (.iload 4, 2) := getB' kX12_caught_4 3 rfl
theorem dX12_caught_101 : decode cX12_caught 101 = .ok (.iastore, 1) := getB' kX12_caught_4 4 rfl
theorem dX12_caught_102 : decode cX12_caught 102 = .ok (.aload_n 0, 1) := getB' kX12_caught_4 5 rfl
theorem dX12_caught_103 : decode cX12_caught 103 = .ok (.getfield 316, 3) := getB' kX12_caught_4 6 rfl
theorem dX12_caught_106 : decode cX12_caught 106 = .ok (.aload_n 0, 1) := getB' kX12_caught_4 7 rfl
theorem dX12_caught_107 : decode cX12_caught 107 = .ok (.getfield 709, 3) := getB' kX12_caught_4 8 rfl
theorem dX12_caught_110 : decode cX12_caught 110 = .ok (.iload 5, 2) := getB' kX12_caught_4 9 rfl
theorem dX12_caught_112 : decode cX12_caught 112 = .ok (.iastore, 1) := getB' kX12_caught_4 10 rfl
theorem dX12_caught_113 : decode cX12_caught 113 = .ok (.aload_n 0, 1) := getB' kX12_caught_4 11 rfl
def LX12_caught_5 : List (Nat × Instr × Nat) := [(114, .aload_n 0, 1), (115, .getfield 709, 3), (118, .iconst 1, 1), (119, .iadd, 1), (120, .putfield 709, 3), (123, .aload_n 0, 1), (124, .getfield 709, 3), (127, .iconst 1, 1), (128, .isub, 1), (129, .ireturn, 1)]
theorem kX12_caught_5 : chkB cX12_caught LX12_caught_5 = true := by decide +kernel
theorem dX12_caught_114 : decode cX12_caught 114 = .ok (.aload_n 0, 1) := getB' kX12_caught_5 0 rfl
theorem dX12_caught_115 : decode cX12_caught 115 = .ok (.getfield 709, 3) := getB' kX12_caught_5 1 rfl
theorem dX12_caught_118 : decode cX12_caught 118 = .ok (.iconst 1, 1) := getB' kX12_caught_5 2 rfl
theorem dX12_caught_119 : decode cX12_caught 119 = .ok (.iadd, 1) := getB' kX12_caught_5 3 rfl
theorem dX12_caught_120 : decode cX12_caught 120 = .ok (.putfield 709, 3) := getB' kX12_caught_5 4 rfl
theorem dX12_caught_123 : decode cX12_caught 123 = .ok (.aload_n 0, 1) := getB' kX12_caught_5 5 rfl
theorem dX12_caught_124 : decode cX12_caught 124 = .ok (.getfield 709, 3) := getB' kX12_caught_5 6 rfl
theorem dX12_caught_127 : decode cX12_caught 127 = .ok (.iconst 1, 1) := getB' kX12_caught_5 7 rfl
theorem dX12_caught_128 : decode cX12_caught 128 = .ok (.isub, 1) := getB' kX12_caught_5 8 rfl
theorem dX12_caught_129 : decode cX12_caught 129 = .ok (.ireturn, 1) := getB' kX12_caught_5 9 rfl
def LX12_isAhead_0 : List (Nat × Instr × Nat) := [(0, .aload_n 0, 1), (1, .getfield 316, 3), (4, .iload_n 1, 1), (5, .iaload, 1), (6, .aload_n 0, 1), (7, .getfield 316, 3), (10, .iload_n 2, 1), (11, .iaload, 1), (12, .if_icmp .lt 23, 3), (15, .aload_n 0, 1), (16, .getfield 316, 3), (19, .iload_n 1, 1)]
theorem kX12_isAhead_0 : chkB cX12_isAhead LX12_isAhead_0 = true := by decide +kernel
theorem dX12_isAhead_0 : decode cX12_isAhead 0 = .ok (.aload_n 0, 1) := getB' kX12_isAhead_0 0 rfl
theorem dX12_isAhead_1 : decode cX12_isAhead 1 = .ok (.getfield 316, 3) := getB' kX12_isAhead_0 1 rfl
theorem dX12_isAhead_4 : decode cX12_isAhead 4 = .ok (.iload_n 1, 1) := getB' kX12_isAhead_0 2 rfl
theorem dX12_isAhead_5 : decode cX12_isAhead 5 = .ok (.iaload, 1) := getB' kX12_isAhead_0 3 rfl
theorem dX12_isAhead_6 : decode cX12_isAhead 6 = .ok (.aload_n 0, 1) := getB' kX12_isAhead_0 4 rfl
theorem dX12_isAhead_7 : decode cX12_isAhead 7 = .ok (.getfield 316, 3) := getB' kX12_isAhead_0 5 rfl
theorem dX12_isAhead_10 : decode cX12_isAhead 10 = .ok (.iload_n 2, 1) := getB' kX12_isAhead_0 6 rfl
theorem dX12_isAhead_11 : decode cX12_isAhead 11 = .ok (.iaload, 1) := getB' kX12_isAhead_0 7 rfl
theorem dX12_isAhead_12 : decode cX12_isAhead 12 = .ok (.if_icmp .lt 23, 3) := getB' kX12_isAhead_0 8 rfl
theorem dX12_isAhead_15 : decode cX12_isAhead 15 = .ok (.aload_n 0, 1) := getB' kX12_isAhead_0 9 rfl
theorem dX12_isAhead_16 : decode cX12_isAhead 16 = .ok (.getfield 316, 3) := getB' kX12_isAhead_0 10 rfl
theorem dX12_isAhead_19 : decode cX12_isAhead 19 = .ok (.iload_n 1, 1) := getB' kX12_isAhead_0 11 rfl
def LX12_isAhead_1 : List (Nat × Instr × Nat) := [(20, .iaload, 1), (21, .aload_n 0, 1), (22, .getfield 316, 3), (25, .iload_n 2, 1), (26, .iaload, 1), (27, .if_icmp .ne 12, 3), (30, .iload_n 1, 1), (31, .iload_n 2, 1), (32, .if_icmp .gt 7, 3), (35, .iconst 1, 1), (36, .goto 4, 3), (39, .iconst 0, 1)]
theorem kX12_isAhead_1 : chkB cX12_isAhead LX12_isAhead_1 = true := by decide +kernel
theorem dX12_isAhead_20 : decode cX12_isAhead 20 = .ok (.iaload, 1) := getB' kX12_isAhead_1 0 rfl
theorem dX12_isAhead_21 : decode cX12_isAhead 21 = .ok (.aload_n 0, 1) := getB' kX12_isAhead_1 1 rfl
theorem dX12_isAhead_22 : decode cX12_isAhead 22 = .ok (.getfield 316, 3) := getB' kX12_isAhead_1 2 rfl
theorem dX12_isAhead_25 : decode cX12_isAhead 25 = .ok (.iload_n 2, 1) := getB' kX12_isAhead_1 3 rfl
theorem dX12_isAhead_26 : decode cX12_isAhead 26 = .ok (.iaload, 1) := getB' kX12_isAhead_1 4 rfl
theorem dX12_isAhead_27 : decode cX12_isAhead 27 = .ok (.if_icmp .ne 12, 3) := getB' kX12_isAhead_1 5 rfl
theorem dX12_isAhead_30 : decode cX12_isAhead 30 = .ok (.iload_n 1, 1) := getB' kX12_isAhead_1 6 rfl
theorem dX12_isAhead_31 : decode cX12_isAhead 31 = .ok (.iload_n 2, 1) := getB' kX12_isAhead_1 7 rfl
theorem dX12_isAhead_32 : decode cX12_isAhead 32 = .ok (.if_icmp .gt 7, 3) := getB' kX12_isAhead_1 8 rfl
theorem dX12_isAhead_35 : decode cX12_isAhead 35 = .ok (.iconst 1, 1) := getB' kX12_isAhead_1 9 rfl
theorem dX12_isAhead_36 : decode cX12_isAhead 36 = .ok (.goto 4, 3) := getB' kX12_isAhead_1 10 rfl
theorem dX12_isAhead_39 : decode cX12_isAhead 39 = .ok (.iconst 0, 1) := getB' kX12_isAhead_1 11 rfl
def LX12_isAhead_2 : List (Nat × Instr × Nat) := [(40, .ireturn, 1)]
theorem kX12_isAhead_2 : chkB cX12_isAhead LX12_isAhead_2 = true := by decide +kernel
theorem dX12_isAhead_40 : decode cX12_isAhead 40 = .ok (.ireturn, 1) := getB' kX12_isAhead_2 0 rfl
def LX12_over_0 : List (Nat × Instr × Nat) := [(0, .iconst (-1), 1), (1, .istore_n 1, 1), (2, .iconst 0, 1), (3, .istore_n 2, 1), (4, .iload_n 2, 1), (5, .aload_n 0, 1), (6, .getfield 709, 3), (9, .if_icmp .ge 190, 3), (12, .iload_n 1, 1), (13, .iconst (-1), 1), (14, .if_icmp .eq 15, 3), (17, .aload_n 0, 1)]
theorem kX12_over_0 : chkB cX12_over LX12_over_0 = true := by decide +kernel
theorem dX12_over_0 : decode cX12_over 0 = .ok (.iconst (-1), 1) := getB' kX12_over_0 0 rfl
theorem dX12_over_1 : decode cX12_over 1 = .ok (.istore_n 1, 1) := getB' kX12_over_0 1 rfl
theorem dX12_over_2 : decode cX12_over 2 = .ok (.iconst 0, 1) := getB' kX12_over_0 2 rfl
theorem dX12_over_3 : decode cX12_over 3 = .ok (.istore_n 2, 1) := getB' kX12_over_0 3 rfl
theorem dX12_over_4 : decode cX12_over 4 = .ok (.iload_n 2, 1) := getB' kX12_over_0 4 rfl
theorem dX12_over_5 : decode cX12_over 5 = .ok (.aload_n 0, 1) := getB' kX12_over_0 5 rfl
theorem dX12_over_6 : decode cX12_over 6 = .ok (.getfield 709, 3) := getB' kX12_over_0 6 rfl
theorem dX12_over_9 : decode cX12_over 9 = .ok (.if_icmp .ge 190, 3) := getB' kX12_over_0 7 rfl
theorem dX12_over_12 : decode cX12_over 12 = .ok (.iload_n 1, 1) := getB' kX12_over_0 8 rfl
theorem dX12_over_13 : decode cX12_over 13 = .ok (.iconst (-1), 1) := getB' kX12_over_0 9 rfl
theorem dX12_over_14 : decode cX12_over 14 = .ok (.if_icmp .eq 15, 3) := getB' kX12_over_0 10 rfl
theorem dX12_over_17 : decode cX12_over 17 = .ok (.aload_n 0, 1) := getB' kX12_over_0 11 rfl
def LX12_over_1 : List (Nat × Instr × Nat) := [(18, .iload_n 1, 1), (19, .iload_n 2, 1), (20, .invokevirtual 712, 3), (23, .ifCond .eq 6, 3), (26, .goto 167, 3), (29, .lconst 0, 1), (30, .lstore_n 3, 1), (31, .iconst 0, 1), (32, .istore 5, 2), (34, .iload 5, 2), (36, .aload_n 0, 1), (37, .getfield 709, 3)]
theorem kX12_over_1 : chkB cX12_over LX12_over_1 = true := by decide +kernel
theorem dX12_over_18 : decode cX12_over 18 = .ok (.iload_n 1, 1) := getB' kX12_over_1 0 rfl
theorem dX12_over_19 : decode cX12_over 19 = .ok (.iload_n 2, 1) := getB' kX12_over_1 1 rfl
theorem dX12_over_20 : decode cX12_over 20 = .ok (.invokevirtual 712, 3) := getB' kX12_over_1 2 rfl
theorem dX12_over_23 : decode cX12_over 23 = .ok (.ifCond .eq 6, 3) := getB' kX12_over_1 3 rfl
theorem dX12_over_26 : decode cX12_over 26 = .ok (.goto 167, 3) := getB' kX12_over_1 4 rfl
theorem dX12_over_29 : decode cX12_over 29 = .ok (.lconst 0, 1) := getB' kX12_over_1 5 rfl
theorem dX12_over_30 : decode cX12_over 30 = .ok (.lstore_n 3, 1) := getB' kX12_over_1 6 rfl
theorem dX12_over_31 : decode cX12_over 31 = .ok (.iconst 0, 1) := getB' kX12_over_1 7 rfl
theorem dX12_over_32 : decode cX12_over 32 = .ok (.istore 5, 2) := getB' kX12_over_1 8 rfl
theorem dX12_over_34 : decode cX12_over 34 = .ok (.iload 5, 2) := getB' kX12_over_1 9 rfl
theorem dX12_over_36 : decode cX12_over 36 = .ok (.aload_n 0, 1) := getB' kX12_over_1 10 rfl
theorem dX12_over_37 : decode cX12_over 37 = .ok (.getfield 709, 3) := getB' kX12_over_1 11 rfl
def LX12_over_2 : List (Nat × Instr × Nat) := [(40, .if_icmp .ge 102, 3), (43, .aload_n 0, 1), (44, .getfield 307, 3), (47, .iload 5, 2), (49, .iaload, 1), (50, .aload_n 0, 1), (51, .getfield 307, 3), (54, .iload_n 2, 1), (55, .iaload, 1), (56, .if_icmp .ne 47, 3), (59, .aload_n 0, 1), (60, .getfield 310, 3)]
theorem kX12_over_2 : chkB cX12_over LX12_over_2 = true := by decide +kernel
theorem dX12_over_40 : decode cX12_over 40 = .ok (.if_icmp .ge 102, 3) := getB' kX12_over_2 0 rfl
theorem dX12_over_43 : decode cX12_over 43 = .ok (.aload_n 0, 1) := getB' kX12_over_2 1 rfl
theorem dX12_over_44 : decode cX12_over 44 = .ok (.getfield 307, 3) := getB' kX12_over_2 2 rfl
theorem dX12_over_47 : decode cX12_over 47 = .ok (.iload 5, 2) := getB' kX12_over_2 3 rfl
theorem dX12_over_49 : decode cX12_over 49 = .ok (.iaload, 1) := getB' kX12_over_2 4 rfl
theorem dX12_over_50 : decode cX12_over 50 = .ok (.aload_n 0, 1) := getB' kX12_over_2 5 rfl
theorem dX12_over_51 : decode cX12_over 51 = .ok (.getfield 307, 3) := getB' kX12_over_2 6 rfl
theorem dX12_over_54 : decode cX12_over 54 = .ok (.iload_n 2, 1) := getB' kX12_over_2 7 rfl
theorem dX12_over_55 : decode cX12_over 55 = .ok (.iaload, 1) := getB' kX12_over_2 8 rfl
theorem dX12_over_56 : decode cX12_over 56 = .ok (.if_icmp .ne 47, 3) := getB' kX12_over_2 9 rfl
theorem dX12_over_59 : decode cX12_over 59 = .ok (.aload_n 0, 1) := getB' kX12_over_2 10 rfl
theorem dX12_over_60 : decode cX12_over 60 = .ok (.getfield 310, 3) := getB' kX12_over_2 11 rfl
def LX12_over_3 : List (Nat × Instr × Nat) := [(63, .iload 5, 2), (65, .iaload, 1), (66, .aload_n 0, 1), (67, .getfield 310, 3), (70, .iload_n 2, 1), (71, .iaload, 1), (72, .if_icmp .ne 31, 3), (75, .aload_n 0, 1), (76, .getfield 316, 3), (79, .iload 5, 2), (81, .iaload, 1), (82, .sipush 360, 3)]
theorem kX12_over_3 : chkB cX12_over LX12_over_3 = true := by decide +kernel
theorem dX12_over_63 : decode cX12_over 63 = .ok (.iload 5, 2) := getB' kX12_over_3 0 rfl
theorem dX12_over_65 : decode cX12_over 65 = .ok (.iaload, 1) := getB' kX12_over_3 1 rfl
theorem dX12_over_66 : decode cX12_over 66 = .ok (.aload_n 0, 1) := getB' kX12_over_3 2 rfl
theorem dX12_over_67 : decode cX12_over 67 = .ok (.getfield 310, 3) := getB' kX12_over_3 3 rfl
theorem dX12_over_70 : decode cX12_over 70 = .ok (.iload_n 2, 1) := getB' kX12_over_3 4 rfl
theorem dX12_over_71 : decode cX12_over 71 = .ok (.iaload, 1) := getB' kX12_over_3 5 rfl
theorem dX12_over_72 : decode cX12_over 72 = .ok (.if_icmp .ne 31, 3) := getB' kX12_over_3 6 rfl
theorem dX12_over_75 : decode cX12_over 75 = .ok (.aload_n 0, 1) := getB' kX12_over_3 7 rfl
theorem dX12_over_76 : decode cX12_over 76 = .ok (.getfield 316, 3) := getB' kX12_over_3 8 rfl
theorem dX12_over_79 : decode cX12_over 79 = .ok (.iload 5, 2) := getB' kX12_over_3 9 rfl
theorem dX12_over_81 : decode cX12_over 81 = .ok (.iaload, 1) := getB' kX12_over_3 10 rfl
theorem dX12_over_82 : decode cX12_over 82 = .ok (.sipush 360, 3) := getB' kX12_over_3 11 rfl
def LX12_over_4 : List (Nat × Instr × Nat) := [(85, .idiv, 1), (86, .aload_n 0, 1), (87, .getfield 316, 3), (90, .iload_n 2, 1), (91, .iaload, 1), (92, .sipush 360, 3), (95, .idiv, 1), (96, .if_icmp .ne 7, 3), (99, .iconst 1, 1), (100, .goto 4, 3), (103, .iconst 0, 1), (104, .istore 6, 2)]
theorem kX12_over_4 : chkB cX12_over LX12_over_4 = true := by decide +kernel
theorem dX12_over_85 : decode cX12_over 85 = .ok (.idiv, 1) := getB' kX12_over_4 0 rfl
theorem dX12_over_86 : decode cX12_over 86 = .ok (.aload_n 0, 1) := getB' kX12_over_4 1 rfl
theorem dX12_over_87 : decode cX12_over 87 = .ok (.getfield 316, 3) := getB' kX12_over_4 2 rfl
theorem dX12_over_90 : decode cX12_over 90 = .ok (.iload_n 2, 1) := getB' kX12_over_4 3 rfl
theorem dX12_over_91 : decode cX12_over 91 = .ok (.iaload, 1) := getB' kX12_over_4 4 rfl
theorem dX12_over_92 : decode cX12_over 92 = .ok (.sipush 360, 3) := getB' kX12_over_4 5 rfl
theorem dX12_over_95 : decode cX12_over 95 = .ok (.idiv, 1) := getB' kX12_over_4 6 rfl
theorem dX12_over_96 : decode cX12_over 96 = .ok (.if_icmp .ne 7, 3) := getB' kX12_over_4 7 rfl
theorem dX12_over_99 : decode cX12_over 99 = .ok (.iconst 1, 1) := getB' kX12_over_4 8 rfl
theorem dX12_over_100 : decode cX12_over 100 = .ok (.goto 4, 3) := getB' kX12_over_4 9 rfl
theorem dX12_over_103 : decode cX12_over 103 = .ok (.iconst 0, 1) := getB' kX12_over_4 10 rfl
theorem dX12_over_104 : decode cX12_over 104 = .ok (.istore 6, 2) := getB' kX12_over_4 11 rfl
def LX12_over_5 : List (Nat × Instr × Nat) := [(106, .lload_n 3, 1), (107, .iload 6, 2), (109, .ifCond .eq 23, 3), (112, .aload_n 0, 1), (113, .iload 5, 2), (115, .iload_n 2, 1), (116, .invokevirtual 712, 3), (119, .ifCond .eq 13, 3), (122, .aload_n 0, 1), (123, .getfield 313, 3), (126, .iload 5, 2), (128, .iaload, 1)]
theorem kX12_over_5 : chkB cX12_over LX12_over_5 = true := by decide +kernel
theorem dX12_over_106 : decode cX12_over 106 = .ok (.lload_n 3, 1) := getB' kX12_over_5 0 rfl
theorem dX12_over_107 : decode cX12_over 107 = .ok (.iload 6, 2) := getB' kX12_over_5 1 rfl
theorem dX12_over_109 : decode cX12_over 109 = .ok (.ifCond .eq 23, 3) := getB' kX12_over_5 2 rfl
theorem dX12_over_112 : decode cX12_over 112 = .ok (.aload_n 0, 1) := getB' kX12_over_5 3 rfl
theorem dX12_over_113 : decode cX12_over 113 = .ok (.iload 5, 2) := getB' kX12_over_5 4 rfl
theorem dX12_over_115 : decode cX12_over 115 = .ok (.iload_n 2, 1) := getB' kX12_over_5 5 rfl
theorem dX12_over_116 : decode cX12_over 116 = .ok (.invokevirtual 712, 3) := getB' kX12_over_5 6 rfl
theorem dX12_over_119 : decode cX12_over 119 = .ok (.ifCond .eq 13, 3) := getB' kX12_over_5 7 rfl
theorem dX12_over_122 : decode cX12_over 122 = .ok (.aload_n 0, 1) := getB' kX12_over_5 8 rfl
theorem dX12_over_123 : decode cX12_over 123 = .ok (.getfield 313, 3) := getB' kX12_over_5 9 rfl
theorem dX12_over_126 : decode cX12_over 126 = .ok (.iload 5, 2) := getB' kX12_over_5 10 rfl
theorem dX12_over_128 : decode cX12_over 128 = .ok (.iaload, 1) := getB' kX12_over_5 11 rfl
def LX12_over_6 : List (Nat × Instr × Nat) := [(129, .goto 4, 3), (132, .iconst 0, 1), (133, .i2l, 1), (134, .ladd, 1), (135, .lstore_n 3, 1), (136, .iinc 5 1, 3), (139, .goto (-105), 3), (142, .aload_n 0, 1), (143, .aload_n 0, 1), (144, .getfield 307, 3), (147, .iload_n 2, 1), (148, .iaload, 1)]
theorem kX12_over_6 : chkB cX12_over LX12_over_6 = true := by decide +kernel
theorem dX12_over_129 : decode cX12_over 129 = .ok (.goto 4, 3) := getB' kX12_over_6 0 rfl
theorem dX12_over_132 : decode cX12_over 132 = .ok (.iconst 0, 1) := getB' kX12_over_6 1 rfl
theorem dX12_over_133 : decode cX12_over 133 = .ok (.i2l, 1) := getB' kX12_over_6 2 rfl
theorem dX12_over_134 : decode cX12_over 134 = .ok (.ladd, 1) := getB' kX12_over_6 3 rfl
theorem dX12_over_135 : decode cX12_over 135 = .ok (.lstore_n 3, 1) := getB' kX12_over_6 4 rfl
theorem dX12_over_136 : decode cX12_over 136 = .ok (.iinc 5 1, 3) := getB' kX12_over_6 5 rfl
theorem dX12_over_139 : decode cX12_over 139 = .ok (.goto (-105), 3) := getB' kX12_over_6 6 rfl
theorem dX12_over_142 : decode cX12_over 142 = .ok (.aload_n 0, 1) := getB' kX12_over_6 7 rfl
theorem dX12_over_143 : decode cX12_over 143 = .ok (.aload_n 0, 1) := getB' kX12_over_6 8 rfl
theorem dX12_over_144 : decode cX12_over 144 = .ok (.getfield 307, 3) := getB' kX12_over_6 9 rfl
theorem dX12_over_147 : decode cX12_over 147 = .ok (.iload_n 2, 1) := getB' kX12_over_6 10 rfl
theorem dX12_over_148 : decode cX12_over 148 = .ok (.iaload, 1) := getB' kX12_over_6 11 rfl
def LX12_over_7 : List (Nat × Instr × Nat) := [(149, .aload_n 0, 1), (150, .getfield 310, 3), (153, .iload_n 2, 1), (154, .iaload, 1), (155, .aload_n 0, 1), (156, .getfield 208, 3), (159, .aload_n 0, 1), (160, .getfield 304, 3), (163, .iload_n 2, 1), (164, .iaload, 1), (165, .iaload, 1), (166, .aload_n 0, 1)]
theorem kX12_over_7 : chkB cX12_over LX12_over_7 = true := by decide +kernel
theorem dX12_over_149 : decode cX12_over 149 = .ok (.aload_n 0, 1) := getB' kX12_over_7 0 rfl
theorem dX12_over_150 : decode cX12_over 150 = .ok (.getfield 310, 3) := getB' kX12_over_7 1 rfl
theorem dX12_over_153 : decode cX12_over 153 = .ok (.iload_n 2, 1) := getB' kX12_over_7 2 rfl
theorem dX12_over_154 : decode cX12_over 154 = .ok (.iaload, 1) := getB' kX12_over_7 3 rfl
theorem dX12_over_155 : decode cX12_over 155 = .ok (.aload_n 0, 1) := getB' kX12_over_7 4 rfl
theorem dX12_over_156 : decode cX12_over 156 = .ok (.getfield 208, 3) := getB' kX12_over_7 5 rfl
theorem dX12_over_159 : decode cX12_over 159 = .ok (.aload_n 0, 1) := getB' kX12_over_7 6 rfl
theorem dX12_over_160 : decode cX12_over 160 = .ok (.getfield 304, 3) := getB' kX12_over_7 7 rfl
theorem dX12_over_163 : decode cX12_over 163 = .ok (.iload_n 2, 1) := getB' kX12_over_7 8 rfl
theorem dX12_over_164 : decode cX12_over 164 = .ok (.iaload, 1) := getB' kX12_over_7 9 rfl
theorem dX12_over_165 : decode cX12_over 165 = .ok (.iaload, 1) := getB' kX12_over_7 10 rfl
theorem dX12_over_166 : decode cX12_over 166 = .ok (.aload_n 0, 1) := getB' kX12_over_7 11 rfl
def LX12_over_8 : List (Nat × Instr × Nat) := [(167, .getfield 316, 3), (170, .iload_n 2, 1), (171, .iaload, 1), (172, .invokevirtual 560, 3), (175, .istore 5, 2), (177, .iload 5, 2), (179, .iconst (-1), 1), (180, .if_icmp .eq 13, 3), (183, .lload_n 3, 1), (184, .iload 5, 2), (186, .i2l, 1), (187, .lcmp, 1)]
theorem kX12_over_8 : chkB cX12_over LX12_over_8 = true := by decide +kernel
theorem dX12_over_167 : decode cX12_over 167 = .ok (.getfield 316, 3) := getB' kX12_over_8 0 rfl
theorem dX12_over_170 : decode cX12_over 170 = .ok (.iload_n 2, 1) := getB' kX12_over_8 1 rfl
theorem dX12_over_171 : decode cX12_over 171 = .ok (.iaload, 1) := getB' kX12_over_8 2 rfl
theorem dX12_over_172 : decode cX12_over 172 = .ok (.invokevirtual 560, 3) := getB' kX12_over_8 3 rfl
theorem dX12_over_175 : decode cX12_over 175 = .ok (.istore 5, 2) := getB' kX12_over_8 4 rfl
theorem dX12_over_177 : decode cX12_over 177 = .ok (.iload 5, 2) := getB' kX12_over_8 5 rfl
theorem dX12_over_179 : decode cX12_over 179 = .ok (.iconst (-1), 1) := getB' kX12_over_8 6 rfl
theorem dX12_over_180 : decode cX12_over 180 = .ok (.if_icmp .eq 13, 3) := getB' kX12_over_8 7 rfl
theorem dX12_over_183 : decode cX12_over 183 = .ok (.lload_n 3, 1) := getB' kX12_over_8 8 rfl
theorem dX12_over_184 : decode cX12_over 184 = .ok (.iload 5, 2) := getB' kX12_over_8 9 rfl
theorem dX12_over_186 : decode cX12_over 186 = .ok (.i2l, 1) := getB' kX12_over_8 10 rfl
theorem dX12_over_187 : decode cX12_over 187 = .ok (.lcmp, 1) := getB' kX12_over_8 11 rfl
def LX12_over_9 : List (Nat × Instr × Nat) := [(188, .ifCond .le 5, 3), (191, .iload_n 2, 1), (192, .istore_n 1, 1), (193, .iinc 2 1, 3), (196, .goto (-192), 3), (199, .iload_n 1, 1), (200, .ireturn, 1)]
theorem kX12_over_9 : chkB cX12_over LX12_over_9 = true := by decide +kernel
theorem dX12_over_188 : decode cX12_over 188 = .ok (.ifCond .le 5, 3) := getB' kX12_over_9 0 rfl
theorem dX12_over_191 : decode cX12_over 191 = .ok (.iload_n 2, 1) := getB' kX12_over_9 1 rfl
theorem dX12_over_192 : decode cX12_over 192 = .ok (.istore_n 1, 1) := getB' kX12_over_9 2 rfl
theorem dX12_over_193 : decode cX12_over 193 = .ok (.iinc 2 1, 3) := getB' kX12_over_9 3 rfl
theorem dX12_over_196 : decode cX12_over 196 = .ok (.goto (-192), 3) := getB' kX12_over_9 4 rfl
theorem dX12_over_199 : decode cX12_over 199 = .ok (.iload_n 1, 1) := getB' kX12_over_9 5 rfl
theorem dX12_over_200 : decode cX12_over 200 = .ok (.ireturn, 1) := getB' kX12_over_9 6 rfl
def LX12_isDoubt_0 : List (Nat × Instr × Nat) := [(0, .aload_n 0, 1), (1, .getfield 316, 3), (4, .iload_n 1, 1), (5, .iaload, 1), (6, .aload_n 0, 1), (7, .getfield 316, 3), (10, .iload_n 2, 1), (11, .iaload, 1), (12, .isub, 1), (13, .invokestatic 385, 3), (16, .istore_n 3, 1), (17, .aload_n 0, 1)]
theorem kX12_isDoubt_0 : chkB cX12_isDoubt LX12_isDoubt_0 = true := by decide +kernel
theorem dX12_isDoubt_0 : decode cX12_isDoubt 0 = .ok (.aload_n 0, 1) := getB' kX12_isDoubt_0 0 rfl
theorem dX12_isDoubt_1 : decode cX12_isDoubt 1 = .ok (.getfield 316, 3) := getB' kX12_isDoubt_0 1 rfl
theorem dX12_isDoubt_4 : decode cX12_isDoubt 4 = .ok (.iload_n 1, 1) := getB' kX12_isDoubt_0 2 rfl
theorem dX12_isDoubt_5 : decode cX12_isDoubt 5 = .ok (.iaload, 1) := getB' kX12_isDoubt_0 3 rfl
theorem dX12_isDoubt_6 : decode cX12_isDoubt 6 = .ok (.aload_n 0, 1) := getB' kX12_isDoubt_0 4 rfl
theorem dX12_isDoubt_7 : decode cX12_isDoubt 7 = .ok (.getfield 316, 3) := getB' kX12_isDoubt_0 5 rfl
theorem dX12_isDoubt_10 : decode cX12_isDoubt 10 = .ok (.iload_n 2, 1) := getB' kX12_isDoubt_0 6 rfl
theorem dX12_isDoubt_11 : decode cX12_isDoubt 11 = .ok (.iaload, 1) := getB' kX12_isDoubt_0 7 rfl
theorem dX12_isDoubt_12 : decode cX12_isDoubt 12 = .ok (.isub, 1) := getB' kX12_isDoubt_0 8 rfl
theorem dX12_isDoubt_13 : decode cX12_isDoubt 13 = .ok (.invokestatic 385, 3) := getB' kX12_isDoubt_0 9 rfl
theorem dX12_isDoubt_16 : decode cX12_isDoubt 16 = .ok (.istore_n 3, 1) := getB' kX12_isDoubt_0 10 rfl
theorem dX12_isDoubt_17 : decode cX12_isDoubt 17 = .ok (.aload_n 0, 1) := getB' kX12_isDoubt_0 11 rfl
def LX12_isDoubt_1 : List (Nat × Instr × Nat) := [(18, .getfield 304, 3), (21, .iload_n 1, 1), (22, .iaload, 1), (23, .aload_n 0, 1), (24, .getfield 304, 3), (27, .iload_n 2, 1), (28, .iaload, 1), (29, .if_icmp .ne 51, 3), (32, .aload_n 0, 1), (33, .getfield 310, 3), (36, .iload_n 1, 1), (37, .iaload, 1)]
theorem kX12_isDoubt_1 : chkB cX12_isDoubt LX12_isDoubt_1 = true := by decide +kernel
theorem dX12_isDoubt_18 : decode cX12_isDoubt 18 = .ok (.getfield 304, 3) := getB' kX12_isDoubt_1 0 rfl
theorem dX12_isDoubt_21 : decode cX12_isDoubt 21 = .ok (.iload_n 1, 1) := getB' kX12_isDoubt_1 1 rfl
theorem dX12_isDoubt_22 : decode cX12_isDoubt 22 = .ok (.iaload, 1) := getB' kX12_isDoubt_1 2 rfl
theorem dX12_isDoubt_23 : decode cX12_isDoubt 23 = .ok (.aload_n 0, 1) := getB' kX12_isDoubt_1 3 rfl
theorem dX12_isDoubt_24 : decode cX12_isDoubt 24 = .ok (.getfield 304, 3) := getB' kX12_isDoubt_1 4 rfl
theorem dX12_isDoubt_27 : decode cX12_isDoubt 27 = .ok (.iload_n 2, 1) := getB' kX12_isDoubt_1 5 rfl
theorem dX12_isDoubt_28 : decode cX12_isDoubt 28 = .ok (.iaload, 1) := getB' kX12_isDoubt_1 6 rfl
theorem dX12_isDoubt_29 : decode cX12_isDoubt 29 = .ok (.if_icmp .ne 51, 3) := getB' kX12_isDoubt_1 7 rfl
theorem dX12_isDoubt_32 : decode cX12_isDoubt 32 = .ok (.aload_n 0, 1) := getB' kX12_isDoubt_1 8 rfl
theorem dX12_isDoubt_33 : decode cX12_isDoubt 33 = .ok (.getfield 310, 3) := getB' kX12_isDoubt_1 9 rfl
theorem dX12_isDoubt_36 : decode cX12_isDoubt 36 = .ok (.iload_n 1, 1) := getB' kX12_isDoubt_1 10 rfl
theorem dX12_isDoubt_37 : decode cX12_isDoubt 37 = .ok (.iaload, 1) := getB' kX12_isDoubt_1 11 rfl
def LX12_isDoubt_2 : List (Nat × Instr × Nat) := [(38, .aload_n 0, 1), (39, .getfield 310, 3), (42, .iload_n 2, 1), (43, .iaload, 1), (44, .if_icmp .eq 36, 3), (47, .iload_n 3, 1), (48, .aload_n 0, 1), (49, .getfield 244, 3), (52, .aload_n 0, 1), (53, .getfield 310, 3), (56, .iload_n 1, 1), (57, .iaload, 1)]
theorem kX12_isDoubt_2 : chkB cX12_isDoubt LX12_isDoubt_2 = true := by decide +kernel
theorem dX12_isDoubt_38 : decode cX12_isDoubt 38 = .ok (.aload_n 0, 1) := getB' kX12_isDoubt_2 0 rfl
theorem dX12_isDoubt_39 : decode cX12_isDoubt 39 = .ok (.getfield 310, 3) := getB' kX12_isDoubt_2 1 rfl
theorem dX12_isDoubt_42 : decode cX12_isDoubt 42 = .ok (.iload_n 2, 1) := getB' kX12_isDoubt_2 2 rfl
theorem dX12_isDoubt_43 : decode cX12_isDoubt 43 = .ok (.iaload, 1) := getB' kX12_isDoubt_2 3 rfl
theorem dX12_isDoubt_44 : decode cX12_isDoubt 44 = .ok (.if_icmp .eq 36, 3) := getB' kX12_isDoubt_2 4 rfl
theorem dX12_isDoubt_47 : decode cX12_isDoubt 47 = .ok (.iload_n 3, 1) := getB' kX12_isDoubt_2 5 rfl
theorem dX12_isDoubt_48 : decode cX12_isDoubt 48 = .ok (.aload_n 0, 1) := getB' kX12_isDoubt_2 6 rfl
theorem dX12_isDoubt_49 : decode cX12_isDoubt 49 = .ok (.getfield 244, 3) := getB' kX12_isDoubt_2 7 rfl
theorem dX12_isDoubt_52 : decode cX12_isDoubt 52 = .ok (.aload_n 0, 1) := getB' kX12_isDoubt_2 8 rfl
theorem dX12_isDoubt_53 : decode cX12_isDoubt 53 = .ok (.getfield 310, 3) := getB' kX12_isDoubt_2 9 rfl
theorem dX12_isDoubt_56 : decode cX12_isDoubt 56 = .ok (.iload_n 1, 1) := getB' kX12_isDoubt_2 10 rfl
theorem dX12_isDoubt_57 : decode cX12_isDoubt 57 = .ok (.iaload, 1) := getB' kX12_isDoubt_2 11 rfl
def LX12_isDoubt_3 : List (Nat × Instr × Nat) := [(58, .iaload, 1), (59, .aload_n 0, 1), (60, .getfield 244, 3), (63, .aload_n 0, 1), (64, .getfield 310, 3), (67, .iload_n 2, 1), (68, .iaload, 1), (69, .iaload, 1), (70, .iadd, 1), (71, .iconst 4, 1), (72, .idiv, 1), (73, .if_icmp .ge 7, 3)]
theorem kX12_isDoubt_3 : chkB cX12_isDoubt LX12_isDoubt_3 = true := by decide +kernel
theorem dX12_isDoubt_58 : decode cX12_isDoubt 58 = .ok (.iaload, 1) := getB' kX12_isDoubt_3 0 rfl
theorem dX12_isDoubt_59 : decode cX12_isDoubt 59 = .ok (.aload_n 0, 1) := getB' kX12_isDoubt_3 1 rfl
theorem dX12_isDoubt_60 : decode cX12_isDoubt 60 = .ok (.getfield 244, 3) := getB' kX12_isDoubt_3 2 rfl
theorem dX12_isDoubt_63 : decode cX12_isDoubt 63 = .ok (.aload_n 0, 1) := getB' kX12_isDoubt_3 3 rfl
theorem dX12_isDoubt_64 : decode cX12_isDoubt 64 = .ok (.getfield 310, 3) := getB' kX12_isDoubt_3 4 rfl
theorem dX12_isDoubt_67 : decode cX12_isDoubt 67 = .ok (.iload_n 2, 1) := getB' kX12_isDoubt_3 5 rfl
theorem dX12_isDoubt_68 : decode cX12_isDoubt 68 = .ok (.iaload, 1) := getB' kX12_isDoubt_3 6 rfl
theorem dX12_isDoubt_69 : decode cX12_isDoubt 69 = .ok (.iaload, 1) := getB' kX12_isDoubt_3 7 rfl
theorem dX12_isDoubt_70 : decode cX12_isDoubt 70 = .ok (.iadd, 1) := getB' kX12_isDoubt_3 8 rfl
theorem dX12_isDoubt_71 : decode cX12_isDoubt 71 = .ok (.iconst 4, 1) := getB' kX12_isDoubt_3 9 rfl
theorem dX12_isDoubt_72 : decode cX12_isDoubt 72 = .ok (.idiv, 1) := getB' kX12_isDoubt_3 10 rfl
theorem dX12_isDoubt_73 : decode cX12_isDoubt 73 = .ok (.if_icmp .ge 7, 3) := getB' kX12_isDoubt_3 11 rfl
def LX12_isDoubt_4 : List (Nat × Instr × Nat) := [(76, .iconst 1, 1), (77, .goto 4, 3), (80, .iconst 0, 1), (81, .ireturn, 1)]
theorem kX12_isDoubt_4 : chkB cX12_isDoubt LX12_isDoubt_4 = true := by decide +kernel
theorem dX12_isDoubt_76 : decode cX12_isDoubt 76 = .ok (.iconst 1, 1) := getB' kX12_isDoubt_4 0 rfl
theorem dX12_isDoubt_77 : decode cX12_isDoubt 77 = .ok (.goto 4, 3) := getB' kX12_isDoubt_4 1 rfl
theorem dX12_isDoubt_80 : decode cX12_isDoubt 80 = .ok (.iconst 0, 1) := getB' kX12_isDoubt_4 2 rfl
theorem dX12_isDoubt_81 : decode cX12_isDoubt 81 = .ok (.ireturn, 1) := getB' kX12_isDoubt_4 3 rfl
def LX12_doubt_0 : List (Nat × Instr × Nat) := [(0, .iload_n 1, 1), (1, .iconst 0, 1), (2, .iconst 1, 1), (3, .invokestatic 371, 3), (6, .ifCond .ne 5, 3), (9, .iconst (-1), 1), (10, .ireturn, 1), (11, .iconst 0, 1), (12, .istore_n 2, 1), (13, .iload_n 2, 1), (14, .aload_n 0, 1), (15, .getfield 709, 3)]
theorem kX12_doubt_0 : chkB cX12_doubt LX12_doubt_0 = true := by decide +kernel
theorem dX12_doubt_0 : decode cX12_doubt 0 = .ok (.iload_n 1, 1) := getB' kX12_doubt_0 0 rfl
theorem dX12_doubt_1 : decode cX12_doubt 1 = .ok (.iconst 0, 1) := getB' kX12_doubt_0 1 rfl
theorem dX12_doubt_2 : decode cX12_doubt 2 = .ok (.iconst 1, 1) := getB' kX12_doubt_0 2 rfl
theorem dX12_doubt_3 : decode cX12_doubt 3 = .ok (.invokestatic 371, 3) := getB' kX12_doubt_0 3 rfl
theorem dX12_doubt_6 : decode cX12_doubt 6 = .ok (.ifCond .ne 5, 3) := getB' kX12_doubt_0 4 rfl
theorem dX12_doubt_9 : decode cX12_doubt 9 = .ok (.iconst (-1), 1) := getB' kX12_doubt_0 5 rfl
theorem dX12_doubt_10 : decode cX12_doubt 10 = .ok (.ireturn, 1) := getB' kX12_doubt_0 6 rfl
theorem dX12_doubt_11 : decode cX12_doubt 11 = .ok (.iconst 0, 1) := getB' kX12_doubt_0 7 rfl
theorem dX12_doubt_12 : decode cX12_doubt 12 = .ok (.istore_n 2, 1) := getB' kX12_doubt_0 8 rfl
theorem dX12_doubt_13 : decode cX12_doubt 13 = .ok (.iload_n 2, 1) := getB' kX12_doubt_0 9 rfl
theorem dX12_doubt_14 : decode cX12_doubt 14 = .ok (.aload_n 0, 1) := getB' kX12_doubt_0 10 rfl
theorem dX12_doubt_15 : decode cX12_doubt 15 = .ok (.getfield 709, 3) := getB' kX12_doubt_0 11 rfl
def LX12_doubt_1 : List (Nat × Instr × Nat) := [(18, .if_icmp .ge 46, 3), (21, .iload_n 2, 1), (22, .iconst 1, 1), (23, .iadd, 1), (24, .istore_n 3, 1), (25, .iload_n 3, 1), (26, .aload_n 0, 1), (27, .getfield 709, 3), (30, .if_icmp .ge 28, 3), (33, .aload_n 0, 1), (34, .iload_n 2, 1), (35, .iload_n 3, 1)]
theorem kX12_doubt_1 : chkB cX12_doubt LX12_doubt_1 = true := by decide +kernel
theorem dX12_doubt_18 : decode cX12_doubt 18 = .ok (.if_icmp .ge 46, 3) := getB' kX12_doubt_1 0 rfl
theorem dX12_doubt_21 : decode cX12_doubt 21 = .ok (.iload_n 2, 1) := getB' kX12_doubt_1 1 rfl
theorem dX12_doubt_22 : decode cX12_doubt 22 = .ok (.iconst 1, 1) := getB' kX12_doubt_1 2 rfl
theorem dX12_doubt_23 : decode cX12_doubt 23 = .ok (.iadd, 1) := getB' kX12_doubt_1 3 rfl
theorem dX12_doubt_24 : decode cX12_doubt 24 = .ok (.istore_n 3, 1) := getB' kX12_doubt_1 4 rfl
theorem dX12_doubt_25 : decode cX12_doubt 25 = .ok (.iload_n 3, 1) := getB' kX12_doubt_1 5 rfl
theorem dX12_doubt_26 : decode cX12_doubt 26 = .ok (.aload_n 0, 1) := getB' kX12_doubt_1 6 rfl
theorem dX12_doubt_27 : decode cX12_doubt 27 = .ok (.getfield 709, 3) := getB' kX12_doubt_1 7 rfl
theorem dX12_doubt_30 : decode cX12_doubt 30 = .ok (.if_icmp .ge 28, 3) := getB' kX12_doubt_1 8 rfl
theorem dX12_doubt_33 : decode cX12_doubt 33 = .ok (.aload_n 0, 1) := getB' kX12_doubt_1 9 rfl
theorem dX12_doubt_34 : decode cX12_doubt 34 = .ok (.iload_n 2, 1) := getB' kX12_doubt_1 10 rfl
theorem dX12_doubt_35 : decode cX12_doubt 35 = .ok (.iload_n 3, 1) := getB' kX12_doubt_1 11 rfl
def LX12_doubt_2 : List (Nat × Instr × Nat) := [(36, .invokevirtual 715, 3), (39, .ifCond .eq 13, 3), (42, .iload_n 1, 1), (43, .ifCond .ne 7, 3), (46, .iload_n 2, 1), (47, .goto 4, 3), (50, .iload_n 3, 1), (51, .ireturn, 1), (52, .iinc 3 1, 3), (55, .goto (-30), 3), (58, .iinc 2 1, 3), (61, .goto (-48), 3)]
theorem kX12_doubt_2 : chkB cX12_doubt LX12_doubt_2 = true := by decide +kernel
theorem dX12_doubt_36 : decode cX12_doubt 36 = .ok (.invokevirtual 715, 3) := getB' kX12_doubt_2 0 rfl
theorem dX12_doubt_39 : decode cX12_doubt 39 = .ok (.ifCond .eq 13, 3) := getB' kX12_doubt_2 1 rfl
theorem dX12_doubt_42 : decode cX12_doubt 42 = .ok (.iload_n 1, 1) := getB' kX12_doubt_2 2 rfl
theorem dX12_doubt_43 : decode cX12_doubt 43 = .ok (.ifCond .ne 7, 3) := getB' kX12_doubt_2 3 rfl
theorem dX12_doubt_46 : decode cX12_doubt 46 = .ok (.iload_n 2, 1) := getB' kX12_doubt_2 4 rfl
theorem dX12_doubt_47 : decode cX12_doubt 47 = .ok (.goto 4, 3) := getB' kX12_doubt_2 5 rfl
theorem dX12_doubt_50 : decode cX12_doubt 50 = .ok (.iload_n 3, 1) := getB' kX12_doubt_2 6 rfl
theorem dX12_doubt_51 : decode cX12_doubt 51 = .ok (.ireturn, 1) := getB' kX12_doubt_2 7 rfl
theorem dX12_doubt_52 : decode cX12_doubt 52 = .ok (.iinc 3 1, 3) := getB' kX12_doubt_2 8 rfl
theorem dX12_doubt_55 : decode cX12_doubt 55 = .ok (.goto (-30), 3) := getB' kX12_doubt_2 9 rfl
theorem dX12_doubt_58 : decode cX12_doubt 58 = .ok (.iinc 2 1, 3) := getB' kX12_doubt_2 10 rfl
theorem dX12_doubt_61 : decode cX12_doubt 61 = .ok (.goto (-48), 3) := getB' kX12_doubt_2 11 rfl
def LX12_doubt_3 : List (Nat × Instr × Nat) := [(64, .iconst (-1), 1), (65, .ireturn, 1)]
theorem kX12_doubt_3 : chkB cX12_doubt LX12_doubt_3 = true := by decide +kernel
theorem dX12_doubt_64 : decode cX12_doubt 64 = .ok (.iconst (-1), 1) := getB' kX12_doubt_3 0 rfl
theorem dX12_doubt_65 : decode cX12_doubt 65 = .ok (.ireturn, 1) := getB' kX12_doubt_3 1 rfl
def LX12_word_0 : List (Nat × Instr × Nat) := [(0, .iload_n 1, 1), (1, .iconst 0, 1), (2, .sipush 1000, 3), (5, .invokestatic 371, 3), (8, .ifCond .eq 12, 3), (11, .aload_n 0, 1), (12, .getfield 718, 3), (15, .bipush 7, 2), (17, .if_icmp .ne 5, 3), (20, .iconst (-1), 1), (21, .ireturn, 1), (22, .aload_n 0, 1)]
theorem kX12_word_0 : chkB cX12_word LX12_word_0 = true := by decide +kernel
theorem dX12_word_0 : decode cX12_word 0 = .ok (.iload_n 1, 1) := getB' kX12_word_0 0 rfl
theorem dX12_word_1 : decode cX12_word 1 = .ok (.iconst 0, 1) := getB' kX12_word_0 1 rfl
theorem dX12_word_2 : decode cX12_word 2 = .ok (.sipush 1000, 3) := getB' kX12_word_0 2 rfl
theorem dX12_word_5 : decode cX12_word 5 = .ok (.invokestatic 371, 3) := getB' kX12_word_0 3 rfl
theorem dX12_word_8 : decode cX12_word 8 = .ok (.ifCond .eq 12, 3) := getB' kX12_word_0 4 rfl
theorem dX12_word_11 : decode cX12_word 11 = .ok (.aload_n 0, 1) := getB' kX12_word_0 5 rfl
theorem dX12_word_12 : decode cX12_word 12 = .ok (.getfield 718, 3) := getB' kX12_word_0 6 rfl
theorem dX12_word_15 : decode cX12_word 15 = .ok (.bipush 7, 2) := getB' kX12_word_0 7 rfl
theorem dX12_word_17 : decode cX12_word 17 = .ok (.if_icmp .ne 5, 3) := getB' kX12_word_0 8 rfl
theorem dX12_word_20 : decode cX12_word 20 = .ok (.iconst (-1), 1) := getB' kX12_word_0 9 rfl
theorem dX12_word_21 : decode cX12_word 21 = .ok (.ireturn, 1) := getB' kX12_word_0 10 rfl
theorem dX12_word_22 : decode cX12_word 22 = .ok (.aload_n 0, 1) := getB' kX12_word_0 11 rfl
def LX12_word_1 : List (Nat × Instr × Nat) := [(23, .getfield 319, 3), (26, .aload_n 0, 1), (27, .getfield 718, 3), (30, .iload_n 1, 1), (31, .iastore, 1), (32, .aload_n 0, 1), (33, .aload_n 0, 1), (34, .getfield 718, 3), (37, .iconst 1, 1), (38, .iadd, 1), (39, .putfield 718, 3), (42, .aload_n 0, 1)]
theorem kX12_word_1 : chkB cX12_word LX12_word_1 = true := by decide +kernel
theorem dX12_word_23 : decode cX12_word 23 = .ok (.getfield 319, 3) := getB' kX12_word_1 0 rfl
theorem dX12_word_26 : decode cX12_word 26 = .ok (.aload_n 0, 1) := getB' kX12_word_1 1 rfl
theorem dX12_word_27 : decode cX12_word 27 = .ok (.getfield 718, 3) := getB' kX12_word_1 2 rfl
theorem dX12_word_30 : decode cX12_word 30 = .ok (.iload_n 1, 1) := getB' kX12_word_1 3 rfl
theorem dX12_word_31 : decode cX12_word 31 = .ok (.iastore, 1) := getB' kX12_word_1 4 rfl
theorem dX12_word_32 : decode cX12_word 32 = .ok (.aload_n 0, 1) := getB' kX12_word_1 5 rfl
theorem dX12_word_33 : decode cX12_word 33 = .ok (.aload_n 0, 1) := getB' kX12_word_1 6 rfl
theorem dX12_word_34 : decode cX12_word 34 = .ok (.getfield 718, 3) := getB' kX12_word_1 7 rfl
theorem dX12_word_37 : decode cX12_word 37 = .ok (.iconst 1, 1) := getB' kX12_word_1 8 rfl
theorem dX12_word_38 : decode cX12_word 38 = .ok (.iadd, 1) := getB' kX12_word_1 9 rfl
theorem dX12_word_39 : decode cX12_word 39 = .ok (.putfield 718, 3) := getB' kX12_word_1 10 rfl
theorem dX12_word_42 : decode cX12_word 42 = .ok (.aload_n 0, 1) := getB' kX12_word_1 11 rfl
def LX12_word_2 : List (Nat × Instr × Nat) := [(43, .getfield 718, 3), (46, .iconst 1, 1), (47, .isub, 1), (48, .ireturn, 1)]
theorem kX12_word_2 : chkB cX12_word LX12_word_2 = true := by decide +kernel
theorem dX12_word_43 : decode cX12_word 43 = .ok (.getfield 718, 3) := getB' kX12_word_2 0 rfl
theorem dX12_word_46 : decode cX12_word 46 = .ok (.iconst 1, 1) := getB' kX12_word_2 1 rfl
theorem dX12_word_47 : decode cX12_word 47 = .ok (.isub, 1) := getB' kX12_word_2 2 rfl
theorem dX12_word_48 : decode cX12_word 48 = .ok (.ireturn, 1) := getB' kX12_word_2 3 rfl
def LX12_isWord : List (Nat × Instr × Nat) := [(0, .iload_n 1, 1), (1, .ifCond .lt 15, 3), (4, .iload_n 1, 1), (5, .aload_n 0, 1), (6, .getfield 718, 3), (9, .if_icmp .ge 7, 3), (12, .iconst 1, 1), (13, .goto 4, 3), (16, .iconst 0, 1), (17, .ireturn, 1)]
theorem kX12_isWord : chkB cX12_isWord LX12_isWord = true := by decide +kernel
theorem dX12_isWord_0 : decode cX12_isWord 0 = .ok (.iload_n 1, 1) := getB' kX12_isWord 0 rfl
theorem dX12_isWord_1 : decode cX12_isWord 1 = .ok (.ifCond .lt 15, 3) := getB' kX12_isWord 1 rfl
theorem dX12_isWord_4 : decode cX12_isWord 4 = .ok (.iload_n 1, 1) := getB' kX12_isWord 2 rfl
theorem dX12_isWord_5 : decode cX12_isWord 5 = .ok (.aload_n 0, 1) := getB' kX12_isWord 3 rfl
theorem dX12_isWord_6 : decode cX12_isWord 6 = .ok (.getfield 718, 3) := getB' kX12_isWord 4 rfl
theorem dX12_isWord_9 : decode cX12_isWord 9 = .ok (.if_icmp .ge 7, 3) := getB' kX12_isWord 5 rfl
theorem dX12_isWord_12 : decode cX12_isWord 12 = .ok (.iconst 1, 1) := getB' kX12_isWord 6 rfl
theorem dX12_isWord_13 : decode cX12_isWord 13 = .ok (.goto 4, 3) := getB' kX12_isWord 7 rfl
theorem dX12_isWord_16 : decode cX12_isWord 16 = .ok (.iconst 0, 1) := getB' kX12_isWord 8 rfl
theorem dX12_isWord_17 : decode cX12_isWord 17 = .ok (.ireturn, 1) := getB' kX12_isWord 9 rfl
def LX12_asks_0 : List (Nat × Instr × Nat) := [(0, .aload_n 0, 1), (1, .iload_n 1, 1), (2, .invokevirtual 406, 3), (5, .ifCond .eq 29, 3), (8, .aload_n 0, 1), (9, .iload_n 2, 1), (10, .invokevirtual 721, 3), (13, .ifCond .eq 21, 3), (16, .iload_n 3, 1), (17, .iconst (-1), 1), (18, .if_icmp .eq 11, 3), (21, .aload_n 0, 1)]
theorem kX12_asks_0 : chkB cX12_asks LX12_asks_0 = true := by decide +kernel
theorem dX12_asks_0 : decode cX12_asks 0 = .ok (.aload_n 0, 1) := getB' kX12_asks_0 0 rfl
theorem dX12_asks_1 : decode cX12_asks 1 = .ok (.iload_n 1, 1) := getB' kX12_asks_0 1 rfl
theorem dX12_asks_2 : decode cX12_asks 2 = .ok (.invokevirtual 406, 3) := getB' kX12_asks_0 2 rfl
theorem dX12_asks_5 : decode cX12_asks 5 = .ok (.ifCond .eq 29, 3) := getB' kX12_asks_0 3 rfl
theorem dX12_asks_8 : decode cX12_asks 8 = .ok (.aload_n 0, 1) := getB' kX12_asks_0 4 rfl
theorem dX12_asks_9 : decode cX12_asks 9 = .ok (.iload_n 2, 1) := getB' kX12_asks_0 5 rfl
theorem dX12_asks_10 : decode cX12_asks 10 = .ok (.invokevirtual 721, 3) := getB' kX12_asks_0 6 rfl
theorem dX12_asks_13 : decode cX12_asks 13 = .ok (.ifCond .eq 21, 3) := getB' kX12_asks_0 7 rfl
theorem dX12_asks_16 : decode cX12_asks 16 = .ok (.iload_n 3, 1) := getB' kX12_asks_0 8 rfl
theorem dX12_asks_17 : decode cX12_asks 17 = .ok (.iconst (-1), 1) := getB' kX12_asks_0 9 rfl
theorem dX12_asks_18 : decode cX12_asks 18 = .ok (.if_icmp .eq 11, 3) := getB' kX12_asks_0 10 rfl
theorem dX12_asks_21 : decode cX12_asks 21 = .ok (.aload_n 0, 1) := getB' kX12_asks_0 11 rfl
def LX12_asks_1 : List (Nat × Instr × Nat) := [(22, .iload_n 3, 1), (23, .invokevirtual 721, 3), (26, .ifCond .eq 8, 3), (29, .iload_n 2, 1), (30, .iload_n 3, 1), (31, .if_icmp .ne 5, 3), (34, .iconst 0, 1), (35, .ireturn, 1), (36, .bipush 7, 2), (38, .iload_n 1, 1), (39, .imul, 1), (40, .iload_n 2, 1)]
theorem kX12_asks_1 : chkB cX12_asks LX12_asks_1 = true := by decide +kernel
theorem dX12_asks_22 : decode cX12_asks 22 = .ok (.iload_n 3, 1) := getB' kX12_asks_1 0 rfl
theorem dX12_asks_23 : decode cX12_asks 23 = .ok (.invokevirtual 721, 3) := getB' kX12_asks_1 1 rfl
theorem dX12_asks_26 : decode cX12_asks 26 = .ok (.ifCond .eq 8, 3) := getB' kX12_asks_1 2 rfl
theorem dX12_asks_29 : decode cX12_asks 29 = .ok (.iload_n 2, 1) := getB' kX12_asks_1 3 rfl
theorem dX12_asks_30 : decode cX12_asks 30 = .ok (.iload_n 3, 1) := getB' kX12_asks_1 4 rfl
theorem dX12_asks_31 : decode cX12_asks 31 = .ok (.if_icmp .ne 5, 3) := getB' kX12_asks_1 5 rfl
theorem dX12_asks_34 : decode cX12_asks 34 = .ok (.iconst 0, 1) := getB' kX12_asks_1 6 rfl
theorem dX12_asks_35 : decode cX12_asks 35 = .ok (.ireturn, 1) := getB' kX12_asks_1 7 rfl
theorem dX12_asks_36 : decode cX12_asks 36 = .ok (.bipush 7, 2) := getB' kX12_asks_1 8 rfl
theorem dX12_asks_38 : decode cX12_asks 38 = .ok (.iload_n 1, 1) := getB' kX12_asks_1 9 rfl
theorem dX12_asks_39 : decode cX12_asks 39 = .ok (.imul, 1) := getB' kX12_asks_1 10 rfl
theorem dX12_asks_40 : decode cX12_asks 40 = .ok (.iload_n 2, 1) := getB' kX12_asks_1 11 rfl
def LX12_asks_2 : List (Nat × Instr × Nat) := [(41, .iadd, 1), (42, .istore 4, 2), (44, .iload_n 3, 1), (45, .iconst (-1), 1), (46, .if_icmp .ne 16, 3), (49, .aload_n 0, 1), (50, .getfield 322, 3), (53, .iload 4, 2), (55, .baload, 1), (56, .ifCond .eq 23, 3), (59, .goto 18, 3), (62, .aload_n 0, 1)]
theorem kX12_asks_2 : chkB cX12_asks LX12_asks_2 = true := by decide +kernel
theorem dX12_asks_41 : decode cX12_asks 41 = .ok (.iadd, 1) := getB' kX12_asks_2 0 rfl
theorem dX12_asks_42 : decode cX12_asks 42 = .ok (.istore 4, 2) := getB' kX12_asks_2 1 rfl
theorem dX12_asks_44 : decode cX12_asks 44 = .ok (.iload_n 3, 1) := getB' kX12_asks_2 2 rfl
theorem dX12_asks_45 : decode cX12_asks 45 = .ok (.iconst (-1), 1) := getB' kX12_asks_2 3 rfl
theorem dX12_asks_46 : decode cX12_asks 46 = .ok (.if_icmp .ne 16, 3) := getB' kX12_asks_2 4 rfl
theorem dX12_asks_49 : decode cX12_asks 49 = .ok (.aload_n 0, 1) := getB' kX12_asks_2 5 rfl
theorem dX12_asks_50 : decode cX12_asks 50 = .ok (.getfield 322, 3) := getB' kX12_asks_2 6 rfl
theorem dX12_asks_53 : decode cX12_asks 53 = .ok (.iload 4, 2) := getB' kX12_asks_2 7 rfl
theorem dX12_asks_55 : decode cX12_asks 55 = .ok (.baload, 1) := getB' kX12_asks_2 8 rfl
theorem dX12_asks_56 : decode cX12_asks 56 = .ok (.ifCond .eq 23, 3) := getB' kX12_asks_2 9 rfl
theorem dX12_asks_59 : decode cX12_asks 59 = .ok (.goto 18, 3) := getB' kX12_asks_2 10 rfl
theorem dX12_asks_62 : decode cX12_asks 62 = .ok (.aload_n 0, 1) := getB' kX12_asks_2 11 rfl
def LX12_asks_3 : List (Nat × Instr × Nat) := [(63, .getfield 325, 3), (66, .bipush 7, 2), (68, .iload 4, 2), (70, .imul, 1), (71, .iload_n 3, 1), (72, .iadd, 1), (73, .baload, 1), (74, .ifCond .eq 5, 3), (77, .iconst 0, 1), (78, .ireturn, 1), (79, .iload_n 3, 1), (80, .iconst (-1), 1)]
theorem kX12_asks_3 : chkB cX12_asks LX12_asks_3 = true := by decide +kernel
theorem dX12_asks_63 : decode cX12_asks 63 = .ok (.getfield 325, 3) := getB' kX12_asks_3 0 rfl
theorem dX12_asks_66 : decode cX12_asks 66 = .ok (.bipush 7, 2) := getB' kX12_asks_3 1 rfl
theorem dX12_asks_68 : decode cX12_asks 68 = .ok (.iload 4, 2) := getB' kX12_asks_3 2 rfl
theorem dX12_asks_70 : decode cX12_asks 70 = .ok (.imul, 1) := getB' kX12_asks_3 3 rfl
theorem dX12_asks_71 : decode cX12_asks 71 = .ok (.iload_n 3, 1) := getB' kX12_asks_3 4 rfl
theorem dX12_asks_72 : decode cX12_asks 72 = .ok (.iadd, 1) := getB' kX12_asks_3 5 rfl
theorem dX12_asks_73 : decode cX12_asks 73 = .ok (.baload, 1) := getB' kX12_asks_3 6 rfl
theorem dX12_asks_74 : decode cX12_asks 74 = .ok (.ifCond .eq 5, 3) := getB' kX12_asks_3 7 rfl
theorem dX12_asks_77 : decode cX12_asks 77 = .ok (.iconst 0, 1) := getB' kX12_asks_3 8 rfl
theorem dX12_asks_78 : decode cX12_asks 78 = .ok (.ireturn, 1) := getB' kX12_asks_3 9 rfl
theorem dX12_asks_79 : decode cX12_asks 79 = .ok (.iload_n 3, 1) := getB' kX12_asks_3 10 rfl
theorem dX12_asks_80 : decode cX12_asks 80 = .ok (.iconst (-1), 1) := getB' kX12_asks_3 11 rfl
def LX12_asks_4 : List (Nat × Instr × Nat) := [(81, .if_icmp .ne 14, 3), (84, .aload_n 0, 1), (85, .getfield 322, 3), (88, .iload 4, 2), (90, .iconst 1, 1), (91, .bastore, 1), (92, .goto 16, 3), (95, .aload_n 0, 1), (96, .getfield 325, 3), (99, .bipush 7, 2), (101, .iload 4, 2), (103, .imul, 1)]
theorem kX12_asks_4 : chkB cX12_asks LX12_asks_4 = true := by decide +kernel
theorem dX12_asks_81 : decode cX12_asks 81 = .ok (.if_icmp .ne 14, 3) := getB' kX12_asks_4 0 rfl
theorem dX12_asks_84 : decode cX12_asks 84 = .ok (.aload_n 0, 1) := getB' kX12_asks_4 1 rfl
theorem dX12_asks_85 : decode cX12_asks 85 = .ok (.getfield 322, 3) := getB' kX12_asks_4 2 rfl
theorem dX12_asks_88 : decode cX12_asks 88 = .ok (.iload 4, 2) := getB' kX12_asks_4 3 rfl
theorem dX12_asks_90 : decode cX12_asks 90 = .ok (.iconst 1, 1) := getB' kX12_asks_4 4 rfl
theorem dX12_asks_91 : decode cX12_asks 91 = .ok (.bastore, 1) := getB' kX12_asks_4 5 rfl
theorem dX12_asks_92 : decode cX12_asks 92 = .ok (.goto 16, 3) := getB' kX12_asks_4 6 rfl
theorem dX12_asks_95 : decode cX12_asks 95 = .ok (.aload_n 0, 1) := getB' kX12_asks_4 7 rfl
theorem dX12_asks_96 : decode cX12_asks 96 = .ok (.getfield 325, 3) := getB' kX12_asks_4 8 rfl
theorem dX12_asks_99 : decode cX12_asks 99 = .ok (.bipush 7, 2) := getB' kX12_asks_4 9 rfl
theorem dX12_asks_101 : decode cX12_asks 101 = .ok (.iload 4, 2) := getB' kX12_asks_4 10 rfl
theorem dX12_asks_103 : decode cX12_asks 103 = .ok (.imul, 1) := getB' kX12_asks_4 11 rfl
def LX12_asks_5 : List (Nat × Instr × Nat) := [(104, .iload_n 3, 1), (105, .iadd, 1), (106, .iconst 1, 1), (107, .bastore, 1), (108, .iconst 1, 1), (109, .ireturn, 1)]
theorem kX12_asks_5 : chkB cX12_asks LX12_asks_5 = true := by decide +kernel
theorem dX12_asks_104 : decode cX12_asks 104 = .ok (.iload_n 3, 1) := getB' kX12_asks_5 0 rfl
theorem dX12_asks_105 : decode cX12_asks 105 = .ok (.iadd, 1) := getB' kX12_asks_5 1 rfl
theorem dX12_asks_106 : decode cX12_asks 106 = .ok (.iconst 1, 1) := getB' kX12_asks_5 2 rfl
theorem dX12_asks_107 : decode cX12_asks 107 = .ok (.bastore, 1) := getB' kX12_asks_5 3 rfl
theorem dX12_asks_108 : decode cX12_asks 108 = .ok (.iconst 1, 1) := getB' kX12_asks_5 4 rfl
theorem dX12_asks_109 : decode cX12_asks 109 = .ok (.ireturn, 1) := getB' kX12_asks_5 5 rfl
def LX12_isBlocked_0 : List (Nat × Instr × Nat) := [(0, .iconst 0, 1), (1, .istore_n 3, 1), (2, .iload_n 3, 1), (3, .aload_n 0, 1), (4, .getfield 718, 3), (7, .if_icmp .ge 92, 3), (10, .iload_n 2, 1), (11, .iload_n 3, 1), (12, .ishr, 1), (13, .iconst 1, 1), (14, .iand, 1), (15, .iconst 1, 1)]
theorem kX12_isBlocked_0 : chkB cX12_isBlocked LX12_isBlocked_0 = true := by decide +kernel
theorem dX12_isBlocked_0 : decode cX12_isBlocked 0 = .ok (.iconst 0, 1) := getB' kX12_isBlocked_0 0 rfl
theorem dX12_isBlocked_1 : decode cX12_isBlocked 1 = .ok (.istore_n 3, 1) := getB' kX12_isBlocked_0 1 rfl
theorem dX12_isBlocked_2 : decode cX12_isBlocked 2 = .ok (.iload_n 3, 1) := getB' kX12_isBlocked_0 2 rfl
theorem dX12_isBlocked_3 : decode cX12_isBlocked 3 = .ok (.aload_n 0, 1) := getB' kX12_isBlocked_0 3 rfl
theorem dX12_isBlocked_4 : decode cX12_isBlocked 4 = .ok (.getfield 718, 3) := getB' kX12_isBlocked_0 4 rfl
theorem dX12_isBlocked_7 : decode cX12_isBlocked 7 = .ok (.if_icmp .ge 92, 3) := getB' kX12_isBlocked_0 5 rfl
theorem dX12_isBlocked_10 : decode cX12_isBlocked 10 = .ok (.iload_n 2, 1) := getB' kX12_isBlocked_0 6 rfl
theorem dX12_isBlocked_11 : decode cX12_isBlocked 11 = .ok (.iload_n 3, 1) := getB' kX12_isBlocked_0 7 rfl
theorem dX12_isBlocked_12 : decode cX12_isBlocked 12 = .ok (.ishr, 1) := getB' kX12_isBlocked_0 8 rfl
theorem dX12_isBlocked_13 : decode cX12_isBlocked 13 = .ok (.iconst 1, 1) := getB' kX12_isBlocked_0 9 rfl
theorem dX12_isBlocked_14 : decode cX12_isBlocked 14 = .ok (.iand, 1) := getB' kX12_isBlocked_0 10 rfl
theorem dX12_isBlocked_15 : decode cX12_isBlocked 15 = .ok (.iconst 1, 1) := getB' kX12_isBlocked_0 11 rfl
def LX12_isBlocked_1 : List (Nat × Instr × Nat) := [(16, .if_icmp .ne 19, 3), (19, .aload_n 0, 1), (20, .getfield 322, 3), (23, .bipush 7, 2), (25, .iload_n 1, 1), (26, .imul, 1), (27, .iload_n 3, 1), (28, .iadd, 1), (29, .baload, 1), (30, .ifCond .eq 5, 3), (33, .iconst 1, 1), (34, .ireturn, 1)]
theorem kX12_isBlocked_1 : chkB cX12_isBlocked LX12_isBlocked_1 = true := by decide +kernel
theorem dX12_isBlocked_16 : decode cX12_isBlocked 16 = .ok (.if_icmp .ne 19, 3) := getB' kX12_isBlocked_1 0 rfl
theorem dX12_isBlocked_19 : decode cX12_isBlocked 19 = .ok (.aload_n 0, 1) := getB' kX12_isBlocked_1 1 rfl
theorem dX12_isBlocked_20 : decode cX12_isBlocked 20 = .ok (.getfield 322, 3) := getB' kX12_isBlocked_1 2 rfl
theorem dX12_isBlocked_23 : decode cX12_isBlocked 23 = .ok (.bipush 7, 2) := getB' kX12_isBlocked_1 3 rfl
theorem dX12_isBlocked_25 : decode cX12_isBlocked 25 = .ok (.iload_n 1, 1) := getB' kX12_isBlocked_1 4 rfl
theorem dX12_isBlocked_26 : decode cX12_isBlocked 26 = .ok (.imul, 1) := getB' kX12_isBlocked_1 5 rfl
theorem dX12_isBlocked_27 : decode cX12_isBlocked 27 = .ok (.iload_n 3, 1) := getB' kX12_isBlocked_1 6 rfl
theorem dX12_isBlocked_28 : decode cX12_isBlocked 28 = .ok (.iadd, 1) := getB' kX12_isBlocked_1 7 rfl
theorem dX12_isBlocked_29 : decode cX12_isBlocked 29 = .ok (.baload, 1) := getB' kX12_isBlocked_1 8 rfl
theorem dX12_isBlocked_30 : decode cX12_isBlocked 30 = .ok (.ifCond .eq 5, 3) := getB' kX12_isBlocked_1 9 rfl
theorem dX12_isBlocked_33 : decode cX12_isBlocked 33 = .ok (.iconst 1, 1) := getB' kX12_isBlocked_1 10 rfl
theorem dX12_isBlocked_34 : decode cX12_isBlocked 34 = .ok (.ireturn, 1) := getB' kX12_isBlocked_1 11 rfl
def LX12_isBlocked_2 : List (Nat × Instr × Nat) := [(35, .iconst 0, 1), (36, .istore 4, 2), (38, .iload 4, 2), (40, .aload_n 0, 1), (41, .getfield 718, 3), (44, .if_icmp .ge 49, 3), (47, .iload_n 2, 1), (48, .iload_n 3, 1), (49, .ishr, 1), (50, .iconst 1, 1), (51, .iand, 1), (52, .ifCond .ne 35, 3)]
theorem kX12_isBlocked_2 : chkB cX12_isBlocked LX12_isBlocked_2 = true := by decide +kernel
theorem dX12_isBlocked_35 : decode cX12_isBlocked 35 = .ok (.iconst 0, 1) := getB' kX12_isBlocked_2 0 rfl
theorem dX12_isBlocked_36 : decode cX12_isBlocked 36 = .ok (.istore 4, 2) := getB' kX12_isBlocked_2 1 rfl
theorem dX12_isBlocked_38 : decode cX12_isBlocked 38 = .ok (.iload 4, 2) := getB' kX12_isBlocked_2 2 rfl
theorem dX12_isBlocked_40 : decode cX12_isBlocked 40 = .ok (.aload_n 0, 1) := getB' kX12_isBlocked_2 3 rfl
theorem dX12_isBlocked_41 : decode cX12_isBlocked 41 = .ok (.getfield 718, 3) := getB' kX12_isBlocked_2 4 rfl
theorem dX12_isBlocked_44 : decode cX12_isBlocked 44 = .ok (.if_icmp .ge 49, 3) := getB' kX12_isBlocked_2 5 rfl
theorem dX12_isBlocked_47 : decode cX12_isBlocked 47 = .ok (.iload_n 2, 1) := getB' kX12_isBlocked_2 6 rfl
theorem dX12_isBlocked_48 : decode cX12_isBlocked 48 = .ok (.iload_n 3, 1) := getB' kX12_isBlocked_2 7 rfl
theorem dX12_isBlocked_49 : decode cX12_isBlocked 49 = .ok (.ishr, 1) := getB' kX12_isBlocked_2 8 rfl
theorem dX12_isBlocked_50 : decode cX12_isBlocked 50 = .ok (.iconst 1, 1) := getB' kX12_isBlocked_2 9 rfl
theorem dX12_isBlocked_51 : decode cX12_isBlocked 51 = .ok (.iand, 1) := getB' kX12_isBlocked_2 10 rfl
theorem dX12_isBlocked_52 : decode cX12_isBlocked 52 = .ok (.ifCond .ne 35, 3) := getB' kX12_isBlocked_2 11 rfl
def LX12_isBlocked_3 : List (Nat × Instr × Nat) := [(55, .iload_n 2, 1), (56, .iload 4, 2), (58, .ishr, 1), (59, .iconst 1, 1), (60, .iand, 1), (61, .iconst 1, 1), (62, .if_icmp .ne 25, 3), (65, .aload_n 0, 1), (66, .getfield 325, 3), (69, .bipush 7, 2), (71, .bipush 7, 2), (73, .iload_n 1, 1)]
theorem kX12_isBlocked_3 : chkB cX12_isBlocked LX12_isBlocked_3 = true := by decide +kernel
theorem dX12_isBlocked_55 : decode cX12_isBlocked 55 = .ok (.iload_n 2, 1) := getB' kX12_isBlocked_3 0 rfl
theorem dX12_isBlocked_56 : decode cX12_isBlocked 56 = .ok (.iload 4, 2) := getB' kX12_isBlocked_3 1 rfl
theorem dX12_isBlocked_58 : decode cX12_isBlocked 58 = .ok (.ishr, 1) := getB' kX12_isBlocked_3 2 rfl
theorem dX12_isBlocked_59 : decode cX12_isBlocked 59 = .ok (.iconst 1, 1) := getB' kX12_isBlocked_3 3 rfl
theorem dX12_isBlocked_60 : decode cX12_isBlocked 60 = .ok (.iand, 1) := getB' kX12_isBlocked_3 4 rfl
theorem dX12_isBlocked_61 : decode cX12_isBlocked 61 = .ok (.iconst 1, 1) := getB' kX12_isBlocked_3 5 rfl
theorem dX12_isBlocked_62 : decode cX12_isBlocked 62 = .ok (.if_icmp .ne 25, 3) := getB' kX12_isBlocked_3 6 rfl
theorem dX12_isBlocked_65 : decode cX12_isBlocked 65 = .ok (.aload_n 0, 1) := getB' kX12_isBlocked_3 7 rfl
theorem dX12_isBlocked_66 : decode cX12_isBlocked 66 = .ok (.getfield 325, 3) := getB' kX12_isBlocked_3 8 rfl
theorem dX12_isBlocked_69 : decode cX12_isBlocked 69 = .ok (.bipush 7, 2) := getB' kX12_isBlocked_3 9 rfl
theorem dX12_isBlocked_71 : decode cX12_isBlocked 71 = .ok (.bipush 7, 2) := getB' kX12_isBlocked_3 10 rfl
theorem dX12_isBlocked_73 : decode cX12_isBlocked 73 = .ok (.iload_n 1, 1) := getB' kX12_isBlocked_3 11 rfl
def LX12_isBlocked_4 : List (Nat × Instr × Nat) := [(74, .imul, 1), (75, .iload_n 3, 1), (76, .iadd, 1), (77, .imul, 1), (78, .iload 4, 2), (80, .iadd, 1), (81, .baload, 1), (82, .ifCond .eq 5, 3), (85, .iconst 1, 1), (86, .ireturn, 1), (87, .iinc 4 1, 3), (90, .goto (-52), 3)]
theorem kX12_isBlocked_4 : chkB cX12_isBlocked LX12_isBlocked_4 = true := by decide +kernel
theorem dX12_isBlocked_74 : decode cX12_isBlocked 74 = .ok (.imul, 1) := getB' kX12_isBlocked_4 0 rfl
theorem dX12_isBlocked_75 : decode cX12_isBlocked 75 = .ok (.iload_n 3, 1) := getB' kX12_isBlocked_4 1 rfl
theorem dX12_isBlocked_76 : decode cX12_isBlocked 76 = .ok (.iadd, 1) := getB' kX12_isBlocked_4 2 rfl
theorem dX12_isBlocked_77 : decode cX12_isBlocked 77 = .ok (.imul, 1) := getB' kX12_isBlocked_4 3 rfl
theorem dX12_isBlocked_78 : decode cX12_isBlocked 78 = .ok (.iload 4, 2) := getB' kX12_isBlocked_4 4 rfl
theorem dX12_isBlocked_80 : decode cX12_isBlocked 80 = .ok (.iadd, 1) := getB' kX12_isBlocked_4 5 rfl
theorem dX12_isBlocked_81 : decode cX12_isBlocked 81 = .ok (.baload, 1) := getB' kX12_isBlocked_4 6 rfl
theorem dX12_isBlocked_82 : decode cX12_isBlocked 82 = .ok (.ifCond .eq 5, 3) := getB' kX12_isBlocked_4 7 rfl
theorem dX12_isBlocked_85 : decode cX12_isBlocked 85 = .ok (.iconst 1, 1) := getB' kX12_isBlocked_4 8 rfl
theorem dX12_isBlocked_86 : decode cX12_isBlocked 86 = .ok (.ireturn, 1) := getB' kX12_isBlocked_4 9 rfl
theorem dX12_isBlocked_87 : decode cX12_isBlocked 87 = .ok (.iinc 4 1, 3) := getB' kX12_isBlocked_4 10 rfl
theorem dX12_isBlocked_90 : decode cX12_isBlocked 90 = .ok (.goto (-52), 3) := getB' kX12_isBlocked_4 11 rfl
def LX12_isBlocked_5 : List (Nat × Instr × Nat) := [(93, .iinc 3 1, 3), (96, .goto (-94), 3), (99, .iconst 0, 1), (100, .ireturn, 1)]
theorem kX12_isBlocked_5 : chkB cX12_isBlocked LX12_isBlocked_5 = true := by decide +kernel
theorem dX12_isBlocked_93 : decode cX12_isBlocked 93 = .ok (.iinc 3 1, 3) := getB' kX12_isBlocked_5 0 rfl
theorem dX12_isBlocked_96 : decode cX12_isBlocked 96 = .ok (.goto (-94), 3) := getB' kX12_isBlocked_5 1 rfl
theorem dX12_isBlocked_99 : decode cX12_isBlocked 99 = .ok (.iconst 0, 1) := getB' kX12_isBlocked_5 2 rfl
theorem dX12_isBlocked_100 : decode cX12_isBlocked 100 = .ok (.ireturn, 1) := getB' kX12_isBlocked_5 3 rfl
